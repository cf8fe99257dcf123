theorem dX5_init_0 : decode cX5_init 0 = .ok (.aload_n 0, 1) := by decide +kernel
theorem dX5_init_1 : decode cX5_init 1 = .ok (.invokespecial 1, 3) := by decide +kernel
theorem dX5_init_4 : decode cX5_init 4 = .ok (.aload_n 0, 1) := by decide +kernel
theorem dX5_init_5 : decode cX5_init 5 = .ok (.new 7, 3) := by decide +kernel
theorem dX5_init_8 : decode cX5_init 8 = .ok (.dup, 1) := by decide +kernel
theorem dX5_init_9 : decode cX5_init 9 = .ok (.invokespecial 9, 3) := by decide +kernel
theorem dX5_init_12 : decode cX5_init 12 = .ok (.putfield 10, 3) := by decide +kernel
theorem dX5_init_15 : decode cX5_init 15 = .ok (.aload_n 0, 1) := by decide +kernel
theorem dX5_init_16 : decode cX5_init 16 = .ok (.new 7, 3) := by decide +kernel
theorem dX5_init_19 : decode cX5_init 19 = .ok (.dup, 1) := by decide +kernel
theorem dX5_init_20 : decode cX5_init 20 = .ok (.invokespecial 9, 3) := by decide +kernel
theorem dX5_init_23 : decode cX5_init 23 = .ok (.putfield 16, 3) := by decide +kernel
theorem dX5_init_26 : decode cX5_init 26 = .ok (.aload_n 0, 1) := by decide +kernel
theorem dX5_init_27 : decode cX5_init 27 = .ok (.new 19, 3) := by decide +kernel
theorem dX5_init_30 : decode cX5_init 30 = .ok (.dup, 1) := by decide +kernel
theorem dX5_init_31 : decode cX5_init 31 = .ok (.invokespecial 21, 3) := by decide +kernel
theorem dX5_init_34 : decode cX5_init 34 = .ok (.putfield 22, 3) := by decide +kernel
theorem dX5_init_37 : decode cX5_init 37 = .ok (.aload_n 0, 1) := by decide +kernel
theorem dX5_init_38 : decode cX5_init 38 = .ok (.new 19, 3) := by decide +kernel
theorem dX5_init_41 : decode cX5_init 41 = .ok (.dup, 1) := by decide +kernel
theorem dX5_init_42 : decode cX5_init 42 = .ok (.invokespecial 21, 3) := by decide +kernel
theorem dX5_init_45 : decode cX5_init 45 = .ok (.putfield 26, 3) := by decide +kernel
theorem dX5_init_48 : decode cX5_init 48 = .ok (.aload_n 0, 1) := by decide +kernel
theorem dX5_init_49 : decode cX5_init 49 = .ok (.new 29, 3) := by decide +kernel
theorem dX5_init_52 : decode cX5_init 52 = .ok (.dup, 1) := by decide +kernel
theorem dX5_init_53 : decode cX5_init 53 = .ok (.invokespecial 31, 3) := by decide +kernel
theorem dX5_init_56 : decode cX5_init 56 = .ok (.putfield 32, 3) := by decide +kernel
theorem dX5_init_59 : decode cX5_init 59 = .ok (.aload_n 0, 1) := by decide +kernel
theorem dX5_init_60 : decode cX5_init 60 = .ok (.new 36, 3) := by decide +kernel
theorem dX5_init_63 : decode cX5_init 63 = .ok (.dup, 1) := by decide +kernel
theorem dX5_init_64 : decode cX5_init 64 = .ok (.invokespecial 38, 3) := by decide +kernel
theorem dX5_init_67 : decode cX5_init 67 = .ok (.putfield 39, 3) := by decide +kernel
theorem dX5_init_70 : decode cX5_init 70 = .ok (.aload_n 0, 1) := by decide +kernel
theorem dX5_init_71 : decode cX5_init 71 = .ok (.iconst 2, 1) := by decide +kernel
theorem dX5_init_72 : decode cX5_init 72 = .ok (.anewarray 43, 3) := by decide +kernel
theorem dX5_init_75 : decode cX5_init 75 = .ok (.putfield 45, 3) := by decide +kernel
theorem dX5_init_78 : decode cX5_init 78 = .ok (.iconst 0, 1) := by decide +kernel
theorem dX5_init_79 : decode cX5_init 79 = .ok (.istore_n 1, 1) := by decide +kernel
theorem dX5_init_80 : decode cX5_init 80 = .ok (.iload_n 1, 1) := by decide +kernel
theorem dX5_init_81 : decode cX5_init 81 = .ok (.aload_n 0, 1) := by decide +kernel
theorem dX5_init_82 : decode cX5_init 82 = .ok (.getfield 45, 3) := by decide +kernel
theorem dX5_init_85 : decode cX5_init 85 = .ok (.arraylength, 1) := by decide +kernel
theorem dX5_init_86 : decode cX5_init 86 = .ok (.if_icmp .ge 22, 3) := by decide +kernel
theorem dX5_init_89 : decode cX5_init 89 = .ok (.aload_n 0, 1) := by decide +kernel
theorem dX5_init_90 : decode cX5_init 90 = .ok (.getfield 45, 3) := by decide +kernel
theorem dX5_init_93 : decode cX5_init 93 = .ok (.iload_n 1, 1) := by decide +kernel
theorem dX5_init_94 : decode cX5_init 94 = .ok (.new 43, 3) := by decide +kernel
theorem dX5_init_97 : decode cX5_init 97 = .ok (.dup, 1) := by decide +kernel
theorem dX5_init_98 : decode cX5_init 98 = .ok (.invokespecial 49, 3) := by decide +kernel
theorem dX5_init_101 : decode cX5_init 101 = .ok (.aastore, 1) := by decide +kernel
theorem dX5_init_102 : decode cX5_init 102 = .ok (.iinc 1 1, 3) := by decide +kernel
theorem dX5_init_105 : decode cX5_init 105 = .ok (.goto (-25), 3) := by decide +kernel
theorem dX5_init_108 : decode cX5_init 108 = .ok (.return_, 1) := by decide +kernel
theorem dX5_told_0 : decode cX5_told 0 = .ok (.iload_n 1, 1) := by decide +kernel
theorem dX5_told_1 : decode cX5_told 1 = .ok (.tableswitch 256 0 19 #[95, 103, 111, 119, 127, 135, 143, 151, 159, 167, 175, 183, 191, 199, 207, 215, 220, 228, 236, 248], 95) := by decide +kernel
theorem dX5_told_96 : decode cX5_told 96 = .ok (.aload_n 0, 1) := by decide +kernel
theorem dX5_told_97 : decode cX5_told 97 = .ok (.getfield 10, 3) := by decide +kernel
theorem dX5_told_100 : decode cX5_told 100 = .ok (.getfield 50, 3) := by decide +kernel
theorem dX5_told_103 : decode cX5_told 103 = .ok (.ireturn, 1) := by decide +kernel
theorem dX5_told_104 : decode cX5_told 104 = .ok (.aload_n 0, 1) := by decide +kernel
theorem dX5_told_105 : decode cX5_told 105 = .ok (.getfield 10, 3) := by decide +kernel
theorem dX5_told_108 : decode cX5_told 108 = .ok (.getfield 54, 3) := by decide +kernel
theorem dX5_told_111 : decode cX5_told 111 = .ok (.ireturn, 1) := by decide +kernel
theorem dX5_told_112 : decode cX5_told 112 = .ok (.aload_n 0, 1) := by decide +kernel
theorem dX5_told_113 : decode cX5_told 113 = .ok (.getfield 10, 3) := by decide +kernel
theorem dX5_told_116 : decode cX5_told 116 = .ok (.getfield 57, 3) := by decide +kernel
theorem dX5_told_119 : decode cX5_told 119 = .ok (.ireturn, 1) := by decide +kernel
theorem dX5_told_120 : decode cX5_told 120 = .ok (.aload_n 0, 1) := by decide +kernel
theorem dX5_told_121 : decode cX5_told 121 = .ok (.getfield 10, 3) := by decide +kernel
theorem dX5_told_124 : decode cX5_told 124 = .ok (.getfield 60, 3) := by decide +kernel
theorem dX5_told_127 : decode cX5_told 127 = .ok (.ireturn, 1) := by decide +kernel
theorem dX5_told_128 : decode cX5_told 128 = .ok (.aload_n 0, 1) := by decide +kernel
theorem dX5_told_129 : decode cX5_told 129 = .ok (.getfield 10, 3) := by decide +kernel
theorem dX5_told_132 : decode cX5_told 132 = .ok (.invokevirtual 63, 3) := by decide +kernel
theorem dX5_told_135 : decode cX5_told 135 = .ok (.ireturn, 1) := by decide +kernel
theorem dX5_told_136 : decode cX5_told 136 = .ok (.aload_n 0, 1) := by decide +kernel
theorem dX5_told_137 : decode cX5_told 137 = .ok (.getfield 10, 3) := by decide +kernel
theorem dX5_told_140 : decode cX5_told 140 = .ok (.invokevirtual 67, 3) := by decide +kernel
theorem dX5_told_143 : decode cX5_told 143 = .ok (.ireturn, 1) := by decide +kernel
theorem dX5_told_144 : decode cX5_told 144 = .ok (.aload_n 0, 1) := by decide +kernel
theorem dX5_told_145 : decode cX5_told 145 = .ok (.getfield 10, 3) := by decide +kernel
theorem dX5_told_148 : decode cX5_told 148 = .ok (.invokevirtual 70, 3) := by decide +kernel
theorem dX5_told_151 : decode cX5_told 151 = .ok (.ireturn, 1) := by decide +kernel
theorem dX5_told_152 : decode cX5_told 152 = .ok (.aload_n 0, 1) := by decide +kernel
theorem dX5_told_153 : decode cX5_told 153 = .ok (.getfield 10, 3) := by decide +kernel
theorem dX5_told_156 : decode cX5_told 156 = .ok (.getfield 73, 3) := by decide +kernel
theorem dX5_told_159 : decode cX5_told 159 = .ok (.ireturn, 1) := by decide +kernel
theorem dX5_told_160 : decode cX5_told 160 = .ok (.aload_n 0, 1) := by decide +kernel
theorem dX5_told_161 : decode cX5_told 161 = .ok (.getfield 10, 3) := by decide +kernel
theorem dX5_told_164 : decode cX5_told 164 = .ok (.getfield 76, 3) := by decide +kernel
theorem dX5_told_167 : decode cX5_told 167 = .ok (.ireturn, 1) := by decide +kernel
theorem dX5_told_168 : decode cX5_told 168 = .ok (.aload_n 0, 1) := by decide +kernel
theorem dX5_told_169 : decode cX5_told 169 = .ok (.getfield 10, 3) := by decide +kernel
theorem dX5_told_172 : decode cX5_told 172 = .ok (.getfield 79, 3) := by decide +kernel
theorem dX5_told_175 : decode cX5_told 175 = .ok (.ireturn, 1) := by decide +kernel
theorem dX5_told_176 : decode cX5_told 176 = .ok (.aload_n 0, 1) := by decide +kernel
theorem dX5_told_177 : decode cX5_told 177 = .ok (.getfield 10, 3) := by decide +kernel
theorem dX5_told_180 : decode cX5_told 180 = .ok (.invokevirtual 82, 3) := by decide +kernel
theorem dX5_told_183 : decode cX5_told 183 = .ok (.ireturn, 1) := by decide +kernel
theorem dX5_told_184 : decode cX5_told 184 = .ok (.aload_n 0, 1) := by decide +kernel
theorem dX5_told_185 : decode cX5_told 185 = .ok (.getfield 10, 3) := by decide +kernel
theorem dX5_told_188 : decode cX5_told 188 = .ok (.invokevirtual 85, 3) := by decide +kernel
theorem dX5_told_191 : decode cX5_told 191 = .ok (.ireturn, 1) := by decide +kernel
theorem dX5_told_192 : decode cX5_told 192 = .ok (.aload_n 0, 1) := by decide +kernel
theorem dX5_told_193 : decode cX5_told 193 = .ok (.getfield 10, 3) := by decide +kernel
theorem dX5_told_196 : decode cX5_told 196 = .ok (.invokevirtual 88, 3) := by decide +kernel
theorem dX5_told_199 : decode cX5_told 199 = .ok (.ireturn, 1) := by decide +kernel
theorem dX5_told_200 : decode cX5_told 200 = .ok (.aload_n 0, 1) := by decide +kernel
theorem dX5_told_201 : decode cX5_told 201 = .ok (.invokevirtual 91, 3) := by decide +kernel
theorem dX5_told_204 : decode cX5_told 204 = .ok (.invokevirtual 95, 3) := by decide +kernel
theorem dX5_told_207 : decode cX5_told 207 = .ok (.ireturn, 1) := by decide +kernel
theorem dX5_told_208 : decode cX5_told 208 = .ok (.aload_n 0, 1) := by decide +kernel
theorem dX5_told_209 : decode cX5_told 209 = .ok (.invokevirtual 91, 3) := by decide +kernel
theorem dX5_told_212 : decode cX5_told 212 = .ok (.invokevirtual 98, 3) := by decide +kernel
theorem dX5_told_215 : decode cX5_told 215 = .ok (.ireturn, 1) := by decide +kernel
theorem dX5_told_216 : decode cX5_told 216 = .ok (.aload_n 0, 1) := by decide +kernel
theorem dX5_told_217 : decode cX5_told 217 = .ok (.invokevirtual 101, 3) := by decide +kernel
theorem dX5_told_220 : decode cX5_told 220 = .ok (.ireturn, 1) := by decide +kernel
theorem dX5_told_221 : decode cX5_told 221 = .ok (.aload_n 0, 1) := by decide +kernel
theorem dX5_told_222 : decode cX5_told 222 = .ok (.getfield 10, 3) := by decide +kernel
theorem dX5_told_225 : decode cX5_told 225 = .ok (.invokevirtual 104, 3) := by decide +kernel
theorem dX5_told_228 : decode cX5_told 228 = .ok (.ireturn, 1) := by decide +kernel
theorem dX5_told_229 : decode cX5_told 229 = .ok (.aload_n 0, 1) := by decide +kernel
theorem dX5_told_230 : decode cX5_told 230 = .ok (.getfield 39, 3) := by decide +kernel
theorem dX5_told_233 : decode cX5_told 233 = .ok (.getfield 107, 3) := by decide +kernel
theorem dX5_told_236 : decode cX5_told 236 = .ok (.ireturn, 1) := by decide +kernel
theorem dX5_told_237 : decode cX5_told 237 = .ok (.aload_n 0, 1) := by decide +kernel
theorem dX5_told_238 : decode cX5_told 238 = .ok (.getfield 39, 3) := by decide +kernel
theorem dX5_told_241 : decode cX5_told 241 = .ok (.aload_n 0, 1) := by decide +kernel
theorem dX5_told_242 : decode cX5_told 242 = .ok (.getfield 10, 3) := by decide +kernel
theorem dX5_told_245 : decode cX5_told 245 = .ok (.invokevirtual 110, 3) := by decide +kernel
theorem dX5_told_248 : decode cX5_told 248 = .ok (.ireturn, 1) := by decide +kernel
theorem dX5_told_249 : decode cX5_told 249 = .ok (.aload_n 0, 1) := by decide +kernel
theorem dX5_told_250 : decode cX5_told 250 = .ok (.getfield 32, 3) := by decide +kernel
theorem dX5_told_253 : decode cX5_told 253 = .ok (.getfield 114, 3) := by decide +kernel
theorem dX5_told_256 : decode cX5_told 256 = .ok (.ireturn, 1) := by decide +kernel
theorem dX5_told_257 : decode cX5_told 257 = .ok (.ldc 117, 2) := by decide +kernel
theorem dX5_told_259 : decode cX5_told 259 = .ok (.ireturn, 1) := by decide +kernel
theorem dX5_cell_0 : decode cX5_cell 0 = .ok (.aload_n 0, 1) := by decide +kernel
theorem dX5_cell_1 : decode cX5_cell 1 = .ok (.getfield 10, 3) := by decide +kernel
theorem dX5_cell_4 : decode cX5_cell 4 = .ok (.iload_n 1, 1) := by decide +kernel
theorem dX5_cell_5 : decode cX5_cell 5 = .ok (.invokevirtual 118, 3) := by decide +kernel
theorem dX5_cell_8 : decode cX5_cell 8 = .ok (.ifCond .ne 6, 3) := by decide +kernel
theorem dX5_cell_11 : decode cX5_cell 11 = .ok (.ldc 122, 2) := by decide +kernel
theorem dX5_cell_13 : decode cX5_cell 13 = .ok (.ireturn, 1) := by decide +kernel
theorem dX5_cell_14 : decode cX5_cell 14 = .ok (.iload_n 2, 1) := by decide +kernel
theorem dX5_cell_15 : decode cX5_cell 15 = .ok (.tableswitch 78 0 4 #[33, 43, 53, 63, 72], 33) := by decide +kernel
theorem dX5_cell_48 : decode cX5_cell 48 = .ok (.aload_n 0, 1) := by decide +kernel
theorem dX5_cell_49 : decode cX5_cell 49 = .ok (.getfield 10, 3) := by decide +kernel
theorem dX5_cell_52 : decode cX5_cell 52 = .ok (.getfield 123, 3) := by decide +kernel
theorem dX5_cell_55 : decode cX5_cell 55 = .ok (.iload_n 1, 1) := by decide +kernel
theorem dX5_cell_56 : decode cX5_cell 56 = .ok (.iaload, 1) := by decide +kernel
theorem dX5_cell_57 : decode cX5_cell 57 = .ok (.ireturn, 1) := by decide +kernel
theorem dX5_cell_58 : decode cX5_cell 58 = .ok (.aload_n 0, 1) := by decide +kernel
theorem dX5_cell_59 : decode cX5_cell 59 = .ok (.getfield 10, 3) := by decide +kernel
theorem dX5_cell_62 : decode cX5_cell 62 = .ok (.getfield 127, 3) := by decide +kernel
theorem dX5_cell_65 : decode cX5_cell 65 = .ok (.iload_n 1, 1) := by decide +kernel
theorem dX5_cell_66 : decode cX5_cell 66 = .ok (.iaload, 1) := by decide +kernel
theorem dX5_cell_67 : decode cX5_cell 67 = .ok (.ireturn, 1) := by decide +kernel
theorem dX5_cell_68 : decode cX5_cell 68 = .ok (.aload_n 0, 1) := by decide +kernel
theorem dX5_cell_69 : decode cX5_cell 69 = .ok (.getfield 10, 3) := by decide +kernel
theorem dX5_cell_72 : decode cX5_cell 72 = .ok (.getfield 130, 3) := by decide +kernel
theorem dX5_cell_75 : decode cX5_cell 75 = .ok (.iload_n 1, 1) := by decide +kernel
theorem dX5_cell_76 : decode cX5_cell 76 = .ok (.iaload, 1) := by decide +kernel
theorem dX5_cell_77 : decode cX5_cell 77 = .ok (.ireturn, 1) := by decide +kernel
theorem dX5_cell_78 : decode cX5_cell 78 = .ok (.aload_n 0, 1) := by decide +kernel
theorem dX5_cell_79 : decode cX5_cell 79 = .ok (.getfield 10, 3) := by decide +kernel
theorem dX5_cell_82 : decode cX5_cell 82 = .ok (.iload_n 1, 1) := by decide +kernel
theorem dX5_cell_83 : decode cX5_cell 83 = .ok (.invokevirtual 133, 3) := by decide +kernel
theorem dX5_cell_86 : decode cX5_cell 86 = .ok (.ireturn, 1) := by decide +kernel
theorem dX5_cell_87 : decode cX5_cell 87 = .ok (.aload_n 0, 1) := by decide +kernel
theorem dX5_cell_88 : decode cX5_cell 88 = .ok (.iload_n 1, 1) := by decide +kernel
theorem dX5_cell_89 : decode cX5_cell 89 = .ok (.invokevirtual 137, 3) := by decide +kernel
theorem dX5_cell_92 : decode cX5_cell 92 = .ok (.ireturn, 1) := by decide +kernel
theorem dX5_cell_93 : decode cX5_cell 93 = .ok (.ldc 117, 2) := by decide +kernel
theorem dX5_cell_95 : decode cX5_cell 95 = .ok (.ireturn, 1) := by decide +kernel
theorem dX5_edge_0 : decode cX5_edge 0 = .ok (.aload_n 0, 1) := by decide +kernel
theorem dX5_edge_1 : decode cX5_edge 1 = .ok (.getfield 10, 3) := by decide +kernel
theorem dX5_edge_4 : decode cX5_edge 4 = .ok (.iload_n 1, 1) := by decide +kernel
theorem dX5_edge_5 : decode cX5_edge 5 = .ok (.invokevirtual 140, 3) := by decide +kernel
theorem dX5_edge_8 : decode cX5_edge 8 = .ok (.ifCond .ne 6, 3) := by decide +kernel
theorem dX5_edge_11 : decode cX5_edge 11 = .ok (.ldc 122, 2) := by decide +kernel
theorem dX5_edge_13 : decode cX5_edge 13 = .ok (.ireturn, 1) := by decide +kernel
theorem dX5_edge_14 : decode cX5_edge 14 = .ok (.iload_n 2, 1) := by decide +kernel
theorem dX5_edge_15 : decode cX5_edge 15 = .ok (.tableswitch 68 0 2 #[25, 42, 59], 25) := by decide +kernel
theorem dX5_edge_40 : decode cX5_edge 40 = .ok (.aload_n 0, 1) := by decide +kernel
theorem dX5_edge_41 : decode cX5_edge 41 = .ok (.getfield 10, 3) := by decide +kernel
theorem dX5_edge_44 : decode cX5_edge 44 = .ok (.iload_n 1, 1) := by decide +kernel
theorem dX5_edge_45 : decode cX5_edge 45 = .ok (.invokevirtual 143, 3) := by decide +kernel
theorem dX5_edge_48 : decode cX5_edge 48 = .ok (.ifCond .eq 7, 3) := by decide +kernel
theorem dX5_edge_51 : decode cX5_edge 51 = .ok (.iconst 1, 1) := by decide +kernel
theorem dX5_edge_52 : decode cX5_edge 52 = .ok (.goto 4, 3) := by decide +kernel
theorem dX5_edge_55 : decode cX5_edge 55 = .ok (.iconst 0, 1) := by decide +kernel
theorem dX5_edge_56 : decode cX5_edge 56 = .ok (.ireturn, 1) := by decide +kernel
theorem dX5_edge_57 : decode cX5_edge 57 = .ok (.aload_n 0, 1) := by decide +kernel
theorem dX5_edge_58 : decode cX5_edge 58 = .ok (.getfield 10, 3) := by decide +kernel
theorem dX5_edge_61 : decode cX5_edge 61 = .ok (.iload_n 1, 1) := by decide +kernel
theorem dX5_edge_62 : decode cX5_edge 62 = .ok (.invokevirtual 146, 3) := by decide +kernel
theorem dX5_edge_65 : decode cX5_edge 65 = .ok (.ifCond .eq 7, 3) := by decide +kernel
theorem dX5_edge_68 : decode cX5_edge 68 = .ok (.iconst 1, 1) := by decide +kernel
theorem dX5_edge_69 : decode cX5_edge 69 = .ok (.goto 4, 3) := by decide +kernel
theorem dX5_edge_72 : decode cX5_edge 72 = .ok (.iconst 0, 1) := by decide +kernel
theorem dX5_edge_73 : decode cX5_edge 73 = .ok (.ireturn, 1) := by decide +kernel
theorem dX5_edge_74 : decode cX5_edge 74 = .ok (.aload_n 0, 1) := by decide +kernel
theorem dX5_edge_75 : decode cX5_edge 75 = .ok (.getfield 10, 3) := by decide +kernel
theorem dX5_edge_78 : decode cX5_edge 78 = .ok (.iload_n 1, 1) := by decide +kernel
theorem dX5_edge_79 : decode cX5_edge 79 = .ok (.invokevirtual 149, 3) := by decide +kernel
theorem dX5_edge_82 : decode cX5_edge 82 = .ok (.ireturn, 1) := by decide +kernel
theorem dX5_edge_83 : decode cX5_edge 83 = .ok (.ldc 117, 2) := by decide +kernel
theorem dX5_edge_85 : decode cX5_edge 85 = .ok (.ireturn, 1) := by decide +kernel
theorem dX5_truckAt_0 : decode cX5_truckAt 0 = .ok (.aload_n 0, 1) := by decide +kernel
theorem dX5_truckAt_1 : decode cX5_truckAt 1 = .ok (.getfield 10, 3) := by decide +kernel
theorem dX5_truckAt_4 : decode cX5_truckAt 4 = .ok (.iload_n 1, 1) := by decide +kernel
theorem dX5_truckAt_5 : decode cX5_truckAt 5 = .ok (.invokevirtual 152, 3) := by decide +kernel
theorem dX5_truckAt_8 : decode cX5_truckAt 8 = .ok (.ifCond .ne 6, 3) := by decide +kernel
theorem dX5_truckAt_11 : decode cX5_truckAt 11 = .ok (.ldc 122, 2) := by decide +kernel
theorem dX5_truckAt_13 : decode cX5_truckAt 13 = .ok (.ireturn, 1) := by decide +kernel
theorem dX5_truckAt_14 : decode cX5_truckAt 14 = .ok (.iload_n 2, 1) := by decide +kernel
theorem dX5_truckAt_15 : decode cX5_truckAt 15 = .ok (.tableswitch 51 0 2 #[25, 35, 45], 25) := by decide +kernel
theorem dX5_truckAt_40 : decode cX5_truckAt 40 = .ok (.aload_n 0, 1) := by decide +kernel
theorem dX5_truckAt_41 : decode cX5_truckAt 41 = .ok (.getfield 10, 3) := by decide +kernel
theorem dX5_truckAt_44 : decode cX5_truckAt 44 = .ok (.getfield 155, 3) := by decide +kernel
theorem dX5_truckAt_47 : decode cX5_truckAt 47 = .ok (.iload_n 1, 1) := by decide +kernel
theorem dX5_truckAt_48 : decode cX5_truckAt 48 = .ok (.iaload, 1) := by decide +kernel
theorem dX5_truckAt_49 : decode cX5_truckAt 49 = .ok (.ireturn, 1) := by decide +kernel
theorem dX5_truckAt_50 : decode cX5_truckAt 50 = .ok (.aload_n 0, 1) := by decide +kernel
theorem dX5_truckAt_51 : decode cX5_truckAt 51 = .ok (.getfield 10, 3) := by decide +kernel
theorem dX5_truckAt_54 : decode cX5_truckAt 54 = .ok (.getfield 158, 3) := by decide +kernel
theorem dX5_truckAt_57 : decode cX5_truckAt 57 = .ok (.iload_n 1, 1) := by decide +kernel
theorem dX5_truckAt_58 : decode cX5_truckAt 58 = .ok (.iaload, 1) := by decide +kernel
theorem dX5_truckAt_59 : decode cX5_truckAt 59 = .ok (.ireturn, 1) := by decide +kernel
theorem dX5_truckAt_60 : decode cX5_truckAt 60 = .ok (.aload_n 0, 1) := by decide +kernel
theorem dX5_truckAt_61 : decode cX5_truckAt 61 = .ok (.iload_n 1, 1) := by decide +kernel
theorem dX5_truckAt_62 : decode cX5_truckAt 62 = .ok (.invokevirtual 161, 3) := by decide +kernel
theorem dX5_truckAt_65 : decode cX5_truckAt 65 = .ok (.ireturn, 1) := by decide +kernel
theorem dX5_truckAt_66 : decode cX5_truckAt 66 = .ok (.ldc 117, 2) := by decide +kernel
theorem dX5_truckAt_68 : decode cX5_truckAt 68 = .ok (.ireturn, 1) := by decide +kernel
theorem dX5_build_0 : decode cX5_build 0 = .ok (.iload_n 1, 1) := by decide +kernel
theorem dX5_build_1 : decode cX5_build 1 = .ok (.iconst 1, 1) := by decide +kernel
theorem dX5_build_2 : decode cX5_build 2 = .ok (.iconst 3, 1) := by decide +kernel
theorem dX5_build_3 : decode cX5_build 3 = .ok (.invokestatic 164, 3) := by decide +kernel
theorem dX5_build_6 : decode cX5_build 6 = .ok (.ifCond .eq 12, 3) := by decide +kernel
theorem dX5_build_9 : decode cX5_build 9 = .ok (.iload_n 2, 1) := by decide +kernel
theorem dX5_build_10 : decode cX5_build 10 = .ok (.iconst 1, 1) := by decide +kernel
theorem dX5_build_11 : decode cX5_build 11 = .ok (.iconst 3, 1) := by decide +kernel
theorem dX5_build_12 : decode cX5_build 12 = .ok (.invokestatic 164, 3) := by decide +kernel
theorem dX5_build_15 : decode cX5_build 15 = .ok (.ifCond .ne 6, 3) := by decide +kernel
theorem dX5_build_18 : decode cX5_build 18 = .ok (.ldc 117, 2) := by decide +kernel
theorem dX5_build_20 : decode cX5_build 20 = .ok (.ireturn, 1) := by decide +kernel
theorem dX5_build_21 : decode cX5_build 21 = .ok (.aload_n 0, 1) := by decide +kernel
theorem dX5_build_22 : decode cX5_build 22 = .ok (.getfield 10, 3) := by decide +kernel
theorem dX5_build_25 : decode cX5_build 25 = .ok (.invokevirtual 168, 3) := by decide +kernel
theorem dX5_build_28 : decode cX5_build 28 = .ok (.istore_n 3, 1) := by decide +kernel
theorem dX5_build_29 : decode cX5_build 29 = .ok (.aload_n 0, 1) := by decide +kernel
theorem dX5_build_30 : decode cX5_build 30 = .ok (.invokevirtual 171, 3) := by decide +kernel
theorem dX5_build_33 : decode cX5_build 33 = .ok (.aload_n 0, 1) := by decide +kernel
theorem dX5_build_34 : decode cX5_build 34 = .ok (.getfield 10, 3) := by decide +kernel
theorem dX5_build_37 : decode cX5_build 37 = .ok (.iload_n 1, 1) := by decide +kernel
theorem dX5_build_38 : decode cX5_build 38 = .ok (.iload_n 2, 1) := by decide +kernel
theorem dX5_build_39 : decode cX5_build 39 = .ok (.invokevirtual 174, 3) := by decide +kernel
theorem dX5_build_42 : decode cX5_build 42 = .ok (.iload_n 3, 1) := by decide +kernel
theorem dX5_build_43 : decode cX5_build 43 = .ok (.ireturn, 1) := by decide +kernel
theorem dX5_truck_0 : decode cX5_truck 0 = .ok (.iload_n 1, 1) := by decide +kernel
theorem dX5_truck_1 : decode cX5_truck 1 = .ok (.iconst 0, 1) := by decide +kernel
theorem dX5_truck_2 : decode cX5_truck 2 = .ok (.bipush 99, 2) := by decide +kernel
theorem dX5_truck_4 : decode cX5_truck 4 = .ok (.invokestatic 164, 3) := by decide +kernel
theorem dX5_truck_7 : decode cX5_truck 7 = .ok (.ifCond .eq 12, 3) := by decide +kernel
theorem dX5_truck_10 : decode cX5_truck 10 = .ok (.iload_n 2, 1) := by decide +kernel
theorem dX5_truck_11 : decode cX5_truck 11 = .ok (.iconst 1, 1) := by decide +kernel
theorem dX5_truck_12 : decode cX5_truck 12 = .ok (.iconst 4, 1) := by decide +kernel
theorem dX5_truck_13 : decode cX5_truck 13 = .ok (.invokestatic 164, 3) := by decide +kernel
theorem dX5_truck_16 : decode cX5_truck 16 = .ok (.ifCond .ne 6, 3) := by decide +kernel
theorem dX5_truck_19 : decode cX5_truck 19 = .ok (.ldc 117, 2) := by decide +kernel
theorem dX5_truck_21 : decode cX5_truck 21 = .ok (.ireturn, 1) := by decide +kernel
theorem dX5_truck_22 : decode cX5_truck 22 = .ok (.aload_n 0, 1) := by decide +kernel
theorem dX5_truck_23 : decode cX5_truck 23 = .ok (.getfield 10, 3) := by decide +kernel
theorem dX5_truck_26 : decode cX5_truck 26 = .ok (.invokevirtual 178, 3) := by decide +kernel
theorem dX5_truck_29 : decode cX5_truck 29 = .ok (.ifCond .ne 6, 3) := by decide +kernel
theorem dX5_truck_32 : decode cX5_truck 32 = .ok (.ldc 182, 2) := by decide +kernel
theorem dX5_truck_34 : decode cX5_truck 34 = .ok (.ireturn, 1) := by decide +kernel
theorem dX5_truck_35 : decode cX5_truck 35 = .ok (.aload_n 0, 1) := by decide +kernel
theorem dX5_truck_36 : decode cX5_truck 36 = .ok (.invokevirtual 171, 3) := by decide +kernel
theorem dX5_truck_39 : decode cX5_truck 39 = .ok (.aload_n 0, 1) := by decide +kernel
theorem dX5_truck_40 : decode cX5_truck 40 = .ok (.getfield 10, 3) := by decide +kernel
theorem dX5_truck_43 : decode cX5_truck 43 = .ok (.iload_n 1, 1) := by decide +kernel
theorem dX5_truck_44 : decode cX5_truck 44 = .ok (.iload_n 2, 1) := by decide +kernel
theorem dX5_truck_45 : decode cX5_truck 45 = .ok (.invokevirtual 183, 3) := by decide +kernel
theorem dX5_truck_48 : decode cX5_truck 48 = .ok (.aload_n 0, 1) := by decide +kernel
theorem dX5_truck_49 : decode cX5_truck 49 = .ok (.getfield 10, 3) := by decide +kernel
theorem dX5_truck_52 : decode cX5_truck 52 = .ok (.getfield 60, 3) := by decide +kernel
theorem dX5_truck_55 : decode cX5_truck 55 = .ok (.iconst 1, 1) := by decide +kernel
theorem dX5_truck_56 : decode cX5_truck 56 = .ok (.isub, 1) := by decide +kernel
theorem dX5_truck_57 : decode cX5_truck 57 = .ok (.ireturn, 1) := by decide +kernel
theorem dX5_late_0 : decode cX5_late 0 = .ok (.aload_n 0, 1) := by decide +kernel
theorem dX5_late_1 : decode cX5_late 1 = .ok (.getfield 10, 3) := by decide +kernel
theorem dX5_late_4 : decode cX5_late 4 = .ok (.iload_n 1, 1) := by decide +kernel
theorem dX5_late_5 : decode cX5_late 5 = .ok (.invokevirtual 152, 3) := by decide +kernel
theorem dX5_late_8 : decode cX5_late 8 = .ok (.ifCond .ne 6, 3) := by decide +kernel
theorem dX5_late_11 : decode cX5_late 11 = .ok (.ldc 122, 2) := by decide +kernel
theorem dX5_late_13 : decode cX5_late 13 = .ok (.ireturn, 1) := by decide +kernel
theorem dX5_late_14 : decode cX5_late 14 = .ok (.iload_n 2, 1) := by decide +kernel
theorem dX5_late_15 : decode cX5_late 15 = .ok (.bipush (-99), 2) := by decide +kernel
theorem dX5_late_17 : decode cX5_late 17 = .ok (.bipush 99, 2) := by decide +kernel
theorem dX5_late_19 : decode cX5_late 19 = .ok (.invokestatic 164, 3) := by decide +kernel
theorem dX5_late_22 : decode cX5_late 22 = .ok (.ifCond .ne 6, 3) := by decide +kernel
theorem dX5_late_25 : decode cX5_late 25 = .ok (.ldc 117, 2) := by decide +kernel
theorem dX5_late_27 : decode cX5_late 27 = .ok (.ireturn, 1) := by decide +kernel
theorem dX5_late_28 : decode cX5_late 28 = .ok (.aload_n 0, 1) := by decide +kernel
theorem dX5_late_29 : decode cX5_late 29 = .ok (.getfield 10, 3) := by decide +kernel
theorem dX5_late_32 : decode cX5_late 32 = .ok (.getfield 155, 3) := by decide +kernel
theorem dX5_late_35 : decode cX5_late 35 = .ok (.iload_n 1, 1) := by decide +kernel
theorem dX5_late_36 : decode cX5_late 36 = .ok (.iaload, 1) := by decide +kernel
theorem dX5_late_37 : decode cX5_late 37 = .ok (.iload_n 2, 1) := by decide +kernel
theorem dX5_late_38 : decode cX5_late 38 = .ok (.iadd, 1) := by decide +kernel
theorem dX5_late_39 : decode cX5_late 39 = .ok (.istore_n 3, 1) := by decide +kernel
theorem dX5_late_40 : decode cX5_late 40 = .ok (.iload_n 3, 1) := by decide +kernel
theorem dX5_late_41 : decode cX5_late 41 = .ok (.iconst 0, 1) := by decide +kernel
theorem dX5_late_42 : decode cX5_late 42 = .ok (.bipush 99, 2) := by decide +kernel
theorem dX5_late_44 : decode cX5_late 44 = .ok (.invokestatic 164, 3) := by decide +kernel
theorem dX5_late_47 : decode cX5_late 47 = .ok (.ifCond .ne 6, 3) := by decide +kernel
theorem dX5_late_50 : decode cX5_late 50 = .ok (.ldc 117, 2) := by decide +kernel
theorem dX5_late_52 : decode cX5_late 52 = .ok (.ireturn, 1) := by decide +kernel
theorem dX5_late_53 : decode cX5_late 53 = .ok (.aload_n 0, 1) := by decide +kernel
theorem dX5_late_54 : decode cX5_late 54 = .ok (.iload_n 1, 1) := by decide +kernel
theorem dX5_late_55 : decode cX5_late 55 = .ok (.iload_n 2, 1) := by decide +kernel
theorem dX5_late_56 : decode cX5_late 56 = .ok (.invokevirtual 186, 3) := by decide +kernel
theorem dX5_late_59 : decode cX5_late 59 = .ok (.ifCond .ge 6, 3) := by decide +kernel
theorem dX5_late_62 : decode cX5_late 62 = .ok (.ldc 190, 2) := by decide +kernel
theorem dX5_late_64 : decode cX5_late 64 = .ok (.ireturn, 1) := by decide +kernel
theorem dX5_late_65 : decode cX5_late 65 = .ok (.aload_n 0, 1) := by decide +kernel
theorem dX5_late_66 : decode cX5_late 66 = .ok (.invokevirtual 171, 3) := by decide +kernel
theorem dX5_late_69 : decode cX5_late 69 = .ok (.aload_n 0, 1) := by decide +kernel
theorem dX5_late_70 : decode cX5_late 70 = .ok (.getfield 10, 3) := by decide +kernel
theorem dX5_late_73 : decode cX5_late 73 = .ok (.getfield 155, 3) := by decide +kernel
theorem dX5_late_76 : decode cX5_late 76 = .ok (.iload_n 1, 1) := by decide +kernel
theorem dX5_late_77 : decode cX5_late 77 = .ok (.iload_n 3, 1) := by decide +kernel
theorem dX5_late_78 : decode cX5_late 78 = .ok (.iastore, 1) := by decide +kernel
theorem dX5_late_79 : decode cX5_late 79 = .ok (.iload_n 3, 1) := by decide +kernel
theorem dX5_late_80 : decode cX5_late 80 = .ok (.ireturn, 1) := by decide +kernel
theorem dX5_away_0 : decode cX5_away 0 = .ok (.aload_n 0, 1) := by decide +kernel
theorem dX5_away_1 : decode cX5_away 1 = .ok (.getfield 10, 3) := by decide +kernel
theorem dX5_away_4 : decode cX5_away 4 = .ok (.iload_n 1, 1) := by decide +kernel
theorem dX5_away_5 : decode cX5_away 5 = .ok (.invokevirtual 152, 3) := by decide +kernel
theorem dX5_away_8 : decode cX5_away 8 = .ok (.ifCond .ne 6, 3) := by decide +kernel
theorem dX5_away_11 : decode cX5_away 11 = .ok (.ldc 122, 2) := by decide +kernel
theorem dX5_away_13 : decode cX5_away 13 = .ok (.ireturn, 1) := by decide +kernel
theorem dX5_away_14 : decode cX5_away 14 = .ok (.aload_n 0, 1) := by decide +kernel
theorem dX5_away_15 : decode cX5_away 15 = .ok (.iload_n 1, 1) := by decide +kernel
theorem dX5_away_16 : decode cX5_away 16 = .ok (.invokevirtual 191, 3) := by decide +kernel
theorem dX5_away_19 : decode cX5_away 19 = .ok (.ifCond .ge 6, 3) := by decide +kernel
theorem dX5_away_22 : decode cX5_away 22 = .ok (.ldc 190, 2) := by decide +kernel
theorem dX5_away_24 : decode cX5_away 24 = .ok (.ireturn, 1) := by decide +kernel
theorem dX5_away_25 : decode cX5_away 25 = .ok (.aload_n 0, 1) := by decide +kernel
theorem dX5_away_26 : decode cX5_away 26 = .ok (.invokevirtual 171, 3) := by decide +kernel
theorem dX5_away_29 : decode cX5_away 29 = .ok (.aload_n 0, 1) := by decide +kernel
theorem dX5_away_30 : decode cX5_away 30 = .ok (.getfield 10, 3) := by decide +kernel
theorem dX5_away_33 : decode cX5_away 33 = .ok (.iload_n 1, 1) := by decide +kernel
theorem dX5_away_34 : decode cX5_away 34 = .ok (.invokevirtual 194, 3) := by decide +kernel
theorem dX5_away_37 : decode cX5_away 37 = .ok (.aload_n 0, 1) := by decide +kernel
theorem dX5_away_38 : decode cX5_away 38 = .ok (.getfield 10, 3) := by decide +kernel
theorem dX5_away_41 : decode cX5_away 41 = .ok (.getfield 60, 3) := by decide +kernel
theorem dX5_away_44 : decode cX5_away 44 = .ok (.ireturn, 1) := by decide +kernel
theorem dX5_need_0 : decode cX5_need 0 = .ok (.aload_n 0, 1) := by decide +kernel
theorem dX5_need_1 : decode cX5_need 1 = .ok (.getfield 10, 3) := by decide +kernel
theorem dX5_need_4 : decode cX5_need 4 = .ok (.iload_n 1, 1) := by decide +kernel
theorem dX5_need_5 : decode cX5_need 5 = .ok (.invokevirtual 118, 3) := by decide +kernel
theorem dX5_need_8 : decode cX5_need 8 = .ok (.ifCond .ne 6, 3) := by decide +kernel
theorem dX5_need_11 : decode cX5_need 11 = .ok (.ldc 122, 2) := by decide +kernel
theorem dX5_need_13 : decode cX5_need 13 = .ok (.ireturn, 1) := by decide +kernel
theorem dX5_need_14 : decode cX5_need 14 = .ok (.iload_n 2, 1) := by decide +kernel
theorem dX5_need_15 : decode cX5_need 15 = .ok (.iconst 1, 1) := by decide +kernel
theorem dX5_need_16 : decode cX5_need 16 = .ok (.iconst 3, 1) := by decide +kernel
theorem dX5_need_17 : decode cX5_need 17 = .ok (.invokestatic 164, 3) := by decide +kernel
theorem dX5_need_20 : decode cX5_need 20 = .ok (.ifCond .ne 6, 3) := by decide +kernel
theorem dX5_need_23 : decode cX5_need 23 = .ok (.ldc 117, 2) := by decide +kernel
theorem dX5_need_25 : decode cX5_need 25 = .ok (.ireturn, 1) := by decide +kernel
theorem dX5_need_26 : decode cX5_need 26 = .ok (.aload_n 0, 1) := by decide +kernel
theorem dX5_need_27 : decode cX5_need 27 = .ok (.getfield 10, 3) := by decide +kernel
theorem dX5_need_30 : decode cX5_need 30 = .ok (.iload_n 1, 1) := by decide +kernel
theorem dX5_need_31 : decode cX5_need 31 = .ok (.invokevirtual 198, 3) := by decide +kernel
theorem dX5_need_34 : decode cX5_need 34 = .ok (.ifCond .eq 6, 3) := by decide +kernel
theorem dX5_need_37 : decode cX5_need 37 = .ok (.ldc 190, 2) := by decide +kernel
theorem dX5_need_39 : decode cX5_need 39 = .ok (.ireturn, 1) := by decide +kernel
theorem dX5_need_40 : decode cX5_need 40 = .ok (.aload_n 0, 1) := by decide +kernel
theorem dX5_need_41 : decode cX5_need 41 = .ok (.getfield 10, 3) := by decide +kernel
theorem dX5_need_44 : decode cX5_need 44 = .ok (.getfield 123, 3) := by decide +kernel
theorem dX5_need_47 : decode cX5_need 47 = .ok (.iload_n 1, 1) := by decide +kernel
theorem dX5_need_48 : decode cX5_need 48 = .ok (.iaload, 1) := by decide +kernel
theorem dX5_need_49 : decode cX5_need 49 = .ok (.istore_n 3, 1) := by decide +kernel
theorem dX5_need_50 : decode cX5_need 50 = .ok (.aload_n 0, 1) := by decide +kernel
theorem dX5_need_51 : decode cX5_need 51 = .ok (.invokevirtual 171, 3) := by decide +kernel
theorem dX5_need_54 : decode cX5_need 54 = .ok (.aload_n 0, 1) := by decide +kernel
theorem dX5_need_55 : decode cX5_need 55 = .ok (.getfield 10, 3) := by decide +kernel
theorem dX5_need_58 : decode cX5_need 58 = .ok (.getfield 123, 3) := by decide +kernel
theorem dX5_need_61 : decode cX5_need 61 = .ok (.iload_n 1, 1) := by decide +kernel
theorem dX5_need_62 : decode cX5_need 62 = .ok (.iload_n 2, 1) := by decide +kernel
theorem dX5_need_63 : decode cX5_need 63 = .ok (.iastore, 1) := by decide +kernel
theorem dX5_need_64 : decode cX5_need 64 = .ok (.iload_n 3, 1) := by decide +kernel
theorem dX5_need_65 : decode cX5_need 65 = .ok (.ireturn, 1) := by decide +kernel
theorem dX5_bound_0 : decode cX5_bound 0 = .ok (.iload_n 1, 1) := by decide +kernel
theorem dX5_bound_1 : decode cX5_bound 1 = .ok (.ifCond .ne 7, 3) := by decide +kernel
theorem dX5_bound_4 : decode cX5_bound 4 = .ok (.iconst 1, 1) := by decide +kernel
theorem dX5_bound_5 : decode cX5_bound 5 = .ok (.goto 4, 3) := by decide +kernel
theorem dX5_bound_8 : decode cX5_bound 8 = .ok (.iconst 0, 1) := by decide +kernel
theorem dX5_bound_9 : decode cX5_bound 9 = .ok (.istore_n 3, 1) := by decide +kernel
theorem dX5_bound_10 : decode cX5_bound 10 = .ok (.iload_n 1, 1) := by decide +kernel
theorem dX5_bound_11 : decode cX5_bound 11 = .ok (.iconst 0, 1) := by decide +kernel
theorem dX5_bound_12 : decode cX5_bound 12 = .ok (.iconst 2, 1) := by decide +kernel
theorem dX5_bound_13 : decode cX5_bound 13 = .ok (.invokestatic 164, 3) := by decide +kernel
theorem dX5_bound_16 : decode cX5_bound 16 = .ok (.ifCond .eq 30, 3) := by decide +kernel
theorem dX5_bound_19 : decode cX5_bound 19 = .ok (.iload_n 2, 1) := by decide +kernel
theorem dX5_bound_20 : decode cX5_bound 20 = .ok (.iload_n 3, 1) := by decide +kernel
theorem dX5_bound_21 : decode cX5_bound 21 = .ok (.ifCond .eq 7, 3) := by decide +kernel
theorem dX5_bound_24 : decode cX5_bound 24 = .ok (.iconst 1, 1) := by decide +kernel
theorem dX5_bound_25 : decode cX5_bound 25 = .ok (.goto 4, 3) := by decide +kernel
theorem dX5_bound_28 : decode cX5_bound 28 = .ok (.iconst 0, 1) := by decide +kernel
theorem dX5_bound_29 : decode cX5_bound 29 = .ok (.iload_n 3, 1) := by decide +kernel
theorem dX5_bound_30 : decode cX5_bound 30 = .ok (.ifCond .eq 8, 3) := by decide +kernel
theorem dX5_bound_33 : decode cX5_bound 33 = .ok (.bipush 40, 2) := by decide +kernel
theorem dX5_bound_35 : decode cX5_bound 35 = .ok (.goto 5, 3) := by decide +kernel
theorem dX5_bound_38 : decode cX5_bound 38 = .ok (.bipush 9, 2) := by decide +kernel
theorem dX5_bound_40 : decode cX5_bound 40 = .ok (.invokestatic 164, 3) := by decide +kernel
theorem dX5_bound_43 : decode cX5_bound 43 = .ok (.ifCond .ne 6, 3) := by decide +kernel
theorem dX5_bound_46 : decode cX5_bound 46 = .ok (.ldc 117, 2) := by decide +kernel
theorem dX5_bound_48 : decode cX5_bound 48 = .ok (.ireturn, 1) := by decide +kernel
theorem dX5_bound_49 : decode cX5_bound 49 = .ok (.aload_n 0, 1) := by decide +kernel
theorem dX5_bound_50 : decode cX5_bound 50 = .ok (.invokevirtual 171, 3) := by decide +kernel
theorem dX5_bound_53 : decode cX5_bound 53 = .ok (.aload_n 0, 1) := by decide +kernel
theorem dX5_bound_54 : decode cX5_bound 54 = .ok (.getfield 10, 3) := by decide +kernel
theorem dX5_bound_57 : decode cX5_bound 57 = .ok (.iload_n 1, 1) := by decide +kernel
theorem dX5_bound_58 : decode cX5_bound 58 = .ok (.iload_n 2, 1) := by decide +kernel
theorem dX5_bound_59 : decode cX5_bound 59 = .ok (.invokevirtual 201, 3) := by decide +kernel
theorem dX5_bound_62 : decode cX5_bound 62 = .ok (.ireturn, 1) := by decide +kernel
theorem dX5_pour_0 : decode cX5_pour 0 = .ok (.aload_n 0, 1) := by decide +kernel
theorem dX5_pour_1 : decode cX5_pour 1 = .ok (.getfield 10, 3) := by decide +kernel
theorem dX5_pour_4 : decode cX5_pour 4 = .ok (.iload_n 1, 1) := by decide +kernel
theorem dX5_pour_5 : decode cX5_pour 5 = .ok (.invokevirtual 118, 3) := by decide +kernel
theorem dX5_pour_8 : decode cX5_pour 8 = .ok (.ifCond .ne 6, 3) := by decide +kernel
theorem dX5_pour_11 : decode cX5_pour 11 = .ok (.ldc 122, 2) := by decide +kernel
theorem dX5_pour_13 : decode cX5_pour 13 = .ok (.ireturn, 1) := by decide +kernel
theorem dX5_pour_14 : decode cX5_pour 14 = .ok (.aload_n 0, 1) := by decide +kernel
theorem dX5_pour_15 : decode cX5_pour 15 = .ok (.getfield 10, 3) := by decide +kernel
theorem dX5_pour_18 : decode cX5_pour 18 = .ok (.iload_n 1, 1) := by decide +kernel
theorem dX5_pour_19 : decode cX5_pour 19 = .ok (.invokevirtual 133, 3) := by decide +kernel
theorem dX5_pour_22 : decode cX5_pour 22 = .ok (.iconst (-1), 1) := by decide +kernel
theorem dX5_pour_23 : decode cX5_pour 23 = .ok (.if_icmp .ne 6, 3) := by decide +kernel
theorem dX5_pour_26 : decode cX5_pour 26 = .ok (.ldc 190, 2) := by decide +kernel
theorem dX5_pour_28 : decode cX5_pour 28 = .ok (.ireturn, 1) := by decide +kernel
theorem dX5_pour_29 : decode cX5_pour 29 = .ok (.aload_n 0, 1) := by decide +kernel
theorem dX5_pour_30 : decode cX5_pour 30 = .ok (.invokevirtual 171, 3) := by decide +kernel
theorem dX5_pour_33 : decode cX5_pour 33 = .ok (.aload_n 0, 1) := by decide +kernel
theorem dX5_pour_34 : decode cX5_pour 34 = .ok (.getfield 10, 3) := by decide +kernel
theorem dX5_pour_37 : decode cX5_pour 37 = .ok (.iload_n 1, 1) := by decide +kernel
theorem dX5_pour_38 : decode cX5_pour 38 = .ok (.invokevirtual 204, 3) := by decide +kernel
theorem dX5_pour_41 : decode cX5_pour 41 = .ok (.aload_n 0, 1) := by decide +kernel
theorem dX5_pour_42 : decode cX5_pour 42 = .ok (.getfield 10, 3) := by decide +kernel
theorem dX5_pour_45 : decode cX5_pour 45 = .ok (.invokevirtual 85, 3) := by decide +kernel
theorem dX5_pour_48 : decode cX5_pour 48 = .ok (.ireturn, 1) := by decide +kernel
theorem dX5_rest_0 : decode cX5_rest 0 = .ok (.iload_n 1, 1) := by decide +kernel
theorem dX5_rest_1 : decode cX5_rest 1 = .ok (.iconst 1, 1) := by decide +kernel
theorem dX5_rest_2 : decode cX5_rest 2 = .ok (.bipush 40, 2) := by decide +kernel
theorem dX5_rest_4 : decode cX5_rest 4 = .ok (.invokestatic 164, 3) := by decide +kernel
theorem dX5_rest_7 : decode cX5_rest 7 = .ok (.ifCond .ne 6, 3) := by decide +kernel
theorem dX5_rest_10 : decode cX5_rest 10 = .ok (.ldc 117, 2) := by decide +kernel
theorem dX5_rest_12 : decode cX5_rest 12 = .ok (.ireturn, 1) := by decide +kernel
theorem dX5_rest_13 : decode cX5_rest 13 = .ok (.aload_n 0, 1) := by decide +kernel
theorem dX5_rest_14 : decode cX5_rest 14 = .ok (.getfield 10, 3) := by decide +kernel
theorem dX5_rest_17 : decode cX5_rest 17 = .ok (.getfield 57, 3) := by decide +kernel
theorem dX5_rest_20 : decode cX5_rest 20 = .ok (.iload_n 1, 1) := by decide +kernel
theorem dX5_rest_21 : decode cX5_rest 21 = .ok (.iadd, 1) := by decide +kernel
theorem dX5_rest_22 : decode cX5_rest 22 = .ok (.sipush 9999, 3) := by decide +kernel
theorem dX5_rest_25 : decode cX5_rest 25 = .ok (.if_icmp .le 6, 3) := by decide +kernel
theorem dX5_rest_28 : decode cX5_rest 28 = .ok (.ldc 190, 2) := by decide +kernel
theorem dX5_rest_30 : decode cX5_rest 30 = .ok (.ireturn, 1) := by decide +kernel
theorem dX5_rest_31 : decode cX5_rest 31 = .ok (.aload_n 0, 1) := by decide +kernel
theorem dX5_rest_32 : decode cX5_rest 32 = .ok (.invokevirtual 171, 3) := by decide +kernel
theorem dX5_rest_35 : decode cX5_rest 35 = .ok (.aload_n 0, 1) := by decide +kernel
theorem dX5_rest_36 : decode cX5_rest 36 = .ok (.getfield 10, 3) := by decide +kernel
theorem dX5_rest_39 : decode cX5_rest 39 = .ok (.dup, 1) := by decide +kernel
theorem dX5_rest_40 : decode cX5_rest 40 = .ok (.getfield 57, 3) := by decide +kernel
theorem dX5_rest_43 : decode cX5_rest 43 = .ok (.iload_n 1, 1) := by decide +kernel
theorem dX5_rest_44 : decode cX5_rest 44 = .ok (.iadd, 1) := by decide +kernel
theorem dX5_rest_45 : decode cX5_rest 45 = .ok (.putfield 57, 3) := by decide +kernel
theorem dX5_rest_48 : decode cX5_rest 48 = .ok (.aload_n 0, 1) := by decide +kernel
theorem dX5_rest_49 : decode cX5_rest 49 = .ok (.getfield 10, 3) := by decide +kernel
theorem dX5_rest_52 : decode cX5_rest 52 = .ok (.getfield 57, 3) := by decide +kernel
theorem dX5_rest_55 : decode cX5_rest 55 = .ok (.ireturn, 1) := by decide +kernel
theorem dX5_follow_0 : decode cX5_follow 0 = .ok (.aload_n 0, 1) := by decide +kernel
theorem dX5_follow_1 : decode cX5_follow 1 = .ok (.invokevirtual 91, 3) := by decide +kernel
theorem dX5_follow_4 : decode cX5_follow 4 = .ok (.iconst 0, 1) := by decide +kernel
theorem dX5_follow_5 : decode cX5_follow 5 = .ok (.invokevirtual 207, 3) := by decide +kernel
theorem dX5_follow_8 : decode cX5_follow 8 = .ok (.istore_n 1, 1) := by decide +kernel
theorem dX5_follow_9 : decode cX5_follow 9 = .ok (.iload_n 1, 1) := by decide +kernel
theorem dX5_follow_10 : decode cX5_follow 10 = .ok (.iconst (-1), 1) := by decide +kernel
theorem dX5_follow_11 : decode cX5_follow 11 = .ok (.if_icmp .ne 6, 3) := by decide +kernel
theorem dX5_follow_14 : decode cX5_follow 14 = .ok (.ldc 190, 2) := by decide +kernel
theorem dX5_follow_16 : decode cX5_follow 16 = .ok (.ireturn, 1) := by decide +kernel
theorem dX5_follow_17 : decode cX5_follow 17 = .ok (.aload_n 0, 1) := by decide +kernel
theorem dX5_follow_18 : decode cX5_follow 18 = .ok (.invokevirtual 171, 3) := by decide +kernel
theorem dX5_follow_21 : decode cX5_follow 21 = .ok (.aload_n 0, 1) := by decide +kernel
theorem dX5_follow_22 : decode cX5_follow 22 = .ok (.getfield 10, 3) := by decide +kernel
theorem dX5_follow_25 : decode cX5_follow 25 = .ok (.iload_n 1, 1) := by decide +kernel
theorem dX5_follow_26 : decode cX5_follow 26 = .ok (.invokevirtual 204, 3) := by decide +kernel
theorem dX5_follow_29 : decode cX5_follow 29 = .ok (.iload_n 1, 1) := by decide +kernel
theorem dX5_follow_30 : decode cX5_follow 30 = .ok (.ireturn, 1) := by decide +kernel
theorem dX5_drift_0 : decode cX5_drift 0 = .ok (.iload_n 1, 1) := by decide +kernel
theorem dX5_drift_1 : decode cX5_drift 1 = .ok (.iconst 1, 1) := by decide +kernel
theorem dX5_drift_2 : decode cX5_drift 2 = .ok (.bipush 20, 2) := by decide +kernel
theorem dX5_drift_4 : decode cX5_drift 4 = .ok (.invokestatic 164, 3) := by decide +kernel
theorem dX5_drift_7 : decode cX5_drift 7 = .ok (.ifCond .ne 6, 3) := by decide +kernel
theorem dX5_drift_10 : decode cX5_drift 10 = .ok (.ldc 117, 2) := by decide +kernel
theorem dX5_drift_12 : decode cX5_drift 12 = .ok (.ireturn, 1) := by decide +kernel
theorem dX5_drift_13 : decode cX5_drift 13 = .ok (.iconst 0, 1) := by decide +kernel
theorem dX5_drift_14 : decode cX5_drift 14 = .ok (.istore_n 2, 1) := by decide +kernel
theorem dX5_drift_15 : decode cX5_drift 15 = .ok (.iload_n 2, 1) := by decide +kernel
theorem dX5_drift_16 : decode cX5_drift 16 = .ok (.iload_n 1, 1) := by decide +kernel
theorem dX5_drift_17 : decode cX5_drift 17 = .ok (.if_icmp .ge 13, 3) := by decide +kernel
theorem dX5_drift_20 : decode cX5_drift 20 = .ok (.aload_n 0, 1) := by decide +kernel
theorem dX5_drift_21 : decode cX5_drift 21 = .ok (.invokevirtual 210, 3) := by decide +kernel
theorem dX5_drift_24 : decode cX5_drift 24 = .ok (.iinc 2 1, 3) := by decide +kernel
theorem dX5_drift_27 : decode cX5_drift 27 = .ok (.goto (-12), 3) := by decide +kernel
theorem dX5_drift_30 : decode cX5_drift 30 = .ok (.aload_n 0, 1) := by decide +kernel
theorem dX5_drift_31 : decode cX5_drift 31 = .ok (.getfield 10, 3) := by decide +kernel
theorem dX5_drift_34 : decode cX5_drift 34 = .ok (.invokevirtual 168, 3) := by decide +kernel
theorem dX5_drift_37 : decode cX5_drift 37 = .ok (.ireturn, 1) := by decide +kernel
theorem dX5_undo_0 : decode cX5_undo 0 = .ok (.iload_n 1, 1) := by decide +kernel
theorem dX5_undo_1 : decode cX5_undo 1 = .ok (.iconst 1, 1) := by decide +kernel
theorem dX5_undo_2 : decode cX5_undo 2 = .ok (.bipush 20, 2) := by decide +kernel
theorem dX5_undo_4 : decode cX5_undo 4 = .ok (.invokestatic 164, 3) := by decide +kernel
theorem dX5_undo_7 : decode cX5_undo 7 = .ok (.ifCond .ne 6, 3) := by decide +kernel
theorem dX5_undo_10 : decode cX5_undo 10 = .ok (.ldc 117, 2) := by decide +kernel
theorem dX5_undo_12 : decode cX5_undo 12 = .ok (.ireturn, 1) := by decide +kernel
theorem dX5_undo_13 : decode cX5_undo 13 = .ok (.iload_n 1, 1) := by decide +kernel
theorem dX5_undo_14 : decode cX5_undo 14 = .ok (.aload_n 0, 1) := by decide +kernel
theorem dX5_undo_15 : decode cX5_undo 15 = .ok (.getfield 32, 3) := by decide +kernel
theorem dX5_undo_18 : decode cX5_undo 18 = .ok (.getfield 114, 3) := by decide +kernel
theorem dX5_undo_21 : decode cX5_undo 21 = .ok (.if_icmp .le 6, 3) := by decide +kernel
theorem dX5_undo_24 : decode cX5_undo 24 = .ok (.ldc 190, 2) := by decide +kernel
theorem dX5_undo_26 : decode cX5_undo 26 = .ok (.ireturn, 1) := by decide +kernel
theorem dX5_undo_27 : decode cX5_undo 27 = .ok (.aload_n 0, 1) := by decide +kernel
theorem dX5_undo_28 : decode cX5_undo 28 = .ok (.getfield 32, 3) := by decide +kernel
theorem dX5_undo_31 : decode cX5_undo 31 = .ok (.iload_n 1, 1) := by decide +kernel
theorem dX5_undo_32 : decode cX5_undo 32 = .ok (.aload_n 0, 1) := by decide +kernel
theorem dX5_undo_33 : decode cX5_undo 33 = .ok (.getfield 10, 3) := by decide +kernel
theorem dX5_undo_36 : decode cX5_undo 36 = .ok (.invokevirtual 213, 3) := by decide +kernel
theorem dX5_undo_39 : decode cX5_undo 39 = .ok (.aload_n 0, 1) := by decide +kernel
theorem dX5_undo_40 : decode cX5_undo 40 = .ok (.iconst 0, 1) := by decide +kernel
theorem dX5_undo_41 : decode cX5_undo 41 = .ok (.putfield 217, 3) := by decide +kernel
theorem dX5_undo_44 : decode cX5_undo 44 = .ok (.aload_n 0, 1) := by decide +kernel
theorem dX5_undo_45 : decode cX5_undo 45 = .ok (.getfield 10, 3) := by decide +kernel
theorem dX5_undo_48 : decode cX5_undo 48 = .ok (.getfield 57, 3) := by decide +kernel
theorem dX5_undo_51 : decode cX5_undo 51 = .ok (.ireturn, 1) := by decide +kernel
theorem dX5_best_0 : decode cX5_best 0 = .ok (.aload_n 0, 1) := by decide +kernel
theorem dX5_best_1 : decode cX5_best 1 = .ok (.invokevirtual 91, 3) := by decide +kernel
theorem dX5_best_4 : decode cX5_best 4 = .ok (.iload_n 1, 1) := by decide +kernel
theorem dX5_best_5 : decode cX5_best 5 = .ok (.invokevirtual 207, 3) := by decide +kernel
theorem dX5_best_8 : decode cX5_best 8 = .ok (.ireturn, 1) := by decide +kernel
theorem dX5_stop_0 : decode cX5_stop 0 = .ok (.iload_n 1, 1) := by decide +kernel
theorem dX5_stop_1 : decode cX5_stop 1 = .ok (.iconst 0, 1) := by decide +kernel
theorem dX5_stop_2 : decode cX5_stop 2 = .ok (.iconst 1, 1) := by decide +kernel
theorem dX5_stop_3 : decode cX5_stop 3 = .ok (.invokestatic 164, 3) := by decide +kernel
theorem dX5_stop_6 : decode cX5_stop 6 = .ok (.ifCond .ne 6, 3) := by decide +kernel
theorem dX5_stop_9 : decode cX5_stop 9 = .ok (.ldc 117, 2) := by decide +kernel
theorem dX5_stop_11 : decode cX5_stop 11 = .ok (.ireturn, 1) := by decide +kernel
theorem dX5_stop_12 : decode cX5_stop 12 = .ok (.aload_n 0, 1) := by decide +kernel
theorem dX5_stop_13 : decode cX5_stop 13 = .ok (.invokevirtual 91, 3) := by decide +kernel
theorem dX5_stop_16 : decode cX5_stop 16 = .ok (.astore_n 2, 1) := by decide +kernel
theorem dX5_stop_17 : decode cX5_stop 17 = .ok (.aload_n 2, 1) := by decide +kernel
theorem dX5_stop_18 : decode cX5_stop 18 = .ok (.getfield 221, 3) := by decide +kernel
theorem dX5_stop_21 : decode cX5_stop 21 = .ok (.ifCond .ne 5, 3) := by decide +kernel
theorem dX5_stop_24 : decode cX5_stop 24 = .ok (.iconst (-1), 1) := by decide +kernel
theorem dX5_stop_25 : decode cX5_stop 25 = .ok (.ireturn, 1) := by decide +kernel
theorem dX5_stop_26 : decode cX5_stop 26 = .ok (.aload_n 0, 1) := by decide +kernel
theorem dX5_stop_27 : decode cX5_stop 27 = .ok (.getfield 16, 3) := by decide +kernel
theorem dX5_stop_30 : decode cX5_stop 30 = .ok (.aload_n 0, 1) := by decide +kernel
theorem dX5_stop_31 : decode cX5_stop 31 = .ok (.getfield 10, 3) := by decide +kernel
theorem dX5_stop_34 : decode cX5_stop 34 = .ok (.invokevirtual 224, 3) := by decide +kernel
theorem dX5_stop_37 : decode cX5_stop 37 = .ok (.aload_n 0, 1) := by decide +kernel
theorem dX5_stop_38 : decode cX5_stop 38 = .ok (.getfield 16, 3) := by decide +kernel
theorem dX5_stop_41 : decode cX5_stop 41 = .ok (.invokevirtual 104, 3) := by decide +kernel
theorem dX5_stop_44 : decode cX5_stop 44 = .ok (.istore_n 3, 1) := by decide +kernel
theorem dX5_stop_45 : decode cX5_stop 45 = .ok (.iconst 0, 1) := by decide +kernel
theorem dX5_stop_46 : decode cX5_stop 46 = .ok (.istore 4, 2) := by decide +kernel
theorem dX5_stop_48 : decode cX5_stop 48 = .ok (.iconst 0, 1) := by decide +kernel
theorem dX5_stop_49 : decode cX5_stop 49 = .ok (.istore 5, 2) := by decide +kernel
theorem dX5_stop_51 : decode cX5_stop 51 = .ok (.iload 5, 2) := by decide +kernel
theorem dX5_stop_53 : decode cX5_stop 53 = .ok (.aload_n 2, 1) := by decide +kernel
theorem dX5_stop_54 : decode cX5_stop 54 = .ok (.getfield 228, 3) := by decide +kernel
theorem dX5_stop_57 : decode cX5_stop 57 = .ok (.if_icmp .ge 46, 3) := by decide +kernel
theorem dX5_stop_60 : decode cX5_stop 60 = .ok (.aload_n 0, 1) := by decide +kernel
theorem dX5_stop_61 : decode cX5_stop 61 = .ok (.getfield 16, 3) := by decide +kernel
theorem dX5_stop_64 : decode cX5_stop 64 = .ok (.aload_n 2, 1) := by decide +kernel
theorem dX5_stop_65 : decode cX5_stop 65 = .ok (.iload 5, 2) := by decide +kernel
theorem dX5_stop_67 : decode cX5_stop 67 = .ok (.invokevirtual 207, 3) := by decide +kernel
theorem dX5_stop_70 : decode cX5_stop 70 = .ok (.invokevirtual 204, 3) := by decide +kernel
theorem dX5_stop_73 : decode cX5_stop 73 = .ok (.aload_n 0, 1) := by decide +kernel
theorem dX5_stop_74 : decode cX5_stop 74 = .ok (.getfield 16, 3) := by decide +kernel
theorem dX5_stop_77 : decode cX5_stop 77 = .ok (.invokevirtual 104, 3) := by decide +kernel
theorem dX5_stop_80 : decode cX5_stop 80 = .ok (.istore 6, 2) := by decide +kernel
theorem dX5_stop_82 : decode cX5_stop 82 = .ok (.iload 6, 2) := by decide +kernel
theorem dX5_stop_84 : decode cX5_stop 84 = .ok (.iload_n 3, 1) := by decide +kernel
theorem dX5_stop_85 : decode cX5_stop 85 = .ok (.if_icmp .ge 12, 3) := by decide +kernel
theorem dX5_stop_88 : decode cX5_stop 88 = .ok (.iload 6, 2) := by decide +kernel
theorem dX5_stop_90 : decode cX5_stop 90 = .ok (.istore_n 3, 1) := by decide +kernel
theorem dX5_stop_91 : decode cX5_stop 91 = .ok (.iload 5, 2) := by decide +kernel
theorem dX5_stop_93 : decode cX5_stop 93 = .ok (.iconst 1, 1) := by decide +kernel
theorem dX5_stop_94 : decode cX5_stop 94 = .ok (.iadd, 1) := by decide +kernel
theorem dX5_stop_95 : decode cX5_stop 95 = .ok (.istore 4, 2) := by decide +kernel
theorem dX5_stop_97 : decode cX5_stop 97 = .ok (.iinc 5 1, 3) := by decide +kernel
theorem dX5_stop_100 : decode cX5_stop 100 = .ok (.goto (-49), 3) := by decide +kernel
theorem dX5_stop_103 : decode cX5_stop 103 = .ok (.iload_n 1, 1) := by decide +kernel
theorem dX5_stop_104 : decode cX5_stop 104 = .ok (.ifCond .ne 7, 3) := by decide +kernel
theorem dX5_stop_107 : decode cX5_stop 107 = .ok (.iload_n 3, 1) := by decide +kernel
theorem dX5_stop_108 : decode cX5_stop 108 = .ok (.goto 5, 3) := by decide +kernel
theorem dX5_stop_111 : decode cX5_stop 111 = .ok (.iload 4, 2) := by decide +kernel
theorem dX5_stop_113 : decode cX5_stop 113 = .ok (.ireturn, 1) := by decide +kernel
theorem dX5_write_0 : decode cX5_write 0 = .ok (.aload_n 0, 1) := by decide +kernel
theorem dX5_write_1 : decode cX5_write 1 = .ok (.getfield 10, 3) := by decide +kernel
theorem dX5_write_4 : decode cX5_write 4 = .ok (.iload_n 1, 1) := by decide +kernel
theorem dX5_write_5 : decode cX5_write 5 = .ok (.invokevirtual 140, 3) := by decide +kernel
theorem dX5_write_8 : decode cX5_write 8 = .ok (.ifCond .ne 6, 3) := by decide +kernel
theorem dX5_write_11 : decode cX5_write 11 = .ok (.ldc 122, 2) := by decide +kernel
theorem dX5_write_13 : decode cX5_write 13 = .ok (.ireturn, 1) := by decide +kernel
theorem dX5_write_14 : decode cX5_write 14 = .ok (.aload_n 0, 1) := by decide +kernel
theorem dX5_write_15 : decode cX5_write 15 = .ok (.getfield 39, 3) := by decide +kernel
theorem dX5_write_18 : decode cX5_write 18 = .ok (.invokevirtual 229, 3) := by decide +kernel
theorem dX5_write_21 : decode cX5_write 21 = .ok (.ifCond .ne 6, 3) := by decide +kernel
theorem dX5_write_24 : decode cX5_write 24 = .ok (.ldc 182, 2) := by decide +kernel
theorem dX5_write_26 : decode cX5_write 26 = .ok (.ireturn, 1) := by decide +kernel
theorem dX5_write_27 : decode cX5_write 27 = .ok (.aload_n 0, 1) := by decide +kernel
theorem dX5_write_28 : decode cX5_write 28 = .ok (.getfield 39, 3) := by decide +kernel
theorem dX5_write_31 : decode cX5_write 31 = .ok (.iload_n 1, 1) := by decide +kernel
theorem dX5_write_32 : decode cX5_write 32 = .ok (.iload_n 2, 1) := by decide +kernel
theorem dX5_write_33 : decode cX5_write 33 = .ok (.invokevirtual 232, 3) := by decide +kernel
theorem dX5_write_36 : decode cX5_write 36 = .ok (.aload_n 0, 1) := by decide +kernel
theorem dX5_write_37 : decode cX5_write 37 = .ok (.getfield 39, 3) := by decide +kernel
theorem dX5_write_40 : decode cX5_write 40 = .ok (.getfield 107, 3) := by decide +kernel
theorem dX5_write_43 : decode cX5_write 43 = .ok (.ireturn, 1) := by decide +kernel
theorem dX5_tear_0 : decode cX5_tear 0 = .ok (.aload_n 0, 1) := by decide +kernel
theorem dX5_tear_1 : decode cX5_tear 1 = .ok (.getfield 39, 3) := by decide +kernel
theorem dX5_tear_4 : decode cX5_tear 4 = .ok (.getfield 107, 3) := by decide +kernel
theorem dX5_tear_7 : decode cX5_tear 7 = .ok (.istore_n 1, 1) := by decide +kernel
theorem dX5_tear_8 : decode cX5_tear 8 = .ok (.aload_n 0, 1) := by decide +kernel
theorem dX5_tear_9 : decode cX5_tear 9 = .ok (.getfield 39, 3) := by decide +kernel
theorem dX5_tear_12 : decode cX5_tear 12 = .ok (.iconst 0, 1) := by decide +kernel
theorem dX5_tear_13 : decode cX5_tear 13 = .ok (.putfield 107, 3) := by decide +kernel
theorem dX5_tear_16 : decode cX5_tear 16 = .ok (.iload_n 1, 1) := by decide +kernel
theorem dX5_tear_17 : decode cX5_tear 17 = .ok (.ireturn, 1) := by decide +kernel
theorem dX5_seed_0 : decode cX5_seed 0 = .ok (.iload_n 1, 1) := by decide +kernel
theorem dX5_seed_1 : decode cX5_seed 1 = .ok (.ifCond .ge 6, 3) := by decide +kernel
theorem dX5_seed_4 : decode cX5_seed 4 = .ok (.ldc 117, 2) := by decide +kernel
theorem dX5_seed_6 : decode cX5_seed 6 = .ok (.ireturn, 1) := by decide +kernel
theorem dX5_seed_7 : decode cX5_seed 7 = .ok (.aload_n 0, 1) := by decide +kernel
theorem dX5_seed_8 : decode cX5_seed 8 = .ok (.getfield 236, 3) := by decide +kernel
theorem dX5_seed_11 : decode cX5_seed 11 = .ok (.istore_n 2, 1) := by decide +kernel
theorem dX5_seed_12 : decode cX5_seed 12 = .ok (.aload_n 0, 1) := by decide +kernel
theorem dX5_seed_13 : decode cX5_seed 13 = .ok (.iload_n 1, 1) := by decide +kernel
theorem dX5_seed_14 : decode cX5_seed 14 = .ok (.putfield 236, 3) := by decide +kernel
theorem dX5_seed_17 : decode cX5_seed 17 = .ok (.iload_n 2, 1) := by decide +kernel
theorem dX5_seed_18 : decode cX5_seed 18 = .ok (.ireturn, 1) := by decide +kernel
theorem dX5_keep_0 : decode cX5_keep 0 = .ok (.aload_n 0, 1) := by decide +kernel
theorem dX5_keep_1 : decode cX5_keep 1 = .ok (.iload_n 1, 1) := by decide +kernel
theorem dX5_keep_2 : decode cX5_keep 2 = .ok (.invokevirtual 239, 3) := by decide +kernel
theorem dX5_keep_5 : decode cX5_keep 5 = .ok (.astore_n 2, 1) := by decide +kernel
theorem dX5_keep_6 : decode cX5_keep 6 = .ok (.aload_n 2, 1) := by decide +kernel
theorem dX5_keep_7 : decode cX5_keep 7 = .ok (.ifnonnull 6, 3) := by decide +kernel
theorem dX5_keep_10 : decode cX5_keep 10 = .ok (.ldc 122, 2) := by decide +kernel
theorem dX5_keep_12 : decode cX5_keep 12 = .ok (.ireturn, 1) := by decide +kernel
theorem dX5_keep_13 : decode cX5_keep 13 = .ok (.aload_n 2, 1) := by decide +kernel
theorem dX5_keep_14 : decode cX5_keep 14 = .ok (.iconst 1, 1) := by decide +kernel
theorem dX5_keep_15 : decode cX5_keep 15 = .ok (.putfield 243, 3) := by decide +kernel
theorem dX5_keep_18 : decode cX5_keep 18 = .ok (.aload_n 2, 1) := by decide +kernel
theorem dX5_keep_19 : decode cX5_keep 19 = .ok (.aload_n 0, 1) := by decide +kernel
theorem dX5_keep_20 : decode cX5_keep 20 = .ok (.getfield 236, 3) := by decide +kernel
theorem dX5_keep_23 : decode cX5_keep 23 = .ok (.putfield 246, 3) := by decide +kernel
theorem dX5_keep_26 : decode cX5_keep 26 = .ok (.aload_n 2, 1) := by decide +kernel
theorem dX5_keep_27 : decode cX5_keep 27 = .ok (.getfield 249, 3) := by decide +kernel
theorem dX5_keep_30 : decode cX5_keep 30 = .ok (.aload_n 0, 1) := by decide +kernel
theorem dX5_keep_31 : decode cX5_keep 31 = .ok (.getfield 10, 3) := by decide +kernel
theorem dX5_keep_34 : decode cX5_keep 34 = .ok (.invokevirtual 224, 3) := by decide +kernel
theorem dX5_keep_37 : decode cX5_keep 37 = .ok (.aload_n 0, 1) := by decide +kernel
theorem dX5_keep_38 : decode cX5_keep 38 = .ok (.getfield 32, 3) := by decide +kernel
theorem dX5_keep_41 : decode cX5_keep 41 = .ok (.invokevirtual 252, 3) := by decide +kernel
theorem dX5_keep_44 : decode cX5_keep 44 = .ok (.iconst 1, 1) := by decide +kernel
theorem dX5_keep_45 : decode cX5_keep 45 = .ok (.ireturn, 1) := by decide +kernel
theorem dX5_goBack_0 : decode cX5_goBack 0 = .ok (.aload_n 0, 1) := by decide +kernel
theorem dX5_goBack_1 : decode cX5_goBack 1 = .ok (.iload_n 1, 1) := by decide +kernel
theorem dX5_goBack_2 : decode cX5_goBack 2 = .ok (.invokevirtual 239, 3) := by decide +kernel
theorem dX5_goBack_5 : decode cX5_goBack 5 = .ok (.astore_n 2, 1) := by decide +kernel
theorem dX5_goBack_6 : decode cX5_goBack 6 = .ok (.aload_n 2, 1) := by decide +kernel
theorem dX5_goBack_7 : decode cX5_goBack 7 = .ok (.ifnonnull 6, 3) := by decide +kernel
theorem dX5_goBack_10 : decode cX5_goBack 10 = .ok (.ldc 122, 2) := by decide +kernel
theorem dX5_goBack_12 : decode cX5_goBack 12 = .ok (.ireturn, 1) := by decide +kernel
theorem dX5_goBack_13 : decode cX5_goBack 13 = .ok (.aload_n 2, 1) := by decide +kernel
theorem dX5_goBack_14 : decode cX5_goBack 14 = .ok (.getfield 243, 3) := by decide +kernel
theorem dX5_goBack_17 : decode cX5_goBack 17 = .ok (.ifCond .ne 6, 3) := by decide +kernel
theorem dX5_goBack_20 : decode cX5_goBack 20 = .ok (.ldc 190, 2) := by decide +kernel
theorem dX5_goBack_22 : decode cX5_goBack 22 = .ok (.ireturn, 1) := by decide +kernel
theorem dX5_goBack_23 : decode cX5_goBack 23 = .ok (.aload_n 0, 1) := by decide +kernel
theorem dX5_goBack_24 : decode cX5_goBack 24 = .ok (.aload_n 2, 1) := by decide +kernel
theorem dX5_goBack_25 : decode cX5_goBack 25 = .ok (.getfield 246, 3) := by decide +kernel
theorem dX5_goBack_28 : decode cX5_goBack 28 = .ok (.putfield 236, 3) := by decide +kernel
theorem dX5_goBack_31 : decode cX5_goBack 31 = .ok (.aload_n 0, 1) := by decide +kernel
theorem dX5_goBack_32 : decode cX5_goBack 32 = .ok (.getfield 10, 3) := by decide +kernel
theorem dX5_goBack_35 : decode cX5_goBack 35 = .ok (.aload_n 2, 1) := by decide +kernel
theorem dX5_goBack_36 : decode cX5_goBack 36 = .ok (.getfield 249, 3) := by decide +kernel
theorem dX5_goBack_39 : decode cX5_goBack 39 = .ok (.invokevirtual 224, 3) := by decide +kernel
theorem dX5_goBack_42 : decode cX5_goBack 42 = .ok (.aload_n 0, 1) := by decide +kernel
theorem dX5_goBack_43 : decode cX5_goBack 43 = .ok (.getfield 32, 3) := by decide +kernel
theorem dX5_goBack_46 : decode cX5_goBack 46 = .ok (.invokevirtual 252, 3) := by decide +kernel
theorem dX5_goBack_49 : decode cX5_goBack 49 = .ok (.aload_n 0, 1) := by decide +kernel
theorem dX5_goBack_50 : decode cX5_goBack 50 = .ok (.iconst 0, 1) := by decide +kernel
theorem dX5_goBack_51 : decode cX5_goBack 51 = .ok (.putfield 217, 3) := by decide +kernel
theorem dX5_goBack_54 : decode cX5_goBack 54 = .ok (.iconst 1, 1) := by decide +kernel
theorem dX5_goBack_55 : decode cX5_goBack 55 = .ok (.ireturn, 1) := by decide +kernel
theorem dX5_within_0 : decode cX5_within 0 = .ok (.iload_n 0, 1) := by decide +kernel
theorem dX5_within_1 : decode cX5_within 1 = .ok (.iload_n 1, 1) := by decide +kernel
theorem dX5_within_2 : decode cX5_within 2 = .ok (.if_icmp .lt 12, 3) := by decide +kernel
theorem dX5_within_5 : decode cX5_within 5 = .ok (.iload_n 0, 1) := by decide +kernel
theorem dX5_within_6 : decode cX5_within 6 = .ok (.iload_n 2, 1) := by decide +kernel
theorem dX5_within_7 : decode cX5_within 7 = .ok (.if_icmp .gt 7, 3) := by decide +kernel
theorem dX5_within_10 : decode cX5_within 10 = .ok (.iconst 1, 1) := by decide +kernel
theorem dX5_within_11 : decode cX5_within 11 = .ok (.goto 4, 3) := by decide +kernel
theorem dX5_within_14 : decode cX5_within 14 = .ok (.iconst 0, 1) := by decide +kernel
theorem dX5_within_15 : decode cX5_within 15 = .ok (.ireturn, 1) := by decide +kernel
theorem dX5_beforeDeed_0 : decode cX5_beforeDeed 0 = .ok (.aload_n 0, 1) := by decide +kernel
theorem dX5_beforeDeed_1 : decode cX5_beforeDeed 1 = .ok (.getfield 32, 3) := by decide +kernel
theorem dX5_beforeDeed_4 : decode cX5_beforeDeed 4 = .ok (.aload_n 0, 1) := by decide +kernel
theorem dX5_beforeDeed_5 : decode cX5_beforeDeed 5 = .ok (.getfield 10, 3) := by decide +kernel
theorem dX5_beforeDeed_8 : decode cX5_beforeDeed 8 = .ok (.invokevirtual 255, 3) := by decide +kernel
theorem dX5_beforeDeed_11 : decode cX5_beforeDeed 11 = .ok (.aload_n 0, 1) := by decide +kernel
theorem dX5_beforeDeed_12 : decode cX5_beforeDeed 12 = .ok (.iconst 0, 1) := by decide +kernel
theorem dX5_beforeDeed_13 : decode cX5_beforeDeed 13 = .ok (.putfield 217, 3) := by decide +kernel
theorem dX5_beforeDeed_16 : decode cX5_beforeDeed 16 = .ok (.return_, 1) := by decide +kernel
theorem dX5_plan_0 : decode cX5_plan 0 = .ok (.aload_n 0, 1) := by decide +kernel
theorem dX5_plan_1 : decode cX5_plan 1 = .ok (.getfield 217, 3) := by decide +kernel
theorem dX5_plan_4 : decode cX5_plan 4 = .ok (.ifCond .ne 23, 3) := by decide +kernel
theorem dX5_plan_7 : decode cX5_plan 7 = .ok (.aload_n 0, 1) := by decide +kernel
theorem dX5_plan_8 : decode cX5_plan 8 = .ok (.getfield 22, 3) := by decide +kernel
theorem dX5_plan_11 : decode cX5_plan 11 = .ok (.aload_n 0, 1) := by decide +kernel
theorem dX5_plan_12 : decode cX5_plan 12 = .ok (.getfield 10, 3) := by decide +kernel
theorem dX5_plan_15 : decode cX5_plan 15 = .ok (.ldc_w 258, 3) := by decide +kernel
theorem dX5_plan_18 : decode cX5_plan 18 = .ok (.iconst 0, 1) := by decide +kernel
theorem dX5_plan_19 : decode cX5_plan 19 = .ok (.invokevirtual 259, 3) := by decide +kernel
theorem dX5_plan_22 : decode cX5_plan 22 = .ok (.aload_n 0, 1) := by decide +kernel
theorem dX5_plan_23 : decode cX5_plan 23 = .ok (.iconst 1, 1) := by decide +kernel
theorem dX5_plan_24 : decode cX5_plan 24 = .ok (.putfield 217, 3) := by decide +kernel
theorem dX5_plan_27 : decode cX5_plan 27 = .ok (.aload_n 0, 1) := by decide +kernel
theorem dX5_plan_28 : decode cX5_plan 28 = .ok (.getfield 22, 3) := by decide +kernel
theorem dX5_plan_31 : decode cX5_plan 31 = .ok (.areturn, 1) := by decide +kernel
theorem dX5_harmBehind_0 : decode cX5_harmBehind 0 = .ok (.aload_n 0, 1) := by decide +kernel
theorem dX5_harmBehind_1 : decode cX5_harmBehind 1 = .ok (.getfield 10, 3) := by decide +kernel
theorem dX5_harmBehind_4 : decode cX5_harmBehind 4 = .ok (.iload_n 1, 1) := by decide +kernel
theorem dX5_harmBehind_5 : decode cX5_harmBehind 5 = .ok (.invokevirtual 133, 3) := by decide +kernel
theorem dX5_harmBehind_8 : decode cX5_harmBehind 8 = .ok (.iconst (-1), 1) := by decide +kernel
theorem dX5_harmBehind_9 : decode cX5_harmBehind 9 = .ok (.if_icmp .ne 5, 3) := by decide +kernel
theorem dX5_harmBehind_12 : decode cX5_harmBehind 12 = .ok (.iconst (-1), 1) := by decide +kernel
theorem dX5_harmBehind_13 : decode cX5_harmBehind 13 = .ok (.ireturn, 1) := by decide +kernel
theorem dX5_harmBehind_14 : decode cX5_harmBehind 14 = .ok (.aload_n 0, 1) := by decide +kernel
theorem dX5_harmBehind_15 : decode cX5_harmBehind 15 = .ok (.getfield 16, 3) := by decide +kernel
theorem dX5_harmBehind_18 : decode cX5_harmBehind 18 = .ok (.aload_n 0, 1) := by decide +kernel
theorem dX5_harmBehind_19 : decode cX5_harmBehind 19 = .ok (.getfield 10, 3) := by decide +kernel
theorem dX5_harmBehind_22 : decode cX5_harmBehind 22 = .ok (.invokevirtual 224, 3) := by decide +kernel
theorem dX5_harmBehind_25 : decode cX5_harmBehind 25 = .ok (.aload_n 0, 1) := by decide +kernel
theorem dX5_harmBehind_26 : decode cX5_harmBehind 26 = .ok (.getfield 16, 3) := by decide +kernel
theorem dX5_harmBehind_29 : decode cX5_harmBehind 29 = .ok (.iload_n 1, 1) := by decide +kernel
theorem dX5_harmBehind_30 : decode cX5_harmBehind 30 = .ok (.invokevirtual 204, 3) := by decide +kernel
theorem dX5_harmBehind_33 : decode cX5_harmBehind 33 = .ok (.aload_n 0, 1) := by decide +kernel
theorem dX5_harmBehind_34 : decode cX5_harmBehind 34 = .ok (.getfield 16, 3) := by decide +kernel
theorem dX5_harmBehind_37 : decode cX5_harmBehind 37 = .ok (.invokevirtual 85, 3) := by decide +kernel
theorem dX5_harmBehind_40 : decode cX5_harmBehind 40 = .ok (.ireturn, 1) := by decide +kernel
theorem dX5_stockIfLate_0 : decode cX5_stockIfLate 0 = .ok (.aload_n 0, 1) := by decide +kernel
theorem dX5_stockIfLate_1 : decode cX5_stockIfLate 1 = .ok (.getfield 16, 3) := by decide +kernel
theorem dX5_stockIfLate_4 : decode cX5_stockIfLate 4 = .ok (.aload_n 0, 1) := by decide +kernel
theorem dX5_stockIfLate_5 : decode cX5_stockIfLate 5 = .ok (.getfield 10, 3) := by decide +kernel
theorem dX5_stockIfLate_8 : decode cX5_stockIfLate 8 = .ok (.invokevirtual 224, 3) := by decide +kernel
theorem dX5_stockIfLate_11 : decode cX5_stockIfLate 11 = .ok (.aload_n 0, 1) := by decide +kernel
theorem dX5_stockIfLate_12 : decode cX5_stockIfLate 12 = .ok (.getfield 16, 3) := by decide +kernel
theorem dX5_stockIfLate_15 : decode cX5_stockIfLate 15 = .ok (.iload_n 1, 1) := by decide +kernel
theorem dX5_stockIfLate_16 : decode cX5_stockIfLate 16 = .ok (.iload_n 2, 1) := by decide +kernel
theorem dX5_stockIfLate_17 : decode cX5_stockIfLate 17 = .ok (.invokevirtual 263, 3) := by decide +kernel
theorem dX5_stockIfLate_20 : decode cX5_stockIfLate 20 = .ok (.aload_n 0, 1) := by decide +kernel
theorem dX5_stockIfLate_21 : decode cX5_stockIfLate 21 = .ok (.getfield 16, 3) := by decide +kernel
theorem dX5_stockIfLate_24 : decode cX5_stockIfLate 24 = .ok (.invokevirtual 63, 3) := by decide +kernel
theorem dX5_stockIfLate_27 : decode cX5_stockIfLate 27 = .ok (.ireturn, 1) := by decide +kernel
theorem dX5_stockWithout_0 : decode cX5_stockWithout 0 = .ok (.aload_n 0, 1) := by decide +kernel
theorem dX5_stockWithout_1 : decode cX5_stockWithout 1 = .ok (.getfield 16, 3) := by decide +kernel
theorem dX5_stockWithout_4 : decode cX5_stockWithout 4 = .ok (.aload_n 0, 1) := by decide +kernel
theorem dX5_stockWithout_5 : decode cX5_stockWithout 5 = .ok (.getfield 10, 3) := by decide +kernel
theorem dX5_stockWithout_8 : decode cX5_stockWithout 8 = .ok (.invokevirtual 224, 3) := by decide +kernel
theorem dX5_stockWithout_11 : decode cX5_stockWithout 11 = .ok (.aload_n 0, 1) := by decide +kernel
theorem dX5_stockWithout_12 : decode cX5_stockWithout 12 = .ok (.getfield 16, 3) := by decide +kernel
theorem dX5_stockWithout_15 : decode cX5_stockWithout 15 = .ok (.iload_n 1, 1) := by decide +kernel
theorem dX5_stockWithout_16 : decode cX5_stockWithout 16 = .ok (.invokevirtual 194, 3) := by decide +kernel
theorem dX5_stockWithout_19 : decode cX5_stockWithout 19 = .ok (.aload_n 0, 1) := by decide +kernel
theorem dX5_stockWithout_20 : decode cX5_stockWithout 20 = .ok (.getfield 16, 3) := by decide +kernel
theorem dX5_stockWithout_23 : decode cX5_stockWithout 23 = .ok (.invokevirtual 63, 3) := by decide +kernel
theorem dX5_stockWithout_26 : decode cX5_stockWithout 26 = .ok (.ireturn, 1) := by decide +kernel
theorem dX5_mayWait_0 : decode cX5_mayWait 0 = .ok (.aload_n 0, 1) := by decide +kernel
theorem dX5_mayWait_1 : decode cX5_mayWait 1 = .ok (.invokevirtual 91, 3) := by decide +kernel
theorem dX5_mayWait_4 : decode cX5_mayWait 4 = .ok (.astore_n 1, 1) := by decide +kernel
theorem dX5_mayWait_5 : decode cX5_mayWait 5 = .ok (.aload_n 1, 1) := by decide +kernel
theorem dX5_mayWait_6 : decode cX5_mayWait 6 = .ok (.getfield 221, 3) := by decide +kernel
theorem dX5_mayWait_9 : decode cX5_mayWait 9 = .ok (.ifCond .ne 5, 3) := by decide +kernel
theorem dX5_mayWait_12 : decode cX5_mayWait 12 = .ok (.iconst (-1), 1) := by decide +kernel
theorem dX5_mayWait_13 : decode cX5_mayWait 13 = .ok (.ireturn, 1) := by decide +kernel
theorem dX5_mayWait_14 : decode cX5_mayWait 14 = .ok (.bipush 12, 2) := by decide +kernel
theorem dX5_mayWait_16 : decode cX5_mayWait 16 = .ok (.istore_n 2, 1) := by decide +kernel
theorem dX5_mayWait_17 : decode cX5_mayWait 17 = .ok (.iload_n 2, 1) := by decide +kernel
theorem dX5_mayWait_18 : decode cX5_mayWait 18 = .ok (.ifCond .le 53, 3) := by decide +kernel
theorem dX5_mayWait_21 : decode cX5_mayWait 21 = .ok (.aload_n 0, 1) := by decide +kernel
theorem dX5_mayWait_22 : decode cX5_mayWait 22 = .ok (.getfield 16, 3) := by decide +kernel
theorem dX5_mayWait_25 : decode cX5_mayWait 25 = .ok (.aload_n 0, 1) := by decide +kernel
theorem dX5_mayWait_26 : decode cX5_mayWait 26 = .ok (.getfield 10, 3) := by decide +kernel
theorem dX5_mayWait_29 : decode cX5_mayWait 29 = .ok (.invokevirtual 224, 3) := by decide +kernel
theorem dX5_mayWait_32 : decode cX5_mayWait 32 = .ok (.aload_n 0, 1) := by decide +kernel
theorem dX5_mayWait_33 : decode cX5_mayWait 33 = .ok (.getfield 16, 3) := by decide +kernel
theorem dX5_mayWait_36 : decode cX5_mayWait 36 = .ok (.dup, 1) := by decide +kernel
theorem dX5_mayWait_37 : decode cX5_mayWait 37 = .ok (.getfield 57, 3) := by decide +kernel
theorem dX5_mayWait_40 : decode cX5_mayWait 40 = .ok (.iload_n 2, 1) := by decide +kernel
theorem dX5_mayWait_41 : decode cX5_mayWait 41 = .ok (.iadd, 1) := by decide +kernel
theorem dX5_mayWait_42 : decode cX5_mayWait 42 = .ok (.putfield 57, 3) := by decide +kernel
theorem dX5_mayWait_45 : decode cX5_mayWait 45 = .ok (.aload_n 0, 1) := by decide +kernel
theorem dX5_mayWait_46 : decode cX5_mayWait 46 = .ok (.getfield 26, 3) := by decide +kernel
theorem dX5_mayWait_49 : decode cX5_mayWait 49 = .ok (.aload_n 0, 1) := by decide +kernel
theorem dX5_mayWait_50 : decode cX5_mayWait 50 = .ok (.getfield 16, 3) := by decide +kernel
theorem dX5_mayWait_53 : decode cX5_mayWait 53 = .ok (.aload_n 1, 1) := by decide +kernel
theorem dX5_mayWait_54 : decode cX5_mayWait 54 = .ok (.getfield 266, 3) := by decide +kernel
theorem dX5_mayWait_57 : decode cX5_mayWait 57 = .ok (.invokevirtual 269, 3) := by decide +kernel
theorem dX5_mayWait_60 : decode cX5_mayWait 60 = .ok (.ifCond .eq 5, 3) := by decide +kernel
theorem dX5_mayWait_63 : decode cX5_mayWait 63 = .ok (.iload_n 2, 1) := by decide +kernel
theorem dX5_mayWait_64 : decode cX5_mayWait 64 = .ok (.ireturn, 1) := by decide +kernel
theorem dX5_mayWait_65 : decode cX5_mayWait 65 = .ok (.iinc 2 (-1), 3) := by decide +kernel
theorem dX5_mayWait_68 : decode cX5_mayWait 68 = .ok (.goto (-51), 3) := by decide +kernel
theorem dX5_mayWait_71 : decode cX5_mayWait 71 = .ok (.iconst 0, 1) := by decide +kernel
theorem dX5_mayWait_72 : decode cX5_mayWait 72 = .ok (.ireturn, 1) := by decide +kernel
theorem dX5_mayBeLate_0 : decode cX5_mayBeLate 0 = .ok (.aload_n 0, 1) := by decide +kernel
theorem dX5_mayBeLate_1 : decode cX5_mayBeLate 1 = .ok (.invokevirtual 91, 3) := by decide +kernel
theorem dX5_mayBeLate_4 : decode cX5_mayBeLate 4 = .ok (.astore_n 2, 1) := by decide +kernel
theorem dX5_mayBeLate_5 : decode cX5_mayBeLate 5 = .ok (.aload_n 2, 1) := by decide +kernel
theorem dX5_mayBeLate_6 : decode cX5_mayBeLate 6 = .ok (.getfield 221, 3) := by decide +kernel
theorem dX5_mayBeLate_9 : decode cX5_mayBeLate 9 = .ok (.ifCond .ne 5, 3) := by decide +kernel
theorem dX5_mayBeLate_12 : decode cX5_mayBeLate 12 = .ok (.iconst (-1), 1) := by decide +kernel
theorem dX5_mayBeLate_13 : decode cX5_mayBeLate 13 = .ok (.ireturn, 1) := by decide +kernel
theorem dX5_mayBeLate_14 : decode cX5_mayBeLate 14 = .ok (.bipush 12, 2) := by decide +kernel
theorem dX5_mayBeLate_16 : decode cX5_mayBeLate 16 = .ok (.bipush 99, 2) := by decide +kernel
theorem dX5_mayBeLate_18 : decode cX5_mayBeLate 18 = .ok (.aload_n 0, 1) := by decide +kernel
theorem dX5_mayBeLate_19 : decode cX5_mayBeLate 19 = .ok (.getfield 10, 3) := by decide +kernel
theorem dX5_mayBeLate_22 : decode cX5_mayBeLate 22 = .ok (.getfield 155, 3) := by decide +kernel
theorem dX5_mayBeLate_25 : decode cX5_mayBeLate 25 = .ok (.iload_n 1, 1) := by decide +kernel
theorem dX5_mayBeLate_26 : decode cX5_mayBeLate 26 = .ok (.iaload, 1) := by decide +kernel
theorem dX5_mayBeLate_27 : decode cX5_mayBeLate 27 = .ok (.isub, 1) := by decide +kernel
theorem dX5_mayBeLate_28 : decode cX5_mayBeLate 28 = .ok (.invokestatic 273, 3) := by decide +kernel
theorem dX5_mayBeLate_31 : decode cX5_mayBeLate 31 = .ok (.istore_n 3, 1) := by decide +kernel
theorem dX5_mayBeLate_32 : decode cX5_mayBeLate 32 = .ok (.iload_n 3, 1) := by decide +kernel
theorem dX5_mayBeLate_33 : decode cX5_mayBeLate 33 = .ok (.istore 4, 2) := by decide +kernel
theorem dX5_mayBeLate_35 : decode cX5_mayBeLate 35 = .ok (.iload 4, 2) := by decide +kernel
theorem dX5_mayBeLate_37 : decode cX5_mayBeLate 37 = .ok (.ifCond .le 61, 3) := by decide +kernel
theorem dX5_mayBeLate_40 : decode cX5_mayBeLate 40 = .ok (.aload_n 0, 1) := by decide +kernel
theorem dX5_mayBeLate_41 : decode cX5_mayBeLate 41 = .ok (.getfield 16, 3) := by decide +kernel
theorem dX5_mayBeLate_44 : decode cX5_mayBeLate 44 = .ok (.aload_n 0, 1) := by decide +kernel
theorem dX5_mayBeLate_45 : decode cX5_mayBeLate 45 = .ok (.getfield 10, 3) := by decide +kernel
theorem dX5_mayBeLate_48 : decode cX5_mayBeLate 48 = .ok (.invokevirtual 224, 3) := by decide +kernel
theorem dX5_mayBeLate_51 : decode cX5_mayBeLate 51 = .ok (.aload_n 0, 1) := by decide +kernel
theorem dX5_mayBeLate_52 : decode cX5_mayBeLate 52 = .ok (.getfield 16, 3) := by decide +kernel
theorem dX5_mayBeLate_55 : decode cX5_mayBeLate 55 = .ok (.iload_n 1, 1) := by decide +kernel
theorem dX5_mayBeLate_56 : decode cX5_mayBeLate 56 = .ok (.iload 4, 2) := by decide +kernel
theorem dX5_mayBeLate_58 : decode cX5_mayBeLate 58 = .ok (.invokevirtual 263, 3) := by decide +kernel
theorem dX5_mayBeLate_61 : decode cX5_mayBeLate 61 = .ok (.aload_n 0, 1) := by decide +kernel
theorem dX5_mayBeLate_62 : decode cX5_mayBeLate 62 = .ok (.getfield 16, 3) := by decide +kernel
theorem dX5_mayBeLate_65 : decode cX5_mayBeLate 65 = .ok (.invokevirtual 63, 3) := by decide +kernel
theorem dX5_mayBeLate_68 : decode cX5_mayBeLate 68 = .ok (.ifCond .lt 24, 3) := by decide +kernel
theorem dX5_mayBeLate_71 : decode cX5_mayBeLate 71 = .ok (.aload_n 0, 1) := by decide +kernel
theorem dX5_mayBeLate_72 : decode cX5_mayBeLate 72 = .ok (.getfield 26, 3) := by decide +kernel
theorem dX5_mayBeLate_75 : decode cX5_mayBeLate 75 = .ok (.aload_n 0, 1) := by decide +kernel
theorem dX5_mayBeLate_76 : decode cX5_mayBeLate 76 = .ok (.getfield 16, 3) := by decide +kernel
theorem dX5_mayBeLate_79 : decode cX5_mayBeLate 79 = .ok (.aload_n 2, 1) := by decide +kernel
theorem dX5_mayBeLate_80 : decode cX5_mayBeLate 80 = .ok (.getfield 266, 3) := by decide +kernel
theorem dX5_mayBeLate_83 : decode cX5_mayBeLate 83 = .ok (.invokevirtual 269, 3) := by decide +kernel
theorem dX5_mayBeLate_86 : decode cX5_mayBeLate 86 = .ok (.ifCond .eq 6, 3) := by decide +kernel
theorem dX5_mayBeLate_89 : decode cX5_mayBeLate 89 = .ok (.iload 4, 2) := by decide +kernel
theorem dX5_mayBeLate_91 : decode cX5_mayBeLate 91 = .ok (.ireturn, 1) := by decide +kernel
theorem dX5_mayBeLate_92 : decode cX5_mayBeLate 92 = .ok (.iinc 4 (-1), 3) := by decide +kernel
theorem dX5_mayBeLate_95 : decode cX5_mayBeLate 95 = .ok (.goto (-60), 3) := by decide +kernel
theorem dX5_mayBeLate_98 : decode cX5_mayBeLate 98 = .ok (.iconst 0, 1) := by decide +kernel
theorem dX5_mayBeLate_99 : decode cX5_mayBeLate 99 = .ok (.ireturn, 1) := by decide +kernel
theorem dX5_imageAt_0 : decode cX5_imageAt 0 = .ok (.iload_n 1, 1) := by decide +kernel
theorem dX5_imageAt_1 : decode cX5_imageAt 1 = .ok (.ifCond .lt 21, 3) := by decide +kernel
theorem dX5_imageAt_4 : decode cX5_imageAt 4 = .ok (.iload_n 1, 1) := by decide +kernel
theorem dX5_imageAt_5 : decode cX5_imageAt 5 = .ok (.aload_n 0, 1) := by decide +kernel
theorem dX5_imageAt_6 : decode cX5_imageAt 6 = .ok (.getfield 45, 3) := by decide +kernel
theorem dX5_imageAt_9 : decode cX5_imageAt 9 = .ok (.arraylength, 1) := by decide +kernel
theorem dX5_imageAt_10 : decode cX5_imageAt 10 = .ok (.if_icmp .ge 12, 3) := by decide +kernel
theorem dX5_imageAt_13 : decode cX5_imageAt 13 = .ok (.aload_n 0, 1) := by decide +kernel
theorem dX5_imageAt_14 : decode cX5_imageAt 14 = .ok (.getfield 45, 3) := by decide +kernel
theorem dX5_imageAt_17 : decode cX5_imageAt 17 = .ok (.iload_n 1, 1) := by decide +kernel
theorem dX5_imageAt_18 : decode cX5_imageAt 18 = .ok (.aaload, 1) := by decide +kernel
theorem dX5_imageAt_19 : decode cX5_imageAt 19 = .ok (.goto 4, 3) := by decide +kernel
theorem dX5_imageAt_22 : decode cX5_imageAt 22 = .ok (.aconst_null, 1) := by decide +kernel
theorem dX5_imageAt_23 : decode cX5_imageAt 23 = .ok (.areturn, 1) := by decide +kernel
theorem dX5_draw_0 : decode cX5_draw 0 = .ok (.aload_n 0, 1) := by decide +kernel
theorem dX5_draw_1 : decode cX5_draw 1 = .ok (.aload_n 0, 1) := by decide +kernel
theorem dX5_draw_2 : decode cX5_draw 2 = .ok (.getfield 236, 3) := by decide +kernel
theorem dX5_draw_5 : decode cX5_draw 5 = .ok (.i2l, 1) := by decide +kernel
theorem dX5_draw_6 : decode cX5_draw 6 = .ok (.ldc2_w 278, 3) := by decide +kernel
theorem dX5_draw_9 : decode cX5_draw 9 = .ok (.lmul, 1) := by decide +kernel
theorem dX5_draw_10 : decode cX5_draw 10 = .ok (.ldc2_w 280, 3) := by decide +kernel
theorem dX5_draw_13 : decode cX5_draw 13 = .ok (.ladd, 1) := by decide +kernel
theorem dX5_draw_14 : decode cX5_draw 14 = .ok (.ldc2_w 282, 3) := by decide +kernel
theorem dX5_draw_17 : decode cX5_draw 17 = .ok (.land, 1) := by decide +kernel
theorem dX5_draw_18 : decode cX5_draw 18 = .ok (.l2i, 1) := by decide +kernel
theorem dX5_draw_19 : decode cX5_draw 19 = .ok (.putfield 236, 3) := by decide +kernel
theorem dX5_draw_22 : decode cX5_draw 22 = .ok (.iload_n 1, 1) := by decide +kernel
theorem dX5_draw_23 : decode cX5_draw 23 = .ok (.iconst 1, 1) := by decide +kernel
theorem dX5_draw_24 : decode cX5_draw 24 = .ok (.if_icmp .ge 7, 3) := by decide +kernel
theorem dX5_draw_27 : decode cX5_draw 27 = .ok (.iconst 0, 1) := by decide +kernel
theorem dX5_draw_28 : decode cX5_draw 28 = .ok (.goto 13, 3) := by decide +kernel
theorem dX5_draw_31 : decode cX5_draw 31 = .ok (.aload_n 0, 1) := by decide +kernel
theorem dX5_draw_32 : decode cX5_draw 32 = .ok (.getfield 236, 3) := by decide +kernel
theorem dX5_draw_35 : decode cX5_draw 35 = .ok (.ldc_w 284, 3) := by decide +kernel
theorem dX5_draw_38 : decode cX5_draw 38 = .ok (.idiv, 1) := by decide +kernel
theorem dX5_draw_39 : decode cX5_draw 39 = .ok (.iload_n 1, 1) := by decide +kernel
theorem dX5_draw_40 : decode cX5_draw 40 = .ok (.irem, 1) := by decide +kernel
theorem dX5_draw_41 : decode cX5_draw 41 = .ok (.ireturn, 1) := by decide +kernel
theorem dX5_driftOnce_0 : decode cX5_driftOnce 0 = .ok (.aload_n 0, 1) := by decide +kernel
theorem dX5_driftOnce_1 : decode cX5_driftOnce 1 = .ok (.invokevirtual 171, 3) := by decide +kernel
theorem dX5_driftOnce_4 : decode cX5_driftOnce 4 = .ok (.aload_n 0, 1) := by decide +kernel
theorem dX5_driftOnce_5 : decode cX5_driftOnce 5 = .ok (.iconst 4, 1) := by decide +kernel
theorem dX5_driftOnce_6 : decode cX5_driftOnce 6 = .ok (.invokevirtual 285, 3) := by decide +kernel
theorem dX5_driftOnce_9 : decode cX5_driftOnce 9 = .ok (.istore_n 1, 1) := by decide +kernel
theorem dX5_driftOnce_10 : decode cX5_driftOnce 10 = .ok (.aload_n 0, 1) := by decide +kernel
theorem dX5_driftOnce_11 : decode cX5_driftOnce 11 = .ok (.aload_n 0, 1) := by decide +kernel
theorem dX5_driftOnce_12 : decode cX5_driftOnce 12 = .ok (.getfield 10, 3) := by decide +kernel
theorem dX5_driftOnce_15 : decode cX5_driftOnce 15 = .ok (.getfield 288, 3) := by decide +kernel
theorem dX5_driftOnce_18 : decode cX5_driftOnce 18 = .ok (.invokevirtual 285, 3) := by decide +kernel
theorem dX5_driftOnce_21 : decode cX5_driftOnce 21 = .ok (.istore_n 2, 1) := by decide +kernel
theorem dX5_driftOnce_22 : decode cX5_driftOnce 22 = .ok (.aload_n 0, 1) := by decide +kernel
theorem dX5_driftOnce_23 : decode cX5_driftOnce 23 = .ok (.bipush 30, 2) := by decide +kernel
theorem dX5_driftOnce_25 : decode cX5_driftOnce 25 = .ok (.invokevirtual 285, 3) := by decide +kernel
theorem dX5_driftOnce_28 : decode cX5_driftOnce 28 = .ok (.istore_n 3, 1) := by decide +kernel
theorem dX5_driftOnce_29 : decode cX5_driftOnce 29 = .ok (.aload_n 0, 1) := by decide +kernel
theorem dX5_driftOnce_30 : decode cX5_driftOnce 30 = .ok (.iconst 4, 1) := by decide +kernel
theorem dX5_driftOnce_31 : decode cX5_driftOnce 31 = .ok (.invokevirtual 285, 3) := by decide +kernel
theorem dX5_driftOnce_34 : decode cX5_driftOnce 34 = .ok (.istore 4, 2) := by decide +kernel
theorem dX5_driftOnce_36 : decode cX5_driftOnce 36 = .ok (.iload_n 1, 1) := by decide +kernel
theorem dX5_driftOnce_37 : decode cX5_driftOnce 37 = .ok (.iconst 2, 1) := by decide +kernel
theorem dX5_driftOnce_38 : decode cX5_driftOnce 38 = .ok (.if_icmp .ge 50, 3) := by decide +kernel
theorem dX5_driftOnce_41 : decode cX5_driftOnce 41 = .ok (.aload_n 0, 1) := by decide +kernel
theorem dX5_driftOnce_42 : decode cX5_driftOnce 42 = .ok (.getfield 10, 3) := by decide +kernel
theorem dX5_driftOnce_45 : decode cX5_driftOnce 45 = .ok (.invokevirtual 178, 3) := by decide +kernel
theorem dX5_driftOnce_48 : decode cX5_driftOnce 48 = .ok (.ifCond .eq 93, 3) := by decide +kernel
theorem dX5_driftOnce_51 : decode cX5_driftOnce 51 = .ok (.aload_n 0, 1) := by decide +kernel
theorem dX5_driftOnce_52 : decode cX5_driftOnce 52 = .ok (.getfield 10, 3) := by decide +kernel
theorem dX5_driftOnce_55 : decode cX5_driftOnce 55 = .ok (.getfield 57, 3) := by decide +kernel
theorem dX5_driftOnce_58 : decode cX5_driftOnce 58 = .ok (.iload_n 3, 1) := by decide +kernel
theorem dX5_driftOnce_59 : decode cX5_driftOnce 59 = .ok (.iadd, 1) := by decide +kernel
theorem dX5_driftOnce_60 : decode cX5_driftOnce 60 = .ok (.bipush 99, 2) := by decide +kernel
theorem dX5_driftOnce_62 : decode cX5_driftOnce 62 = .ok (.if_icmp .gt 79, 3) := by decide +kernel
theorem dX5_driftOnce_65 : decode cX5_driftOnce 65 = .ok (.aload_n 0, 1) := by decide +kernel
theorem dX5_driftOnce_66 : decode cX5_driftOnce 66 = .ok (.getfield 10, 3) := by decide +kernel
theorem dX5_driftOnce_69 : decode cX5_driftOnce 69 = .ok (.aload_n 0, 1) := by decide +kernel
theorem dX5_driftOnce_70 : decode cX5_driftOnce 70 = .ok (.getfield 10, 3) := by decide +kernel
theorem dX5_driftOnce_73 : decode cX5_driftOnce 73 = .ok (.getfield 57, 3) := by decide +kernel
theorem dX5_driftOnce_76 : decode cX5_driftOnce 76 = .ok (.iload_n 3, 1) := by decide +kernel
theorem dX5_driftOnce_77 : decode cX5_driftOnce 77 = .ok (.iadd, 1) := by decide +kernel
theorem dX5_driftOnce_78 : decode cX5_driftOnce 78 = .ok (.iload 4, 2) := by decide +kernel
theorem dX5_driftOnce_80 : decode cX5_driftOnce 80 = .ok (.iconst 1, 1) := by decide +kernel
theorem dX5_driftOnce_81 : decode cX5_driftOnce 81 = .ok (.iadd, 1) := by decide +kernel
theorem dX5_driftOnce_82 : decode cX5_driftOnce 82 = .ok (.invokevirtual 183, 3) := by decide +kernel
theorem dX5_driftOnce_85 : decode cX5_driftOnce 85 = .ok (.goto 56, 3) := by decide +kernel
theorem dX5_driftOnce_88 : decode cX5_driftOnce 88 = .ok (.iload_n 1, 1) := by decide +kernel
theorem dX5_driftOnce_89 : decode cX5_driftOnce 89 = .ok (.iconst 2, 1) := by decide +kernel
theorem dX5_driftOnce_90 : decode cX5_driftOnce 90 = .ok (.if_icmp .ne 14, 3) := by decide +kernel
theorem dX5_driftOnce_93 : decode cX5_driftOnce 93 = .ok (.aload_n 0, 1) := by decide +kernel
theorem dX5_driftOnce_94 : decode cX5_driftOnce 94 = .ok (.getfield 10, 3) := by decide +kernel
theorem dX5_driftOnce_97 : decode cX5_driftOnce 97 = .ok (.iload_n 2, 1) := by decide +kernel
theorem dX5_driftOnce_98 : decode cX5_driftOnce 98 = .ok (.invokevirtual 204, 3) := by decide +kernel
theorem dX5_driftOnce_101 : decode cX5_driftOnce 101 = .ok (.goto 40, 3) := by decide +kernel
theorem dX5_driftOnce_104 : decode cX5_driftOnce 104 = .ok (.aload_n 0, 1) := by decide +kernel
theorem dX5_driftOnce_105 : decode cX5_driftOnce 105 = .ok (.getfield 10, 3) := by decide +kernel
theorem dX5_driftOnce_108 : decode cX5_driftOnce 108 = .ok (.iload_n 2, 1) := by decide +kernel
theorem dX5_driftOnce_109 : decode cX5_driftOnce 109 = .ok (.invokevirtual 118, 3) := by decide +kernel
theorem dX5_driftOnce_112 : decode cX5_driftOnce 112 = .ok (.ifCond .eq 29, 3) := by decide +kernel
theorem dX5_driftOnce_115 : decode cX5_driftOnce 115 = .ok (.aload_n 0, 1) := by decide +kernel
theorem dX5_driftOnce_116 : decode cX5_driftOnce 116 = .ok (.getfield 10, 3) := by decide +kernel
theorem dX5_driftOnce_119 : decode cX5_driftOnce 119 = .ok (.iload_n 2, 1) := by decide +kernel
theorem dX5_driftOnce_120 : decode cX5_driftOnce 120 = .ok (.invokevirtual 198, 3) := by decide +kernel
theorem dX5_driftOnce_123 : decode cX5_driftOnce 123 = .ok (.ifCond .ne 18, 3) := by decide +kernel
theorem dX5_driftOnce_126 : decode cX5_driftOnce 126 = .ok (.aload_n 0, 1) := by decide +kernel
theorem dX5_driftOnce_127 : decode cX5_driftOnce 127 = .ok (.getfield 10, 3) := by decide +kernel
theorem dX5_driftOnce_130 : decode cX5_driftOnce 130 = .ok (.getfield 123, 3) := by decide +kernel
theorem dX5_driftOnce_133 : decode cX5_driftOnce 133 = .ok (.iload_n 2, 1) := by decide +kernel
theorem dX5_driftOnce_134 : decode cX5_driftOnce 134 = .ok (.iconst 1, 1) := by decide +kernel
theorem dX5_driftOnce_135 : decode cX5_driftOnce 135 = .ok (.iload 4, 2) := by decide +kernel
theorem dX5_driftOnce_137 : decode cX5_driftOnce 137 = .ok (.invokestatic 291, 3) := by decide +kernel
theorem dX5_driftOnce_140 : decode cX5_driftOnce 140 = .ok (.iastore, 1) := by decide +kernel
theorem dX5_driftOnce_141 : decode cX5_driftOnce 141 = .ok (.return_, 1) := by decide +kernel
theorem dX5_copyRow_0 : decode cX5_copyRow 0 = .ok (.iconst 0, 1) := by decide +kernel
theorem dX5_copyRow_1 : decode cX5_copyRow 1 = .ok (.istore_n 2, 1) := by decide +kernel
theorem dX5_copyRow_2 : decode cX5_copyRow 2 = .ok (.iload_n 2, 1) := by decide +kernel
theorem dX5_copyRow_3 : decode cX5_copyRow 3 = .ok (.aload_n 0, 1) := by decide +kernel
theorem dX5_copyRow_4 : decode cX5_copyRow 4 = .ok (.arraylength, 1) := by decide +kernel
theorem dX5_copyRow_5 : decode cX5_copyRow 5 = .ok (.if_icmp .ge 21, 3) := by decide +kernel
theorem dX5_copyRow_8 : decode cX5_copyRow 8 = .ok (.iload_n 2, 1) := by decide +kernel
theorem dX5_copyRow_9 : decode cX5_copyRow 9 = .ok (.aload_n 1, 1) := by decide +kernel
theorem dX5_copyRow_10 : decode cX5_copyRow 10 = .ok (.arraylength, 1) := by decide +kernel
theorem dX5_copyRow_11 : decode cX5_copyRow 11 = .ok (.if_icmp .ge 15, 3) := by decide +kernel
theorem dX5_copyRow_14 : decode cX5_copyRow 14 = .ok (.aload_n 1, 1) := by decide +kernel
theorem dX5_copyRow_15 : decode cX5_copyRow 15 = .ok (.iload_n 2, 1) := by decide +kernel
theorem dX5_copyRow_16 : decode cX5_copyRow 16 = .ok (.aload_n 0, 1) := by decide +kernel
theorem dX5_copyRow_17 : decode cX5_copyRow 17 = .ok (.iload_n 2, 1) := by decide +kernel
theorem dX5_copyRow_18 : decode cX5_copyRow 18 = .ok (.iaload, 1) := by decide +kernel
theorem dX5_copyRow_19 : decode cX5_copyRow 19 = .ok (.iastore, 1) := by decide +kernel
theorem dX5_copyRow_20 : decode cX5_copyRow 20 = .ok (.iinc 2 1, 3) := by decide +kernel
theorem dX5_copyRow_23 : decode cX5_copyRow 23 = .ok (.goto (-21), 3) := by decide +kernel
theorem dX5_copyRow_26 : decode cX5_copyRow 26 = .ok (.return_, 1) := by decide +kernel
theorem dX5_fillRow_0 : decode cX5_fillRow 0 = .ok (.iconst 0, 1) := by decide +kernel
theorem dX5_fillRow_1 : decode cX5_fillRow 1 = .ok (.istore_n 2, 1) := by decide +kernel
theorem dX5_fillRow_2 : decode cX5_fillRow 2 = .ok (.iload_n 2, 1) := by decide +kernel
theorem dX5_fillRow_3 : decode cX5_fillRow 3 = .ok (.aload_n 0, 1) := by decide +kernel
theorem dX5_fillRow_4 : decode cX5_fillRow 4 = .ok (.arraylength, 1) := by decide +kernel
theorem dX5_fillRow_5 : decode cX5_fillRow 5 = .ok (.if_icmp .ge 13, 3) := by decide +kernel
theorem dX5_fillRow_8 : decode cX5_fillRow 8 = .ok (.aload_n 0, 1) := by decide +kernel
theorem dX5_fillRow_9 : decode cX5_fillRow 9 = .ok (.iload_n 2, 1) := by decide +kernel
theorem dX5_fillRow_10 : decode cX5_fillRow 10 = .ok (.iload_n 1, 1) := by decide +kernel
theorem dX5_fillRow_11 : decode cX5_fillRow 11 = .ok (.iastore, 1) := by decide +kernel
theorem dX5_fillRow_12 : decode cX5_fillRow 12 = .ok (.iinc 2 1, 3) := by decide +kernel
theorem dX5_fillRow_15 : decode cX5_fillRow 15 = .ok (.goto (-13), 3) := by decide +kernel
theorem dX5_fillRow_18 : decode cX5_fillRow 18 = .ok (.return_, 1) := by decide +kernel
