theorem dX6_mayBeLate_110 : decode cX6_mayBeLate 110 = .ok (.goto 4, 3) := by decide +kernel
theorem dX6_mayBeLate_113 : decode cX6_mayBeLate 113 = .ok (.iload_n 3, 1) := by decide +kernel
theorem dX6_mayBeLate_114 : decode cX6_mayBeLate 114 = .ok (.istore_n 3, 1) := by decide +kernel
theorem dX6_mayBeLate_115 : decode cX6_mayBeLate 115 = .ok (.iinc 4 1, 3) := by decide +kernel
theorem dX6_mayBeLate_118 : decode cX6_mayBeLate 118 = .ok (.goto (-94), 3) := by decide +kernel
theorem dX6_mayBeLate_121 : decode cX6_mayBeLate 121 = .ok (.iload_n 3, 1) := by decide +kernel
theorem dX6_mayBeLate_122 : decode cX6_mayBeLate 122 = .ok (.ireturn, 1) := by decide +kernel
theorem dX6_joints_0 : decode cX6_joints 0 = .ok (.iconst 0, 1) := by decide +kernel
theorem dX6_joints_1 : decode cX6_joints 1 = .ok (.istore_n 1, 1) := by decide +kernel
theorem dX6_joints_2 : decode cX6_joints 2 = .ok (.iconst 0, 1) := by decide +kernel
theorem dX6_joints_3 : decode cX6_joints 3 = .ok (.istore_n 2, 1) := by decide +kernel
theorem dX6_joints_4 : decode cX6_joints 4 = .ok (.iload_n 2, 1) := by decide +kernel
theorem dX6_joints_5 : decode cX6_joints 5 = .ok (.bipush 27, 2) := by decide +kernel
theorem dX6_joints_7 : decode cX6_joints 7 = .ok (.if_icmp .ge 26, 3) := by decide +kernel
theorem dX6_joints_10 : decode cX6_joints 10 = .ok (.iload_n 1, 1) := by decide +kernel
theorem dX6_joints_11 : decode cX6_joints 11 = .ok (.aload_n 0, 1) := by decide +kernel
theorem dX6_joints_12 : decode cX6_joints 12 = .ok (.iconst 0, 1) := by decide +kernel
theorem dX6_joints_13 : decode cX6_joints 13 = .ok (.iload_n 2, 1) := by decide +kernel
theorem dX6_joints_14 : decode cX6_joints 14 = .ok (.invokevirtual 73, 3) := by decide +kernel
theorem dX6_joints_17 : decode cX6_joints 17 = .ok (.ifCond .eq 7, 3) := by decide +kernel
theorem dX6_joints_20 : decode cX6_joints 20 = .ok (.iconst 1, 1) := by decide +kernel
theorem dX6_joints_21 : decode cX6_joints 21 = .ok (.goto 4, 3) := by decide +kernel
theorem dX6_joints_24 : decode cX6_joints 24 = .ok (.iconst 0, 1) := by decide +kernel
theorem dX6_joints_25 : decode cX6_joints 25 = .ok (.iadd, 1) := by decide +kernel
theorem dX6_joints_26 : decode cX6_joints 26 = .ok (.istore_n 1, 1) := by decide +kernel
theorem dX6_joints_27 : decode cX6_joints 27 = .ok (.iinc 2 1, 3) := by decide +kernel
theorem dX6_joints_30 : decode cX6_joints 30 = .ok (.goto (-26), 3) := by decide +kernel
theorem dX6_joints_33 : decode cX6_joints 33 = .ok (.iload_n 1, 1) := by decide +kernel
theorem dX6_joints_34 : decode cX6_joints 34 = .ok (.ireturn, 1) := by decide +kernel
theorem dX6_can_0 : decode cX6_can 0 = .ok (.iconst 0, 1) := by decide +kernel
theorem dX6_can_1 : decode cX6_can 1 = .ok (.istore_n 1, 1) := by decide +kernel
theorem dX6_can_2 : decode cX6_can 2 = .ok (.iconst 0, 1) := by decide +kernel
theorem dX6_can_3 : decode cX6_can 3 = .ok (.istore_n 2, 1) := by decide +kernel
theorem dX6_can_4 : decode cX6_can 4 = .ok (.iload_n 2, 1) := by decide +kernel
theorem dX6_can_5 : decode cX6_can 5 = .ok (.aload_n 0, 1) := by decide +kernel
theorem dX6_can_6 : decode cX6_can 6 = .ok (.invokevirtual 46, 3) := by decide +kernel
theorem dX6_can_9 : decode cX6_can 9 = .ok (.if_icmp .ge 29, 3) := by decide +kernel
theorem dX6_can_12 : decode cX6_can 12 = .ok (.iload_n 1, 1) := by decide +kernel
theorem dX6_can_13 : decode cX6_can 13 = .ok (.aload_n 0, 1) := by decide +kernel
theorem dX6_can_14 : decode cX6_can 14 = .ok (.iconst 0, 1) := by decide +kernel
theorem dX6_can_15 : decode cX6_can 15 = .ok (.iload_n 2, 1) := by decide +kernel
theorem dX6_can_16 : decode cX6_can 16 = .ok (.invokevirtual 67, 3) := by decide +kernel
theorem dX6_can_19 : decode cX6_can 19 = .ok (.iconst (-1), 1) := by decide +kernel
theorem dX6_can_20 : decode cX6_can 20 = .ok (.if_icmp .ne 7, 3) := by decide +kernel
theorem dX6_can_23 : decode cX6_can 23 = .ok (.iconst 0, 1) := by decide +kernel
theorem dX6_can_24 : decode cX6_can 24 = .ok (.goto 6, 3) := by decide +kernel
theorem dX6_can_27 : decode cX6_can 27 = .ok (.iconst 1, 1) := by decide +kernel
theorem dX6_can_28 : decode cX6_can 28 = .ok (.iload_n 2, 1) := by decide +kernel
theorem dX6_can_29 : decode cX6_can 29 = .ok (.ishl, 1) := by decide +kernel
theorem dX6_can_30 : decode cX6_can 30 = .ok (.ior, 1) := by decide +kernel
theorem dX6_can_31 : decode cX6_can 31 = .ok (.istore_n 1, 1) := by decide +kernel
theorem dX6_can_32 : decode cX6_can 32 = .ok (.iinc 2 1, 3) := by decide +kernel
theorem dX6_can_35 : decode cX6_can 35 = .ok (.goto (-31), 3) := by decide +kernel
theorem dX6_can_38 : decode cX6_can 38 = .ok (.iload_n 1, 1) := by decide +kernel
theorem dX6_can_39 : decode cX6_can 39 = .ok (.ireturn, 1) := by decide +kernel
theorem dX6_wrong_0 : decode cX6_wrong 0 = .ok (.iconst 0, 1) := by decide +kernel
theorem dX6_wrong_1 : decode cX6_wrong 1 = .ok (.istore_n 1, 1) := by decide +kernel
theorem dX6_wrong_2 : decode cX6_wrong 2 = .ok (.iload_n 1, 1) := by decide +kernel
theorem dX6_wrong_3 : decode cX6_wrong 3 = .ok (.aload_n 0, 1) := by decide +kernel
theorem dX6_wrong_4 : decode cX6_wrong 4 = .ok (.getfield 108, 3) := by decide +kernel
theorem dX6_wrong_7 : decode cX6_wrong 7 = .ok (.if_icmp .ge 46, 3) := by decide +kernel
theorem dX6_wrong_10 : decode cX6_wrong 10 = .ok (.aload_n 0, 1) := by decide +kernel
theorem dX6_wrong_11 : decode cX6_wrong 11 = .ok (.iconst 0, 1) := by decide +kernel
theorem dX6_wrong_12 : decode cX6_wrong 12 = .ok (.aload_n 0, 1) := by decide +kernel
theorem dX6_wrong_13 : decode cX6_wrong 13 = .ok (.getfield 20, 3) := by decide +kernel
theorem dX6_wrong_16 : decode cX6_wrong 16 = .ok (.iload_n 1, 1) := by decide +kernel
theorem dX6_wrong_17 : decode cX6_wrong 17 = .ok (.iaload, 1) := by decide +kernel
theorem dX6_wrong_18 : decode cX6_wrong 18 = .ok (.invokevirtual 70, 3) := by decide +kernel
theorem dX6_wrong_21 : decode cX6_wrong 21 = .ok (.iconst (-1), 1) := by decide +kernel
theorem dX6_wrong_22 : decode cX6_wrong 22 = .ok (.if_icmp .eq 23, 3) := by decide +kernel
theorem dX6_wrong_25 : decode cX6_wrong 25 = .ok (.aload_n 0, 1) := by decide +kernel
theorem dX6_wrong_26 : decode cX6_wrong 26 = .ok (.iconst 0, 1) := by decide +kernel
theorem dX6_wrong_27 : decode cX6_wrong 27 = .ok (.aload_n 0, 1) := by decide +kernel
theorem dX6_wrong_28 : decode cX6_wrong 28 = .ok (.getfield 20, 3) := by decide +kernel
theorem dX6_wrong_31 : decode cX6_wrong 31 = .ok (.iload_n 1, 1) := by decide +kernel
theorem dX6_wrong_32 : decode cX6_wrong 32 = .ok (.iaload, 1) := by decide +kernel
theorem dX6_wrong_33 : decode cX6_wrong 33 = .ok (.invokevirtual 73, 3) := by decide +kernel
theorem dX6_wrong_36 : decode cX6_wrong 36 = .ok (.aload_n 0, 1) := by decide +kernel
theorem dX6_wrong_37 : decode cX6_wrong 37 = .ok (.getfield 23, 3) := by decide +kernel
theorem dX6_wrong_40 : decode cX6_wrong 40 = .ok (.iload_n 1, 1) := by decide +kernel
theorem dX6_wrong_41 : decode cX6_wrong 41 = .ok (.baload, 1) := by decide +kernel
theorem dX6_wrong_42 : decode cX6_wrong 42 = .ok (.if_icmp .eq 5, 3) := by decide +kernel
theorem dX6_wrong_45 : decode cX6_wrong 45 = .ok (.iload_n 1, 1) := by decide +kernel
theorem dX6_wrong_46 : decode cX6_wrong 46 = .ok (.ireturn, 1) := by decide +kernel
theorem dX6_wrong_47 : decode cX6_wrong 47 = .ok (.iinc 1 1, 3) := by decide +kernel
theorem dX6_wrong_50 : decode cX6_wrong 50 = .ok (.goto (-48), 3) := by decide +kernel
theorem dX6_wrong_53 : decode cX6_wrong 53 = .ok (.iconst (-1), 1) := by decide +kernel
theorem dX6_wrong_54 : decode cX6_wrong 54 = .ok (.ireturn, 1) := by decide +kernel
theorem dX6_ofBest_0 : decode cX6_ofBest 0 = .ok (.aload_n 0, 1) := by decide +kernel
theorem dX6_ofBest_1 : decode cX6_ofBest 1 = .ok (.invokevirtual 105, 3) := by decide +kernel
theorem dX6_ofBest_4 : decode cX6_ofBest 4 = .ok (.iload_n 1, 1) := by decide +kernel
theorem dX6_ofBest_5 : decode cX6_ofBest 5 = .ok (.bipush 13, 2) := by decide +kernel
theorem dX6_ofBest_7 : decode cX6_ofBest 7 = .ok (.if_icmp .ne 10, 3) := by decide +kernel
theorem dX6_ofBest_10 : decode cX6_ofBest 10 = .ok (.aload_n 0, 1) := by decide +kernel
theorem dX6_ofBest_11 : decode cX6_ofBest 11 = .ok (.getfield 89, 3) := by decide +kernel
theorem dX6_ofBest_14 : decode cX6_ofBest 14 = .ok (.goto 7, 3) := by decide +kernel
theorem dX6_ofBest_17 : decode cX6_ofBest 17 = .ok (.aload_n 0, 1) := by decide +kernel
theorem dX6_ofBest_18 : decode cX6_ofBest 18 = .ok (.getfield 92, 3) := by decide +kernel
theorem dX6_ofBest_21 : decode cX6_ofBest 21 = .ok (.ireturn, 1) := by decide +kernel
theorem dX6_told_0 : decode cX6_told 0 = .ok (.iload_n 1, 1) := by decide +kernel
theorem dX6_told_1 : decode cX6_told 1 = .ok (.tableswitch 223 0 19 #[95, 102, 109, 116, 123, 141, 146, 151, 158, 165, 173, 178, 185, 190, 190, 196, 201, 208, 213, 218], 95) := by decide +kernel
theorem dX6_told_96 : decode cX6_told 96 = .ok (.aload_n 0, 1) := by decide +kernel
theorem dX6_told_97 : decode cX6_told 97 = .ok (.getfield 7, 3) := by decide +kernel
theorem dX6_told_100 : decode cX6_told 100 = .ok (.iconst 0, 1) := by decide +kernel
theorem dX6_told_101 : decode cX6_told 101 = .ok (.iaload, 1) := by decide +kernel
theorem dX6_told_102 : decode cX6_told 102 = .ok (.ireturn, 1) := by decide +kernel
theorem dX6_told_103 : decode cX6_told 103 = .ok (.aload_n 0, 1) := by decide +kernel
theorem dX6_told_104 : decode cX6_told 104 = .ok (.getfield 7, 3) := by decide +kernel
theorem dX6_told_107 : decode cX6_told 107 = .ok (.iconst 1, 1) := by decide +kernel
theorem dX6_told_108 : decode cX6_told 108 = .ok (.iaload, 1) := by decide +kernel
theorem dX6_told_109 : decode cX6_told 109 = .ok (.ireturn, 1) := by decide +kernel
theorem dX6_told_110 : decode cX6_told 110 = .ok (.aload_n 0, 1) := by decide +kernel
theorem dX6_told_111 : decode cX6_told 111 = .ok (.getfield 7, 3) := by decide +kernel
theorem dX6_told_114 : decode cX6_told 114 = .ok (.iconst 2, 1) := by decide +kernel
theorem dX6_told_115 : decode cX6_told 115 = .ok (.iaload, 1) := by decide +kernel
theorem dX6_told_116 : decode cX6_told 116 = .ok (.ireturn, 1) := by decide +kernel
theorem dX6_told_117 : decode cX6_told 117 = .ok (.aload_n 0, 1) := by decide +kernel
theorem dX6_told_118 : decode cX6_told 118 = .ok (.getfield 7, 3) := by decide +kernel
theorem dX6_told_121 : decode cX6_told 121 = .ok (.iconst 3, 1) := by decide +kernel
theorem dX6_told_122 : decode cX6_told 122 = .ok (.iaload, 1) := by decide +kernel
theorem dX6_told_123 : decode cX6_told 123 = .ok (.ireturn, 1) := by decide +kernel
theorem dX6_told_124 : decode cX6_told 124 = .ok (.aload_n 0, 1) := by decide +kernel
theorem dX6_told_125 : decode cX6_told 125 = .ok (.iconst 0, 1) := by decide +kernel
theorem dX6_told_126 : decode cX6_told 126 = .ok (.aload_n 0, 1) := by decide +kernel
theorem dX6_told_127 : decode cX6_told 127 = .ok (.getfield 7, 3) := by decide +kernel
theorem dX6_told_130 : decode cX6_told 130 = .ok (.iconst 2, 1) := by decide +kernel
theorem dX6_told_131 : decode cX6_told 131 = .ok (.iaload, 1) := by decide +kernel
theorem dX6_told_132 : decode cX6_told 132 = .ok (.invokevirtual 62, 3) := by decide +kernel
theorem dX6_told_135 : decode cX6_told 135 = .ok (.aload_n 0, 1) := by decide +kernel
theorem dX6_told_136 : decode cX6_told 136 = .ok (.iconst 0, 1) := by decide +kernel
theorem dX6_told_137 : decode cX6_told 137 = .ok (.invokevirtual 58, 3) := by decide +kernel
theorem dX6_told_140 : decode cX6_told 140 = .ok (.isub, 1) := by decide +kernel
theorem dX6_told_141 : decode cX6_told 141 = .ok (.ireturn, 1) := by decide +kernel
theorem dX6_told_142 : decode cX6_told 142 = .ok (.aload_n 0, 1) := by decide +kernel
theorem dX6_told_143 : decode cX6_told 143 = .ok (.invokevirtual 111, 3) := by decide +kernel
theorem dX6_told_146 : decode cX6_told 146 = .ok (.ireturn, 1) := by decide +kernel
theorem dX6_told_147 : decode cX6_told 147 = .ok (.aload_n 0, 1) := by decide +kernel
theorem dX6_told_148 : decode cX6_told 148 = .ok (.invokevirtual 114, 3) := by decide +kernel
theorem dX6_told_151 : decode cX6_told 151 = .ok (.ireturn, 1) := by decide +kernel
theorem dX6_told_152 : decode cX6_told 152 = .ok (.aload_n 0, 1) := by decide +kernel
theorem dX6_told_153 : decode cX6_told 153 = .ok (.getfield 7, 3) := by decide +kernel
theorem dX6_told_156 : decode cX6_told 156 = .ok (.iconst 4, 1) := by decide +kernel
theorem dX6_told_157 : decode cX6_told 157 = .ok (.iaload, 1) := by decide +kernel
theorem dX6_told_158 : decode cX6_told 158 = .ok (.ireturn, 1) := by decide +kernel
theorem dX6_told_159 : decode cX6_told 159 = .ok (.aload_n 0, 1) := by decide +kernel
theorem dX6_told_160 : decode cX6_told 160 = .ok (.getfield 7, 3) := by decide +kernel
theorem dX6_told_163 : decode cX6_told 163 = .ok (.iconst 5, 1) := by decide +kernel
theorem dX6_told_164 : decode cX6_told 164 = .ok (.iaload, 1) := by decide +kernel
theorem dX6_told_165 : decode cX6_told 165 = .ok (.ireturn, 1) := by decide +kernel
theorem dX6_told_166 : decode cX6_told 166 = .ok (.aload_n 0, 1) := by decide +kernel
theorem dX6_told_167 : decode cX6_told 167 = .ok (.getfield 7, 3) := by decide +kernel
theorem dX6_told_170 : decode cX6_told 170 = .ok (.bipush 6, 2) := by decide +kernel
theorem dX6_told_172 : decode cX6_told 172 = .ok (.iaload, 1) := by decide +kernel
theorem dX6_told_173 : decode cX6_told 173 = .ok (.ireturn, 1) := by decide +kernel
theorem dX6_told_174 : decode cX6_told 174 = .ok (.aload_n 0, 1) := by decide +kernel
theorem dX6_told_175 : decode cX6_told 175 = .ok (.invokevirtual 117, 3) := by decide +kernel
theorem dX6_told_178 : decode cX6_told 178 = .ok (.ireturn, 1) := by decide +kernel
theorem dX6_told_179 : decode cX6_told 179 = .ok (.aload_n 0, 1) := by decide +kernel
theorem dX6_told_180 : decode cX6_told 180 = .ok (.iconst 0, 1) := by decide +kernel
theorem dX6_told_181 : decode cX6_told 181 = .ok (.iconst 0, 1) := by decide +kernel
theorem dX6_told_182 : decode cX6_told 182 = .ok (.invokevirtual 82, 3) := by decide +kernel
theorem dX6_told_185 : decode cX6_told 185 = .ok (.ireturn, 1) := by decide +kernel
theorem dX6_told_186 : decode cX6_told 186 = .ok (.aload_n 0, 1) := by decide +kernel
theorem dX6_told_187 : decode cX6_told 187 = .ok (.invokevirtual 120, 3) := by decide +kernel
theorem dX6_told_190 : decode cX6_told 190 = .ok (.ireturn, 1) := by decide +kernel
theorem dX6_told_191 : decode cX6_told 191 = .ok (.aload_n 0, 1) := by decide +kernel
theorem dX6_told_192 : decode cX6_told 192 = .ok (.iload_n 1, 1) := by decide +kernel
theorem dX6_told_193 : decode cX6_told 193 = .ok (.invokevirtual 123, 3) := by decide +kernel
theorem dX6_told_196 : decode cX6_told 196 = .ok (.ireturn, 1) := by decide +kernel
theorem dX6_told_197 : decode cX6_told 197 = .ok (.aload_n 0, 1) := by decide +kernel
theorem dX6_told_198 : decode cX6_told 198 = .ok (.invokevirtual 126, 3) := by decide +kernel
theorem dX6_told_201 : decode cX6_told 201 = .ok (.ireturn, 1) := by decide +kernel
theorem dX6_told_202 : decode cX6_told 202 = .ok (.aload_n 0, 1) := by decide +kernel
theorem dX6_told_203 : decode cX6_told 203 = .ok (.iconst 0, 1) := by decide +kernel
theorem dX6_told_204 : decode cX6_told 204 = .ok (.iconst 1, 1) := by decide +kernel
theorem dX6_told_205 : decode cX6_told 205 = .ok (.invokevirtual 82, 3) := by decide +kernel
theorem dX6_told_208 : decode cX6_told 208 = .ok (.ireturn, 1) := by decide +kernel
theorem dX6_told_209 : decode cX6_told 209 = .ok (.aload_n 0, 1) := by decide +kernel
theorem dX6_told_210 : decode cX6_told 210 = .ok (.getfield 108, 3) := by decide +kernel
theorem dX6_told_213 : decode cX6_told 213 = .ok (.ireturn, 1) := by decide +kernel
theorem dX6_told_214 : decode cX6_told 214 = .ok (.aload_n 0, 1) := by decide +kernel
theorem dX6_told_215 : decode cX6_told 215 = .ok (.invokevirtual 129, 3) := by decide +kernel
theorem dX6_told_218 : decode cX6_told 218 = .ok (.ireturn, 1) := by decide +kernel
theorem dX6_told_219 : decode cX6_told 219 = .ok (.aload_n 0, 1) := by decide +kernel
theorem dX6_told_220 : decode cX6_told 220 = .ok (.getfield 39, 3) := by decide +kernel
theorem dX6_told_223 : decode cX6_told 223 = .ok (.ireturn, 1) := by decide +kernel
theorem dX6_told_224 : decode cX6_told 224 = .ok (.ldc 132, 2) := by decide +kernel
theorem dX6_told_226 : decode cX6_told 226 = .ok (.ireturn, 1) := by decide +kernel
theorem dX6_harmBehind_0 : decode cX6_harmBehind 0 = .ok (.aload_n 0, 1) := by decide +kernel
theorem dX6_harmBehind_1 : decode cX6_harmBehind 1 = .ok (.iconst 0, 1) := by decide +kernel
theorem dX6_harmBehind_2 : decode cX6_harmBehind 2 = .ok (.bipush 52, 2) := by decide +kernel
theorem dX6_harmBehind_4 : decode cX6_harmBehind 4 = .ok (.invokevirtual 43, 3) := by decide +kernel
theorem dX6_harmBehind_7 : decode cX6_harmBehind 7 = .ok (.aload_n 0, 1) := by decide +kernel
theorem dX6_harmBehind_8 : decode cX6_harmBehind 8 = .ok (.bipush 52, 2) := by decide +kernel
theorem dX6_harmBehind_10 : decode cX6_harmBehind 10 = .ok (.iload_n 1, 1) := by decide +kernel
theorem dX6_harmBehind_11 : decode cX6_harmBehind 11 = .ok (.invokevirtual 99, 3) := by decide +kernel
theorem dX6_harmBehind_14 : decode cX6_harmBehind 14 = .ok (.ifCond .eq 13, 3) := by decide +kernel
theorem dX6_harmBehind_17 : decode cX6_harmBehind 17 = .ok (.aload_n 0, 1) := by decide +kernel
theorem dX6_harmBehind_18 : decode cX6_harmBehind 18 = .ok (.bipush 52, 2) := by decide +kernel
theorem dX6_harmBehind_20 : decode cX6_harmBehind 20 = .ok (.iconst 0, 1) := by decide +kernel
theorem dX6_harmBehind_21 : decode cX6_harmBehind 21 = .ok (.invokevirtual 82, 3) := by decide +kernel
theorem dX6_harmBehind_24 : decode cX6_harmBehind 24 = .ok (.goto 4, 3) := by decide +kernel
theorem dX6_harmBehind_27 : decode cX6_harmBehind 27 = .ok (.iconst (-1), 1) := by decide +kernel
theorem dX6_harmBehind_28 : decode cX6_harmBehind 28 = .ok (.ireturn, 1) := by decide +kernel
theorem dX6_cell_0 : decode cX6_cell 0 = .ok (.aload_n 0, 1) := by decide +kernel
theorem dX6_cell_1 : decode cX6_cell 1 = .ok (.iload_n 1, 1) := by decide +kernel
theorem dX6_cell_2 : decode cX6_cell 2 = .ok (.invokevirtual 133, 3) := by decide +kernel
theorem dX6_cell_5 : decode cX6_cell 5 = .ok (.ifCond .ne 6, 3) := by decide +kernel
theorem dX6_cell_8 : decode cX6_cell 8 = .ok (.ldc 137, 2) := by decide +kernel
theorem dX6_cell_10 : decode cX6_cell 10 = .ok (.ireturn, 1) := by decide +kernel
theorem dX6_cell_11 : decode cX6_cell 11 = .ok (.iload_n 2, 1) := by decide +kernel
theorem dX6_cell_12 : decode cX6_cell 12 = .ok (.tableswitch 79 0 4 #[36, 46, 56, 66, 73], 36) := by decide +kernel
theorem dX6_cell_48 : decode cX6_cell 48 = .ok (.aload_n 0, 1) := by decide +kernel
theorem dX6_cell_49 : decode cX6_cell 49 = .ok (.getfield 7, 3) := by decide +kernel
theorem dX6_cell_52 : decode cX6_cell 52 = .ok (.bipush 25, 2) := by decide +kernel
theorem dX6_cell_54 : decode cX6_cell 54 = .ok (.iload_n 1, 1) := by decide +kernel
theorem dX6_cell_55 : decode cX6_cell 55 = .ok (.iadd, 1) := by decide +kernel
theorem dX6_cell_56 : decode cX6_cell 56 = .ok (.iaload, 1) := by decide +kernel
theorem dX6_cell_57 : decode cX6_cell 57 = .ok (.ireturn, 1) := by decide +kernel
theorem dX6_cell_58 : decode cX6_cell 58 = .ok (.aload_n 0, 1) := by decide +kernel
theorem dX6_cell_59 : decode cX6_cell 59 = .ok (.getfield 7, 3) := by decide +kernel
theorem dX6_cell_62 : decode cX6_cell 62 = .ok (.bipush 34, 2) := by decide +kernel
theorem dX6_cell_64 : decode cX6_cell 64 = .ok (.iload_n 1, 1) := by decide +kernel
theorem dX6_cell_65 : decode cX6_cell 65 = .ok (.iadd, 1) := by decide +kernel
theorem dX6_cell_66 : decode cX6_cell 66 = .ok (.iaload, 1) := by decide +kernel
theorem dX6_cell_67 : decode cX6_cell 67 = .ok (.ireturn, 1) := by decide +kernel
theorem dX6_cell_68 : decode cX6_cell 68 = .ok (.aload_n 0, 1) := by decide +kernel
theorem dX6_cell_69 : decode cX6_cell 69 = .ok (.getfield 7, 3) := by decide +kernel
theorem dX6_cell_72 : decode cX6_cell 72 = .ok (.bipush 43, 2) := by decide +kernel
theorem dX6_cell_74 : decode cX6_cell 74 = .ok (.iload_n 1, 1) := by decide +kernel
theorem dX6_cell_75 : decode cX6_cell 75 = .ok (.iadd, 1) := by decide +kernel
theorem dX6_cell_76 : decode cX6_cell 76 = .ok (.iaload, 1) := by decide +kernel
theorem dX6_cell_77 : decode cX6_cell 77 = .ok (.ireturn, 1) := by decide +kernel
theorem dX6_cell_78 : decode cX6_cell 78 = .ok (.aload_n 0, 1) := by decide +kernel
theorem dX6_cell_79 : decode cX6_cell 79 = .ok (.iconst 0, 1) := by decide +kernel
theorem dX6_cell_80 : decode cX6_cell 80 = .ok (.iload_n 1, 1) := by decide +kernel
theorem dX6_cell_81 : decode cX6_cell 81 = .ok (.invokevirtual 67, 3) := by decide +kernel
theorem dX6_cell_84 : decode cX6_cell 84 = .ok (.ireturn, 1) := by decide +kernel
theorem dX6_cell_85 : decode cX6_cell 85 = .ok (.aload_n 0, 1) := by decide +kernel
theorem dX6_cell_86 : decode cX6_cell 86 = .ok (.iload_n 1, 1) := by decide +kernel
theorem dX6_cell_87 : decode cX6_cell 87 = .ok (.invokevirtual 138, 3) := by decide +kernel
theorem dX6_cell_90 : decode cX6_cell 90 = .ok (.ireturn, 1) := by decide +kernel
theorem dX6_cell_91 : decode cX6_cell 91 = .ok (.ldc 132, 2) := by decide +kernel
theorem dX6_cell_93 : decode cX6_cell 93 = .ok (.ireturn, 1) := by decide +kernel
theorem dX6_edge_0 : decode cX6_edge 0 = .ok (.aload_n 0, 1) := by decide +kernel
theorem dX6_edge_1 : decode cX6_edge 1 = .ok (.iconst 0, 1) := by decide +kernel
theorem dX6_edge_2 : decode cX6_edge 2 = .ok (.iload_n 1, 1) := by decide +kernel
theorem dX6_edge_3 : decode cX6_edge 3 = .ok (.invokevirtual 70, 3) := by decide +kernel
theorem dX6_edge_6 : decode cX6_edge 6 = .ok (.iconst (-1), 1) := by decide +kernel
theorem dX6_edge_7 : decode cX6_edge 7 = .ok (.if_icmp .ne 6, 3) := by decide +kernel
theorem dX6_edge_10 : decode cX6_edge 10 = .ok (.ldc 137, 2) := by decide +kernel
theorem dX6_edge_12 : decode cX6_edge 12 = .ok (.ireturn, 1) := by decide +kernel
theorem dX6_edge_13 : decode cX6_edge 13 = .ok (.iload_n 2, 1) := by decide +kernel
theorem dX6_edge_14 : decode cX6_edge 14 = .ok (.tableswitch 62 0 2 #[26, 41, 56], 26) := by decide +kernel
theorem dX6_edge_40 : decode cX6_edge 40 = .ok (.aload_n 0, 1) := by decide +kernel
theorem dX6_edge_41 : decode cX6_edge 41 = .ok (.iconst 0, 1) := by decide +kernel
theorem dX6_edge_42 : decode cX6_edge 42 = .ok (.iload_n 1, 1) := by decide +kernel
theorem dX6_edge_43 : decode cX6_edge 43 = .ok (.invokevirtual 76, 3) := by decide +kernel
theorem dX6_edge_46 : decode cX6_edge 46 = .ok (.ifCond .eq 7, 3) := by decide +kernel
theorem dX6_edge_49 : decode cX6_edge 49 = .ok (.iconst 1, 1) := by decide +kernel
theorem dX6_edge_50 : decode cX6_edge 50 = .ok (.goto 4, 3) := by decide +kernel
theorem dX6_edge_53 : decode cX6_edge 53 = .ok (.iconst 0, 1) := by decide +kernel
theorem dX6_edge_54 : decode cX6_edge 54 = .ok (.ireturn, 1) := by decide +kernel
theorem dX6_edge_55 : decode cX6_edge 55 = .ok (.aload_n 0, 1) := by decide +kernel
theorem dX6_edge_56 : decode cX6_edge 56 = .ok (.iconst 0, 1) := by decide +kernel
theorem dX6_edge_57 : decode cX6_edge 57 = .ok (.iload_n 1, 1) := by decide +kernel
theorem dX6_edge_58 : decode cX6_edge 58 = .ok (.invokevirtual 73, 3) := by decide +kernel
theorem dX6_edge_61 : decode cX6_edge 61 = .ok (.ifCond .eq 7, 3) := by decide +kernel
theorem dX6_edge_64 : decode cX6_edge 64 = .ok (.iconst 1, 1) := by decide +kernel
theorem dX6_edge_65 : decode cX6_edge 65 = .ok (.goto 4, 3) := by decide +kernel
theorem dX6_edge_68 : decode cX6_edge 68 = .ok (.iconst 0, 1) := by decide +kernel
theorem dX6_edge_69 : decode cX6_edge 69 = .ok (.ireturn, 1) := by decide +kernel
theorem dX6_edge_70 : decode cX6_edge 70 = .ok (.aload_n 0, 1) := by decide +kernel
theorem dX6_edge_71 : decode cX6_edge 71 = .ok (.iload_n 1, 1) := by decide +kernel
theorem dX6_edge_72 : decode cX6_edge 72 = .ok (.invokevirtual 79, 3) := by decide +kernel
theorem dX6_edge_75 : decode cX6_edge 75 = .ok (.ireturn, 1) := by decide +kernel
theorem dX6_edge_76 : decode cX6_edge 76 = .ok (.ldc 132, 2) := by decide +kernel
theorem dX6_edge_78 : decode cX6_edge 78 = .ok (.ireturn, 1) := by decide +kernel
theorem dX6_truckAt_0 : decode cX6_truckAt 0 = .ok (.aload_n 0, 1) := by decide +kernel
theorem dX6_truckAt_1 : decode cX6_truckAt 1 = .ok (.iload_n 1, 1) := by decide +kernel
theorem dX6_truckAt_2 : decode cX6_truckAt 2 = .ok (.invokevirtual 141, 3) := by decide +kernel
theorem dX6_truckAt_5 : decode cX6_truckAt 5 = .ok (.ifCond .ne 6, 3) := by decide +kernel
theorem dX6_truckAt_8 : decode cX6_truckAt 8 = .ok (.ldc 137, 2) := by decide +kernel
theorem dX6_truckAt_10 : decode cX6_truckAt 10 = .ok (.ireturn, 1) := by decide +kernel
theorem dX6_truckAt_11 : decode cX6_truckAt 11 = .ok (.iload_n 2, 1) := by decide +kernel
theorem dX6_truckAt_12 : decode cX6_truckAt 12 = .ok (.tableswitch 54 0 2 #[28, 38, 48], 28) := by decide +kernel
theorem dX6_truckAt_40 : decode cX6_truckAt 40 = .ok (.aload_n 0, 1) := by decide +kernel
theorem dX6_truckAt_41 : decode cX6_truckAt 41 = .ok (.getfield 7, 3) := by decide +kernel
theorem dX6_truckAt_44 : decode cX6_truckAt 44 = .ok (.bipush 7, 2) := by decide +kernel
theorem dX6_truckAt_46 : decode cX6_truckAt 46 = .ok (.iload_n 1, 1) := by decide +kernel
theorem dX6_truckAt_47 : decode cX6_truckAt 47 = .ok (.iadd, 1) := by decide +kernel
theorem dX6_truckAt_48 : decode cX6_truckAt 48 = .ok (.iaload, 1) := by decide +kernel
theorem dX6_truckAt_49 : decode cX6_truckAt 49 = .ok (.ireturn, 1) := by decide +kernel
theorem dX6_truckAt_50 : decode cX6_truckAt 50 = .ok (.aload_n 0, 1) := by decide +kernel
theorem dX6_truckAt_51 : decode cX6_truckAt 51 = .ok (.getfield 7, 3) := by decide +kernel
theorem dX6_truckAt_54 : decode cX6_truckAt 54 = .ok (.bipush 16, 2) := by decide +kernel
theorem dX6_truckAt_56 : decode cX6_truckAt 56 = .ok (.iload_n 1, 1) := by decide +kernel
theorem dX6_truckAt_57 : decode cX6_truckAt 57 = .ok (.iadd, 1) := by decide +kernel
theorem dX6_truckAt_58 : decode cX6_truckAt 58 = .ok (.iaload, 1) := by decide +kernel
theorem dX6_truckAt_59 : decode cX6_truckAt 59 = .ok (.ireturn, 1) := by decide +kernel
theorem dX6_truckAt_60 : decode cX6_truckAt 60 = .ok (.aload_n 0, 1) := by decide +kernel
theorem dX6_truckAt_61 : decode cX6_truckAt 61 = .ok (.iload_n 1, 1) := by decide +kernel
theorem dX6_truckAt_62 : decode cX6_truckAt 62 = .ok (.invokevirtual 144, 3) := by decide +kernel
theorem dX6_truckAt_65 : decode cX6_truckAt 65 = .ok (.ireturn, 1) := by decide +kernel
theorem dX6_truckAt_66 : decode cX6_truckAt 66 = .ok (.ldc 132, 2) := by decide +kernel
theorem dX6_truckAt_68 : decode cX6_truckAt 68 = .ok (.ireturn, 1) := by decide +kernel
theorem dX6_build_0 : decode cX6_build 0 = .ok (.iload_n 1, 1) := by decide +kernel
theorem dX6_build_1 : decode cX6_build 1 = .ok (.i2l, 1) := by decide +kernel
theorem dX6_build_2 : decode cX6_build 2 = .ok (.lconst 1, 1) := by decide +kernel
theorem dX6_build_3 : decode cX6_build 3 = .ok (.ldc2_w 147, 3) := by decide +kernel
theorem dX6_build_6 : decode cX6_build 6 = .ok (.invokestatic 50, 3) := by decide +kernel
theorem dX6_build_9 : decode cX6_build 9 = .ok (.ifCond .eq 15, 3) := by decide +kernel
theorem dX6_build_12 : decode cX6_build 12 = .ok (.iload_n 2, 1) := by decide +kernel
theorem dX6_build_13 : decode cX6_build 13 = .ok (.i2l, 1) := by decide +kernel
theorem dX6_build_14 : decode cX6_build 14 = .ok (.lconst 1, 1) := by decide +kernel
theorem dX6_build_15 : decode cX6_build 15 = .ok (.ldc2_w 147, 3) := by decide +kernel
theorem dX6_build_18 : decode cX6_build 18 = .ok (.invokestatic 50, 3) := by decide +kernel
theorem dX6_build_21 : decode cX6_build 21 = .ok (.ifCond .ne 6, 3) := by decide +kernel
theorem dX6_build_24 : decode cX6_build 24 = .ok (.ldc 132, 2) := by decide +kernel
theorem dX6_build_26 : decode cX6_build 26 = .ok (.ireturn, 1) := by decide +kernel
theorem dX6_build_27 : decode cX6_build 27 = .ok (.aload_n 0, 1) := by decide +kernel
theorem dX6_build_28 : decode cX6_build 28 = .ok (.invokevirtual 111, 3) := by decide +kernel
theorem dX6_build_31 : decode cX6_build 31 = .ok (.invokestatic 149, 3) := by decide +kernel
theorem dX6_build_34 : decode cX6_build 34 = .ok (.istore_n 3, 1) := by decide +kernel
theorem dX6_build_35 : decode cX6_build 35 = .ok (.aload_n 0, 1) := by decide +kernel
theorem dX6_build_36 : decode cX6_build 36 = .ok (.invokevirtual 152, 3) := by decide +kernel
theorem dX6_build_39 : decode cX6_build 39 = .ok (.aload_n 0, 1) := by decide +kernel
theorem dX6_build_40 : decode cX6_build 40 = .ok (.iload_n 1, 1) := by decide +kernel
theorem dX6_build_41 : decode cX6_build 41 = .ok (.iload_n 2, 1) := by decide +kernel
theorem dX6_build_42 : decode cX6_build 42 = .ok (.invokevirtual 35, 3) := by decide +kernel
theorem dX6_build_45 : decode cX6_build 45 = .ok (.iload_n 3, 1) := by decide +kernel
theorem dX6_build_46 : decode cX6_build 46 = .ok (.ireturn, 1) := by decide +kernel
theorem dX6_comes_0 : decode cX6_comes 0 = .ok (.aload_n 0, 1) := by decide +kernel
theorem dX6_comes_1 : decode cX6_comes 1 = .ok (.getfield 7, 3) := by decide +kernel
theorem dX6_comes_4 : decode cX6_comes 4 = .ok (.bipush 7, 2) := by decide +kernel
theorem dX6_comes_6 : decode cX6_comes 6 = .ok (.aload_n 0, 1) := by decide +kernel
theorem dX6_comes_7 : decode cX6_comes 7 = .ok (.getfield 7, 3) := by decide +kernel
theorem dX6_comes_10 : decode cX6_comes 10 = .ok (.iconst 3, 1) := by decide +kernel
theorem dX6_comes_11 : decode cX6_comes 11 = .ok (.iaload, 1) := by decide +kernel
theorem dX6_comes_12 : decode cX6_comes 12 = .ok (.iadd, 1) := by decide +kernel
theorem dX6_comes_13 : decode cX6_comes 13 = .ok (.iload_n 1, 1) := by decide +kernel
theorem dX6_comes_14 : decode cX6_comes 14 = .ok (.iastore, 1) := by decide +kernel
theorem dX6_comes_15 : decode cX6_comes 15 = .ok (.aload_n 0, 1) := by decide +kernel
theorem dX6_comes_16 : decode cX6_comes 16 = .ok (.getfield 7, 3) := by decide +kernel
theorem dX6_comes_19 : decode cX6_comes 19 = .ok (.bipush 16, 2) := by decide +kernel
theorem dX6_comes_21 : decode cX6_comes 21 = .ok (.aload_n 0, 1) := by decide +kernel
theorem dX6_comes_22 : decode cX6_comes 22 = .ok (.getfield 7, 3) := by decide +kernel
theorem dX6_comes_25 : decode cX6_comes 25 = .ok (.iconst 3, 1) := by decide +kernel
theorem dX6_comes_26 : decode cX6_comes 26 = .ok (.iaload, 1) := by decide +kernel
theorem dX6_comes_27 : decode cX6_comes 27 = .ok (.iadd, 1) := by decide +kernel
theorem dX6_comes_28 : decode cX6_comes 28 = .ok (.iload_n 2, 1) := by decide +kernel
theorem dX6_comes_29 : decode cX6_comes 29 = .ok (.iastore, 1) := by decide +kernel
theorem dX6_comes_30 : decode cX6_comes 30 = .ok (.aload_n 0, 1) := by decide +kernel
theorem dX6_comes_31 : decode cX6_comes 31 = .ok (.getfield 7, 3) := by decide +kernel
theorem dX6_comes_34 : decode cX6_comes 34 = .ok (.iconst 3, 1) := by decide +kernel
theorem dX6_comes_35 : decode cX6_comes 35 = .ok (.dup2, 1) := by decide +kernel
theorem dX6_comes_36 : decode cX6_comes 36 = .ok (.iaload, 1) := by decide +kernel
theorem dX6_comes_37 : decode cX6_comes 37 = .ok (.iconst 1, 1) := by decide +kernel
theorem dX6_comes_38 : decode cX6_comes 38 = .ok (.iadd, 1) := by decide +kernel
theorem dX6_comes_39 : decode cX6_comes 39 = .ok (.iastore, 1) := by decide +kernel
theorem dX6_comes_40 : decode cX6_comes 40 = .ok (.return_, 1) := by decide +kernel
theorem dX6_truck_0 : decode cX6_truck 0 = .ok (.iload_n 1, 1) := by decide +kernel
theorem dX6_truck_1 : decode cX6_truck 1 = .ok (.i2l, 1) := by decide +kernel
theorem dX6_truck_2 : decode cX6_truck 2 = .ok (.lconst 0, 1) := by decide +kernel
theorem dX6_truck_3 : decode cX6_truck 3 = .ok (.ldc2_w 155, 3) := by decide +kernel
theorem dX6_truck_6 : decode cX6_truck 6 = .ok (.invokestatic 50, 3) := by decide +kernel
theorem dX6_truck_9 : decode cX6_truck 9 = .ok (.ifCond .eq 15, 3) := by decide +kernel
theorem dX6_truck_12 : decode cX6_truck 12 = .ok (.iload_n 2, 1) := by decide +kernel
theorem dX6_truck_13 : decode cX6_truck 13 = .ok (.i2l, 1) := by decide +kernel
theorem dX6_truck_14 : decode cX6_truck 14 = .ok (.lconst 1, 1) := by decide +kernel
theorem dX6_truck_15 : decode cX6_truck 15 = .ok (.ldc2_w 157, 3) := by decide +kernel
theorem dX6_truck_18 : decode cX6_truck 18 = .ok (.invokestatic 50, 3) := by decide +kernel
theorem dX6_truck_21 : decode cX6_truck 21 = .ok (.ifCond .ne 6, 3) := by decide +kernel
theorem dX6_truck_24 : decode cX6_truck 24 = .ok (.ldc 132, 2) := by decide +kernel
theorem dX6_truck_26 : decode cX6_truck 26 = .ok (.ireturn, 1) := by decide +kernel
theorem dX6_truck_27 : decode cX6_truck 27 = .ok (.aload_n 0, 1) := by decide +kernel
theorem dX6_truck_28 : decode cX6_truck 28 = .ok (.getfield 7, 3) := by decide +kernel
theorem dX6_truck_31 : decode cX6_truck 31 = .ok (.iconst 3, 1) := by decide +kernel
theorem dX6_truck_32 : decode cX6_truck 32 = .ok (.iaload, 1) := by decide +kernel
theorem dX6_truck_33 : decode cX6_truck 33 = .ok (.bipush 9, 2) := by decide +kernel
theorem dX6_truck_35 : decode cX6_truck 35 = .ok (.if_icmp .ne 6, 3) := by decide +kernel
theorem dX6_truck_38 : decode cX6_truck 38 = .ok (.ldc 159, 2) := by decide +kernel
theorem dX6_truck_40 : decode cX6_truck 40 = .ok (.ireturn, 1) := by decide +kernel
theorem dX6_truck_41 : decode cX6_truck 41 = .ok (.aload_n 0, 1) := by decide +kernel
theorem dX6_truck_42 : decode cX6_truck 42 = .ok (.invokevirtual 152, 3) := by decide +kernel
theorem dX6_truck_45 : decode cX6_truck 45 = .ok (.aload_n 0, 1) := by decide +kernel
theorem dX6_truck_46 : decode cX6_truck 46 = .ok (.iload_n 1, 1) := by decide +kernel
theorem dX6_truck_47 : decode cX6_truck 47 = .ok (.iload_n 2, 1) := by decide +kernel
theorem dX6_truck_48 : decode cX6_truck 48 = .ok (.invokevirtual 160, 3) := by decide +kernel
theorem dX6_truck_51 : decode cX6_truck 51 = .ok (.aload_n 0, 1) := by decide +kernel
theorem dX6_truck_52 : decode cX6_truck 52 = .ok (.getfield 7, 3) := by decide +kernel
theorem dX6_truck_55 : decode cX6_truck 55 = .ok (.iconst 3, 1) := by decide +kernel
theorem dX6_truck_56 : decode cX6_truck 56 = .ok (.iaload, 1) := by decide +kernel
theorem dX6_truck_57 : decode cX6_truck 57 = .ok (.iconst 1, 1) := by decide +kernel
theorem dX6_truck_58 : decode cX6_truck 58 = .ok (.isub, 1) := by decide +kernel
theorem dX6_truck_59 : decode cX6_truck 59 = .ok (.ireturn, 1) := by decide +kernel
theorem dX6_late_0 : decode cX6_late 0 = .ok (.aload_n 0, 1) := by decide +kernel
theorem dX6_late_1 : decode cX6_late 1 = .ok (.iload_n 1, 1) := by decide +kernel
theorem dX6_late_2 : decode cX6_late 2 = .ok (.invokevirtual 141, 3) := by decide +kernel
theorem dX6_late_5 : decode cX6_late 5 = .ok (.ifCond .ne 6, 3) := by decide +kernel
theorem dX6_late_8 : decode cX6_late 8 = .ok (.ldc 137, 2) := by decide +kernel
theorem dX6_late_10 : decode cX6_late 10 = .ok (.ireturn, 1) := by decide +kernel
theorem dX6_late_11 : decode cX6_late 11 = .ok (.iload_n 2, 1) := by decide +kernel
theorem dX6_late_12 : decode cX6_late 12 = .ok (.i2l, 1) := by decide +kernel
theorem dX6_late_13 : decode cX6_late 13 = .ok (.ldc2_w 163, 3) := by decide +kernel
theorem dX6_late_16 : decode cX6_late 16 = .ok (.ldc2_w 155, 3) := by decide +kernel
theorem dX6_late_19 : decode cX6_late 19 = .ok (.invokestatic 50, 3) := by decide +kernel
theorem dX6_late_22 : decode cX6_late 22 = .ok (.ifCond .eq 25, 3) := by decide +kernel
theorem dX6_late_25 : decode cX6_late 25 = .ok (.aload_n 0, 1) := by decide +kernel
theorem dX6_late_26 : decode cX6_late 26 = .ok (.getfield 7, 3) := by decide +kernel
theorem dX6_late_29 : decode cX6_late 29 = .ok (.bipush 7, 2) := by decide +kernel
theorem dX6_late_31 : decode cX6_late 31 = .ok (.iload_n 1, 1) := by decide +kernel
theorem dX6_late_32 : decode cX6_late 32 = .ok (.iadd, 1) := by decide +kernel
theorem dX6_late_33 : decode cX6_late 33 = .ok (.iaload, 1) := by decide +kernel
theorem dX6_late_34 : decode cX6_late 34 = .ok (.iload_n 2, 1) := by decide +kernel
theorem dX6_late_35 : decode cX6_late 35 = .ok (.iadd, 1) := by decide +kernel
theorem dX6_late_36 : decode cX6_late 36 = .ok (.i2l, 1) := by decide +kernel
theorem dX6_late_37 : decode cX6_late 37 = .ok (.lconst 0, 1) := by decide +kernel
theorem dX6_late_38 : decode cX6_late 38 = .ok (.ldc2_w 155, 3) := by decide +kernel
theorem dX6_late_41 : decode cX6_late 41 = .ok (.invokestatic 50, 3) := by decide +kernel
theorem dX6_late_44 : decode cX6_late 44 = .ok (.ifCond .ne 6, 3) := by decide +kernel
theorem dX6_late_47 : decode cX6_late 47 = .ok (.ldc 132, 2) := by decide +kernel
theorem dX6_late_49 : decode cX6_late 49 = .ok (.ireturn, 1) := by decide +kernel
theorem dX6_late_50 : decode cX6_late 50 = .ok (.aload_n 0, 1) := by decide +kernel
theorem dX6_late_51 : decode cX6_late 51 = .ok (.iconst 0, 1) := by decide +kernel
theorem dX6_late_52 : decode cX6_late 52 = .ok (.bipush 104, 2) := by decide +kernel
theorem dX6_late_54 : decode cX6_late 54 = .ok (.invokevirtual 43, 3) := by decide +kernel
theorem dX6_late_57 : decode cX6_late 57 = .ok (.aload_n 0, 1) := by decide +kernel
theorem dX6_late_58 : decode cX6_late 58 = .ok (.getfield 7, 3) := by decide +kernel
theorem dX6_late_61 : decode cX6_late 61 = .ok (.bipush 111, 2) := by decide +kernel
theorem dX6_late_63 : decode cX6_late 63 = .ok (.iload_n 1, 1) := by decide +kernel
theorem dX6_late_64 : decode cX6_late 64 = .ok (.iadd, 1) := by decide +kernel
theorem dX6_late_65 : decode cX6_late 65 = .ok (.dup2, 1) := by decide +kernel
theorem dX6_late_66 : decode cX6_late 66 = .ok (.iaload, 1) := by decide +kernel
theorem dX6_late_67 : decode cX6_late 67 = .ok (.iload_n 2, 1) := by decide +kernel
theorem dX6_late_68 : decode cX6_late 68 = .ok (.iadd, 1) := by decide +kernel
theorem dX6_late_69 : decode cX6_late 69 = .ok (.iastore, 1) := by decide +kernel
theorem dX6_late_70 : decode cX6_late 70 = .ok (.aload_n 0, 1) := by decide +kernel
theorem dX6_late_71 : decode cX6_late 71 = .ok (.bipush 104, 2) := by decide +kernel
theorem dX6_late_73 : decode cX6_late 73 = .ok (.aload_n 0, 1) := by decide +kernel
theorem dX6_late_74 : decode cX6_late 74 = .ok (.getfield 7, 3) := by decide +kernel
theorem dX6_late_77 : decode cX6_late 77 = .ok (.iconst 2, 1) := by decide +kernel
theorem dX6_late_78 : decode cX6_late 78 = .ok (.iaload, 1) := by decide +kernel
theorem dX6_late_79 : decode cX6_late 79 = .ok (.invokevirtual 62, 3) := by decide +kernel
theorem dX6_late_82 : decode cX6_late 82 = .ok (.aload_n 0, 1) := by decide +kernel
theorem dX6_late_83 : decode cX6_late 83 = .ok (.iconst 0, 1) := by decide +kernel
theorem dX6_late_84 : decode cX6_late 84 = .ok (.invokevirtual 58, 3) := by decide +kernel
theorem dX6_late_87 : decode cX6_late 87 = .ok (.if_icmp .ge 6, 3) := by decide +kernel
theorem dX6_late_90 : decode cX6_late 90 = .ok (.ldc 165, 2) := by decide +kernel
theorem dX6_late_92 : decode cX6_late 92 = .ok (.ireturn, 1) := by decide +kernel
theorem dX6_late_93 : decode cX6_late 93 = .ok (.aload_n 0, 1) := by decide +kernel
theorem dX6_late_94 : decode cX6_late 94 = .ok (.invokevirtual 152, 3) := by decide +kernel
theorem dX6_late_97 : decode cX6_late 97 = .ok (.aload_n 0, 1) := by decide +kernel
theorem dX6_late_98 : decode cX6_late 98 = .ok (.getfield 7, 3) := by decide +kernel
theorem dX6_late_101 : decode cX6_late 101 = .ok (.bipush 7, 2) := by decide +kernel
theorem dX6_late_103 : decode cX6_late 103 = .ok (.iload_n 1, 1) := by decide +kernel
theorem dX6_late_104 : decode cX6_late 104 = .ok (.iadd, 1) := by decide +kernel
theorem dX6_late_105 : decode cX6_late 105 = .ok (.dup2, 1) := by decide +kernel
theorem dX6_late_106 : decode cX6_late 106 = .ok (.iaload, 1) := by decide +kernel
theorem dX6_late_107 : decode cX6_late 107 = .ok (.iload_n 2, 1) := by decide +kernel
theorem dX6_late_108 : decode cX6_late 108 = .ok (.iadd, 1) := by decide +kernel
theorem dX6_late_109 : decode cX6_late 109 = .ok (.iastore, 1) := by decide +kernel
theorem dX6_late_110 : decode cX6_late 110 = .ok (.aload_n 0, 1) := by decide +kernel
theorem dX6_late_111 : decode cX6_late 111 = .ok (.getfield 7, 3) := by decide +kernel
theorem dX6_late_114 : decode cX6_late 114 = .ok (.bipush 7, 2) := by decide +kernel
theorem dX6_late_116 : decode cX6_late 116 = .ok (.iload_n 1, 1) := by decide +kernel
theorem dX6_late_117 : decode cX6_late 117 = .ok (.iadd, 1) := by decide +kernel
theorem dX6_late_118 : decode cX6_late 118 = .ok (.iaload, 1) := by decide +kernel
theorem dX6_late_119 : decode cX6_late 119 = .ok (.ireturn, 1) := by decide +kernel
theorem dX6_away_0 : decode cX6_away 0 = .ok (.aload_n 0, 1) := by decide +kernel
theorem dX6_away_1 : decode cX6_away 1 = .ok (.iload_n 1, 1) := by decide +kernel
theorem dX6_away_2 : decode cX6_away 2 = .ok (.invokevirtual 141, 3) := by decide +kernel
theorem dX6_away_5 : decode cX6_away 5 = .ok (.ifCond .ne 6, 3) := by decide +kernel
theorem dX6_away_8 : decode cX6_away 8 = .ok (.ldc 137, 2) := by decide +kernel
theorem dX6_away_10 : decode cX6_away 10 = .ok (.ireturn, 1) := by decide +kernel
theorem dX6_away_11 : decode cX6_away 11 = .ok (.aload_n 0, 1) := by decide +kernel
theorem dX6_away_12 : decode cX6_away 12 = .ok (.getfield 7, 3) := by decide +kernel
theorem dX6_away_15 : decode cX6_away 15 = .ok (.bipush 7, 2) := by decide +kernel
theorem dX6_away_17 : decode cX6_away 17 = .ok (.iload_n 1, 1) := by decide +kernel
theorem dX6_away_18 : decode cX6_away 18 = .ok (.iadd, 1) := by decide +kernel
theorem dX6_away_19 : decode cX6_away 19 = .ok (.iaload, 1) := by decide +kernel
theorem dX6_away_20 : decode cX6_away 20 = .ok (.aload_n 0, 1) := by decide +kernel
theorem dX6_away_21 : decode cX6_away 21 = .ok (.getfield 7, 3) := by decide +kernel
theorem dX6_away_24 : decode cX6_away 24 = .ok (.iconst 2, 1) := by decide +kernel
theorem dX6_away_25 : decode cX6_away 25 = .ok (.iaload, 1) := by decide +kernel
theorem dX6_away_26 : decode cX6_away 26 = .ok (.if_icmp .gt 15, 3) := by decide +kernel
theorem dX6_away_29 : decode cX6_away 29 = .ok (.aload_n 0, 1) := by decide +kernel
theorem dX6_away_30 : decode cX6_away 30 = .ok (.getfield 7, 3) := by decide +kernel
theorem dX6_away_33 : decode cX6_away 33 = .ok (.bipush 16, 2) := by decide +kernel
theorem dX6_away_35 : decode cX6_away 35 = .ok (.iload_n 1, 1) := by decide +kernel
theorem dX6_away_36 : decode cX6_away 36 = .ok (.iadd, 1) := by decide +kernel
theorem dX6_away_37 : decode cX6_away 37 = .ok (.iaload, 1) := by decide +kernel
theorem dX6_away_38 : decode cX6_away 38 = .ok (.goto 4, 3) := by decide +kernel
theorem dX6_away_41 : decode cX6_away 41 = .ok (.iconst 0, 1) := by decide +kernel
theorem dX6_away_42 : decode cX6_away 42 = .ok (.istore_n 2, 1) := by decide +kernel
theorem dX6_away_43 : decode cX6_away 43 = .ok (.aload_n 0, 1) := by decide +kernel
theorem dX6_away_44 : decode cX6_away 44 = .ok (.iconst 0, 1) := by decide +kernel
theorem dX6_away_45 : decode cX6_away 45 = .ok (.aload_n 0, 1) := by decide +kernel
theorem dX6_away_46 : decode cX6_away 46 = .ok (.getfield 7, 3) := by decide +kernel
theorem dX6_away_49 : decode cX6_away 49 = .ok (.iconst 2, 1) := by decide +kernel
theorem dX6_away_50 : decode cX6_away 50 = .ok (.iaload, 1) := by decide +kernel
theorem dX6_away_51 : decode cX6_away 51 = .ok (.invokevirtual 62, 3) := by decide +kernel
theorem dX6_away_54 : decode cX6_away 54 = .ok (.iload_n 2, 1) := by decide +kernel
theorem dX6_away_55 : decode cX6_away 55 = .ok (.isub, 1) := by decide +kernel
theorem dX6_away_56 : decode cX6_away 56 = .ok (.aload_n 0, 1) := by decide +kernel
theorem dX6_away_57 : decode cX6_away 57 = .ok (.iconst 0, 1) := by decide +kernel
theorem dX6_away_58 : decode cX6_away 58 = .ok (.invokevirtual 58, 3) := by decide +kernel
theorem dX6_away_61 : decode cX6_away 61 = .ok (.if_icmp .ge 6, 3) := by decide +kernel
theorem dX6_away_64 : decode cX6_away 64 = .ok (.ldc 165, 2) := by decide +kernel
theorem dX6_away_66 : decode cX6_away 66 = .ok (.ireturn, 1) := by decide +kernel
theorem dX6_away_67 : decode cX6_away 67 = .ok (.aload_n 0, 1) := by decide +kernel
theorem dX6_away_68 : decode cX6_away 68 = .ok (.invokevirtual 152, 3) := by decide +kernel
theorem dX6_away_71 : decode cX6_away 71 = .ok (.aload_n 0, 1) := by decide +kernel
theorem dX6_away_72 : decode cX6_away 72 = .ok (.getfield 7, 3) := by decide +kernel
theorem dX6_away_75 : decode cX6_away 75 = .ok (.iconst 3, 1) := by decide +kernel
theorem dX6_away_76 : decode cX6_away 76 = .ok (.dup2, 1) := by decide +kernel
theorem dX6_away_77 : decode cX6_away 77 = .ok (.iaload, 1) := by decide +kernel
theorem dX6_away_78 : decode cX6_away 78 = .ok (.iconst 1, 1) := by decide +kernel
theorem dX6_away_79 : decode cX6_away 79 = .ok (.isub, 1) := by decide +kernel
theorem dX6_away_80 : decode cX6_away 80 = .ok (.iastore, 1) := by decide +kernel
theorem dX6_away_81 : decode cX6_away 81 = .ok (.iload_n 1, 1) := by decide +kernel
theorem dX6_away_82 : decode cX6_away 82 = .ok (.istore_n 3, 1) := by decide +kernel
theorem dX6_away_83 : decode cX6_away 83 = .ok (.iload_n 3, 1) := by decide +kernel
theorem dX6_away_84 : decode cX6_away 84 = .ok (.aload_n 0, 1) := by decide +kernel
theorem dX6_away_85 : decode cX6_away 85 = .ok (.getfield 7, 3) := by decide +kernel
theorem dX6_away_88 : decode cX6_away 88 = .ok (.iconst 3, 1) := by decide +kernel
theorem dX6_away_89 : decode cX6_away 89 = .ok (.iaload, 1) := by decide +kernel
theorem dX6_away_90 : decode cX6_away 90 = .ok (.if_icmp .ge 49, 3) := by decide +kernel
theorem dX6_away_93 : decode cX6_away 93 = .ok (.aload_n 0, 1) := by decide +kernel
theorem dX6_away_94 : decode cX6_away 94 = .ok (.getfield 7, 3) := by decide +kernel
theorem dX6_away_97 : decode cX6_away 97 = .ok (.bipush 7, 2) := by decide +kernel
theorem dX6_away_99 : decode cX6_away 99 = .ok (.iload_n 3, 1) := by decide +kernel
theorem dX6_away_100 : decode cX6_away 100 = .ok (.iadd, 1) := by decide +kernel
theorem dX6_away_101 : decode cX6_away 101 = .ok (.aload_n 0, 1) := by decide +kernel
theorem dX6_away_102 : decode cX6_away 102 = .ok (.getfield 7, 3) := by decide +kernel
theorem dX6_away_105 : decode cX6_away 105 = .ok (.bipush 7, 2) := by decide +kernel
theorem dX6_away_107 : decode cX6_away 107 = .ok (.iload_n 3, 1) := by decide +kernel
theorem dX6_away_108 : decode cX6_away 108 = .ok (.iadd, 1) := by decide +kernel
theorem dX6_away_109 : decode cX6_away 109 = .ok (.iconst 1, 1) := by decide +kernel
theorem dX6_away_110 : decode cX6_away 110 = .ok (.iadd, 1) := by decide +kernel
theorem dX6_away_111 : decode cX6_away 111 = .ok (.iaload, 1) := by decide +kernel
theorem dX6_away_112 : decode cX6_away 112 = .ok (.iastore, 1) := by decide +kernel
theorem dX6_away_113 : decode cX6_away 113 = .ok (.aload_n 0, 1) := by decide +kernel
theorem dX6_away_114 : decode cX6_away 114 = .ok (.getfield 7, 3) := by decide +kernel
theorem dX6_away_117 : decode cX6_away 117 = .ok (.bipush 16, 2) := by decide +kernel
theorem dX6_away_119 : decode cX6_away 119 = .ok (.iload_n 3, 1) := by decide +kernel
theorem dX6_away_120 : decode cX6_away 120 = .ok (.iadd, 1) := by decide +kernel
theorem dX6_away_121 : decode cX6_away 121 = .ok (.aload_n 0, 1) := by decide +kernel
theorem dX6_away_122 : decode cX6_away 122 = .ok (.getfield 7, 3) := by decide +kernel
theorem dX6_away_125 : decode cX6_away 125 = .ok (.bipush 16, 2) := by decide +kernel
theorem dX6_away_127 : decode cX6_away 127 = .ok (.iload_n 3, 1) := by decide +kernel
theorem dX6_away_128 : decode cX6_away 128 = .ok (.iadd, 1) := by decide +kernel
theorem dX6_away_129 : decode cX6_away 129 = .ok (.iconst 1, 1) := by decide +kernel
theorem dX6_away_130 : decode cX6_away 130 = .ok (.iadd, 1) := by decide +kernel
theorem dX6_away_131 : decode cX6_away 131 = .ok (.iaload, 1) := by decide +kernel
theorem dX6_away_132 : decode cX6_away 132 = .ok (.iastore, 1) := by decide +kernel
theorem dX6_away_133 : decode cX6_away 133 = .ok (.iinc 3 1, 3) := by decide +kernel
theorem dX6_away_136 : decode cX6_away 136 = .ok (.goto (-53), 3) := by decide +kernel
theorem dX6_away_139 : decode cX6_away 139 = .ok (.aload_n 0, 1) := by decide +kernel
theorem dX6_away_140 : decode cX6_away 140 = .ok (.getfield 7, 3) := by decide +kernel
theorem dX6_away_143 : decode cX6_away 143 = .ok (.iconst 3, 1) := by decide +kernel
theorem dX6_away_144 : decode cX6_away 144 = .ok (.iaload, 1) := by decide +kernel
theorem dX6_away_145 : decode cX6_away 145 = .ok (.ireturn, 1) := by decide +kernel
theorem dX6_need_0 : decode cX6_need 0 = .ok (.aload_n 0, 1) := by decide +kernel
theorem dX6_need_1 : decode cX6_need 1 = .ok (.iload_n 1, 1) := by decide +kernel
theorem dX6_need_2 : decode cX6_need 2 = .ok (.invokevirtual 133, 3) := by decide +kernel
theorem dX6_need_5 : decode cX6_need 5 = .ok (.ifCond .ne 6, 3) := by decide +kernel
theorem dX6_need_8 : decode cX6_need 8 = .ok (.ldc 137, 2) := by decide +kernel
theorem dX6_need_10 : decode cX6_need 10 = .ok (.ireturn, 1) := by decide +kernel
theorem dX6_need_11 : decode cX6_need 11 = .ok (.iload_n 2, 1) := by decide +kernel
theorem dX6_need_12 : decode cX6_need 12 = .ok (.i2l, 1) := by decide +kernel
theorem dX6_need_13 : decode cX6_need 13 = .ok (.lconst 1, 1) := by decide +kernel
theorem dX6_need_14 : decode cX6_need 14 = .ok (.ldc2_w 147, 3) := by decide +kernel
theorem dX6_need_17 : decode cX6_need 17 = .ok (.invokestatic 50, 3) := by decide +kernel
theorem dX6_need_20 : decode cX6_need 20 = .ok (.ifCond .ne 6, 3) := by decide +kernel
theorem dX6_need_23 : decode cX6_need 23 = .ok (.ldc 132, 2) := by decide +kernel
theorem dX6_need_25 : decode cX6_need 25 = .ok (.ireturn, 1) := by decide +kernel
theorem dX6_need_26 : decode cX6_need 26 = .ok (.aload_n 0, 1) := by decide +kernel
theorem dX6_need_27 : decode cX6_need 27 = .ok (.iconst 0, 1) := by decide +kernel
theorem dX6_need_28 : decode cX6_need 28 = .ok (.iload_n 1, 1) := by decide +kernel
theorem dX6_need_29 : decode cX6_need 29 = .ok (.invokevirtual 54, 3) := by decide +kernel
theorem dX6_need_32 : decode cX6_need 32 = .ok (.ifCond .eq 6, 3) := by decide +kernel
theorem dX6_need_35 : decode cX6_need 35 = .ok (.ldc 165, 2) := by decide +kernel
theorem dX6_need_37 : decode cX6_need 37 = .ok (.ireturn, 1) := by decide +kernel
theorem dX6_need_38 : decode cX6_need 38 = .ok (.aload_n 0, 1) := by decide +kernel
theorem dX6_need_39 : decode cX6_need 39 = .ok (.invokevirtual 152, 3) := by decide +kernel
theorem dX6_need_42 : decode cX6_need 42 = .ok (.aload_n 0, 1) := by decide +kernel
theorem dX6_need_43 : decode cX6_need 43 = .ok (.getfield 7, 3) := by decide +kernel
theorem dX6_need_46 : decode cX6_need 46 = .ok (.bipush 25, 2) := by decide +kernel
theorem dX6_need_48 : decode cX6_need 48 = .ok (.iload_n 1, 1) := by decide +kernel
theorem dX6_need_49 : decode cX6_need 49 = .ok (.iadd, 1) := by decide +kernel
theorem dX6_need_50 : decode cX6_need 50 = .ok (.iaload, 1) := by decide +kernel
theorem dX6_need_51 : decode cX6_need 51 = .ok (.istore_n 3, 1) := by decide +kernel
theorem dX6_need_52 : decode cX6_need 52 = .ok (.aload_n 0, 1) := by decide +kernel
theorem dX6_need_53 : decode cX6_need 53 = .ok (.getfield 7, 3) := by decide +kernel
theorem dX6_need_56 : decode cX6_need 56 = .ok (.bipush 25, 2) := by decide +kernel
theorem dX6_need_58 : decode cX6_need 58 = .ok (.iload_n 1, 1) := by decide +kernel
theorem dX6_need_59 : decode cX6_need 59 = .ok (.iadd, 1) := by decide +kernel
theorem dX6_need_60 : decode cX6_need 60 = .ok (.iload_n 2, 1) := by decide +kernel
theorem dX6_need_61 : decode cX6_need 61 = .ok (.iastore, 1) := by decide +kernel
theorem dX6_need_62 : decode cX6_need 62 = .ok (.iload_n 3, 1) := by decide +kernel
theorem dX6_need_63 : decode cX6_need 63 = .ok (.ireturn, 1) := by decide +kernel
theorem dX6_bound_0 : decode cX6_bound 0 = .ok (.iload_n 1, 1) := by decide +kernel
theorem dX6_bound_1 : decode cX6_bound 1 = .ok (.ifCond .ne 15, 3) := by decide +kernel
theorem dX6_bound_4 : decode cX6_bound 4 = .ok (.iload_n 2, 1) := by decide +kernel
theorem dX6_bound_5 : decode cX6_bound 5 = .ok (.i2l, 1) := by decide +kernel
theorem dX6_bound_6 : decode cX6_bound 6 = .ok (.lconst 1, 1) := by decide +kernel
theorem dX6_bound_7 : decode cX6_bound 7 = .ok (.ldc2_w 166, 3) := by decide +kernel
theorem dX6_bound_10 : decode cX6_bound 10 = .ok (.invokestatic 50, 3) := by decide +kernel
theorem dX6_bound_13 : decode cX6_bound 13 = .ok (.goto 32, 3) := by decide +kernel
theorem dX6_bound_16 : decode cX6_bound 16 = .ok (.iload_n 1, 1) := by decide +kernel
theorem dX6_bound_17 : decode cX6_bound 17 = .ok (.i2l, 1) := by decide +kernel
theorem dX6_bound_18 : decode cX6_bound 18 = .ok (.lconst 1, 1) := by decide +kernel
theorem dX6_bound_19 : decode cX6_bound 19 = .ok (.ldc2_w 168, 3) := by decide +kernel
theorem dX6_bound_22 : decode cX6_bound 22 = .ok (.invokestatic 50, 3) := by decide +kernel
theorem dX6_bound_25 : decode cX6_bound 25 = .ok (.ifCond .eq 19, 3) := by decide +kernel
theorem dX6_bound_28 : decode cX6_bound 28 = .ok (.iload_n 2, 1) := by decide +kernel
theorem dX6_bound_29 : decode cX6_bound 29 = .ok (.i2l, 1) := by decide +kernel
theorem dX6_bound_30 : decode cX6_bound 30 = .ok (.lconst 0, 1) := by decide +kernel
theorem dX6_bound_31 : decode cX6_bound 31 = .ok (.ldc2_w 170, 3) := by decide +kernel
theorem dX6_bound_34 : decode cX6_bound 34 = .ok (.invokestatic 50, 3) := by decide +kernel
theorem dX6_bound_37 : decode cX6_bound 37 = .ok (.ifCond .eq 7, 3) := by decide +kernel
theorem dX6_bound_40 : decode cX6_bound 40 = .ok (.iconst 1, 1) := by decide +kernel
theorem dX6_bound_41 : decode cX6_bound 41 = .ok (.goto 4, 3) := by decide +kernel
theorem dX6_bound_44 : decode cX6_bound 44 = .ok (.iconst 0, 1) := by decide +kernel
theorem dX6_bound_45 : decode cX6_bound 45 = .ok (.istore_n 3, 1) := by decide +kernel
theorem dX6_bound_46 : decode cX6_bound 46 = .ok (.iload_n 3, 1) := by decide +kernel
theorem dX6_bound_47 : decode cX6_bound 47 = .ok (.ifCond .ne 6, 3) := by decide +kernel
theorem dX6_bound_50 : decode cX6_bound 50 = .ok (.ldc 132, 2) := by decide +kernel
theorem dX6_bound_52 : decode cX6_bound 52 = .ok (.ireturn, 1) := by decide +kernel
theorem dX6_bound_53 : decode cX6_bound 53 = .ok (.aload_n 0, 1) := by decide +kernel
theorem dX6_bound_54 : decode cX6_bound 54 = .ok (.invokevirtual 152, 3) := by decide +kernel
theorem dX6_bound_57 : decode cX6_bound 57 = .ok (.aload_n 0, 1) := by decide +kernel
theorem dX6_bound_58 : decode cX6_bound 58 = .ok (.getfield 7, 3) := by decide +kernel
theorem dX6_bound_61 : decode cX6_bound 61 = .ok (.iconst 4, 1) := by decide +kernel
theorem dX6_bound_62 : decode cX6_bound 62 = .ok (.iload_n 1, 1) := by decide +kernel
theorem dX6_bound_63 : decode cX6_bound 63 = .ok (.iadd, 1) := by decide +kernel
theorem dX6_bound_64 : decode cX6_bound 64 = .ok (.iaload, 1) := by decide +kernel
theorem dX6_bound_65 : decode cX6_bound 65 = .ok (.istore 4, 2) := by decide +kernel
theorem dX6_bound_67 : decode cX6_bound 67 = .ok (.aload_n 0, 1) := by decide +kernel
theorem dX6_bound_68 : decode cX6_bound 68 = .ok (.getfield 7, 3) := by decide +kernel
theorem dX6_bound_71 : decode cX6_bound 71 = .ok (.iconst 4, 1) := by decide +kernel
theorem dX6_bound_72 : decode cX6_bound 72 = .ok (.iload_n 1, 1) := by decide +kernel
theorem dX6_bound_73 : decode cX6_bound 73 = .ok (.iadd, 1) := by decide +kernel
theorem dX6_bound_74 : decode cX6_bound 74 = .ok (.iload_n 2, 1) := by decide +kernel
theorem dX6_bound_75 : decode cX6_bound 75 = .ok (.iastore, 1) := by decide +kernel
theorem dX6_bound_76 : decode cX6_bound 76 = .ok (.iload 4, 2) := by decide +kernel
theorem dX6_bound_78 : decode cX6_bound 78 = .ok (.ireturn, 1) := by decide +kernel
theorem dX6_pour_0 : decode cX6_pour 0 = .ok (.aload_n 0, 1) := by decide +kernel
theorem dX6_pour_1 : decode cX6_pour 1 = .ok (.iload_n 1, 1) := by decide +kernel
theorem dX6_pour_2 : decode cX6_pour 2 = .ok (.invokevirtual 133, 3) := by decide +kernel
theorem dX6_pour_5 : decode cX6_pour 5 = .ok (.ifCond .ne 6, 3) := by decide +kernel
theorem dX6_pour_8 : decode cX6_pour 8 = .ok (.ldc 137, 2) := by decide +kernel
theorem dX6_pour_10 : decode cX6_pour 10 = .ok (.ireturn, 1) := by decide +kernel
theorem dX6_pour_11 : decode cX6_pour 11 = .ok (.aload_n 0, 1) := by decide +kernel
theorem dX6_pour_12 : decode cX6_pour 12 = .ok (.iconst 0, 1) := by decide +kernel
theorem dX6_pour_13 : decode cX6_pour 13 = .ok (.iload_n 1, 1) := by decide +kernel
theorem dX6_pour_14 : decode cX6_pour 14 = .ok (.invokevirtual 67, 3) := by decide +kernel
theorem dX6_pour_17 : decode cX6_pour 17 = .ok (.iconst (-1), 1) := by decide +kernel
theorem dX6_pour_18 : decode cX6_pour 18 = .ok (.if_icmp .ne 6, 3) := by decide +kernel
theorem dX6_pour_21 : decode cX6_pour 21 = .ok (.ldc 165, 2) := by decide +kernel
theorem dX6_pour_23 : decode cX6_pour 23 = .ok (.ireturn, 1) := by decide +kernel
theorem dX6_pour_24 : decode cX6_pour 24 = .ok (.aload_n 0, 1) := by decide +kernel
theorem dX6_pour_25 : decode cX6_pour 25 = .ok (.invokevirtual 152, 3) := by decide +kernel
theorem dX6_pour_28 : decode cX6_pour 28 = .ok (.aload_n 0, 1) := by decide +kernel
theorem dX6_pour_29 : decode cX6_pour 29 = .ok (.iconst 0, 1) := by decide +kernel
theorem dX6_pour_30 : decode cX6_pour 30 = .ok (.iload_n 1, 1) := by decide +kernel
theorem dX6_pour_31 : decode cX6_pour 31 = .ok (.invokevirtual 99, 3) := by decide +kernel
theorem dX6_pour_34 : decode cX6_pour 34 = .ok (.ifCond .eq 12, 3) := by decide +kernel
theorem dX6_pour_37 : decode cX6_pour 37 = .ok (.aload_n 0, 1) := by decide +kernel
theorem dX6_pour_38 : decode cX6_pour 38 = .ok (.iconst 0, 1) := by decide +kernel
theorem dX6_pour_39 : decode cX6_pour 39 = .ok (.iconst 0, 1) := by decide +kernel
theorem dX6_pour_40 : decode cX6_pour 40 = .ok (.invokevirtual 82, 3) := by decide +kernel
theorem dX6_pour_43 : decode cX6_pour 43 = .ok (.goto 5, 3) := by decide +kernel
theorem dX6_pour_46 : decode cX6_pour 46 = .ok (.ldc 165, 2) := by decide +kernel
theorem dX6_pour_48 : decode cX6_pour 48 = .ok (.ireturn, 1) := by decide +kernel
theorem dX6_rest_0 : decode cX6_rest 0 = .ok (.iload_n 1, 1) := by decide +kernel
theorem dX6_rest_1 : decode cX6_rest 1 = .ok (.i2l, 1) := by decide +kernel
theorem dX6_rest_2 : decode cX6_rest 2 = .ok (.lconst 1, 1) := by decide +kernel
theorem dX6_rest_3 : decode cX6_rest 3 = .ok (.ldc2_w 166, 3) := by decide +kernel
theorem dX6_rest_6 : decode cX6_rest 6 = .ok (.invokestatic 50, 3) := by decide +kernel
theorem dX6_rest_9 : decode cX6_rest 9 = .ok (.ifCond .ne 6, 3) := by decide +kernel
theorem dX6_rest_12 : decode cX6_rest 12 = .ok (.ldc 132, 2) := by decide +kernel
theorem dX6_rest_14 : decode cX6_rest 14 = .ok (.ireturn, 1) := by decide +kernel
theorem dX6_rest_15 : decode cX6_rest 15 = .ok (.aload_n 0, 1) := by decide +kernel
theorem dX6_rest_16 : decode cX6_rest 16 = .ok (.getfield 7, 3) := by decide +kernel
theorem dX6_rest_19 : decode cX6_rest 19 = .ok (.iconst 2, 1) := by decide +kernel
theorem dX6_rest_20 : decode cX6_rest 20 = .ok (.iaload, 1) := by decide +kernel
theorem dX6_rest_21 : decode cX6_rest 21 = .ok (.iload_n 1, 1) := by decide +kernel
theorem dX6_rest_22 : decode cX6_rest 22 = .ok (.iadd, 1) := by decide +kernel
theorem dX6_rest_23 : decode cX6_rest 23 = .ok (.sipush 9999, 3) := by decide +kernel
theorem dX6_rest_26 : decode cX6_rest 26 = .ok (.if_icmp .le 6, 3) := by decide +kernel
theorem dX6_rest_29 : decode cX6_rest 29 = .ok (.ldc 165, 2) := by decide +kernel
theorem dX6_rest_31 : decode cX6_rest 31 = .ok (.ireturn, 1) := by decide +kernel
theorem dX6_rest_32 : decode cX6_rest 32 = .ok (.aload_n 0, 1) := by decide +kernel
theorem dX6_rest_33 : decode cX6_rest 33 = .ok (.invokevirtual 152, 3) := by decide +kernel
theorem dX6_rest_36 : decode cX6_rest 36 = .ok (.aload_n 0, 1) := by decide +kernel
theorem dX6_rest_37 : decode cX6_rest 37 = .ok (.getfield 7, 3) := by decide +kernel
theorem dX6_rest_40 : decode cX6_rest 40 = .ok (.iconst 2, 1) := by decide +kernel
theorem dX6_rest_41 : decode cX6_rest 41 = .ok (.dup2, 1) := by decide +kernel
theorem dX6_rest_42 : decode cX6_rest 42 = .ok (.iaload, 1) := by decide +kernel
theorem dX6_rest_43 : decode cX6_rest 43 = .ok (.iload_n 1, 1) := by decide +kernel
theorem dX6_rest_44 : decode cX6_rest 44 = .ok (.iadd, 1) := by decide +kernel
theorem dX6_rest_45 : decode cX6_rest 45 = .ok (.iastore, 1) := by decide +kernel
theorem dX6_rest_46 : decode cX6_rest 46 = .ok (.aload_n 0, 1) := by decide +kernel
theorem dX6_rest_47 : decode cX6_rest 47 = .ok (.getfield 7, 3) := by decide +kernel
theorem dX6_rest_50 : decode cX6_rest 50 = .ok (.iconst 2, 1) := by decide +kernel
theorem dX6_rest_51 : decode cX6_rest 51 = .ok (.iaload, 1) := by decide +kernel
theorem dX6_rest_52 : decode cX6_rest 52 = .ok (.ireturn, 1) := by decide +kernel
theorem dX6_follow_0 : decode cX6_follow 0 = .ok (.aload_n 0, 1) := by decide +kernel
theorem dX6_follow_1 : decode cX6_follow 1 = .ok (.invokevirtual 105, 3) := by decide +kernel
theorem dX6_follow_4 : decode cX6_follow 4 = .ok (.aload_n 0, 1) := by decide +kernel
theorem dX6_follow_5 : decode cX6_follow 5 = .ok (.getfield 86, 3) := by decide +kernel
theorem dX6_follow_8 : decode cX6_follow 8 = .ok (.iconst 1, 1) := by decide +kernel
theorem dX6_follow_9 : decode cX6_follow 9 = .ok (.if_icmp .ge 6, 3) := by decide +kernel
theorem dX6_follow_12 : decode cX6_follow 12 = .ok (.ldc 165, 2) := by decide +kernel
theorem dX6_follow_14 : decode cX6_follow 14 = .ok (.ireturn, 1) := by decide +kernel
theorem dX6_follow_15 : decode cX6_follow 15 = .ok (.aload_n 0, 1) := by decide +kernel
theorem dX6_follow_16 : decode cX6_follow 16 = .ok (.getfield 26, 3) := by decide +kernel
theorem dX6_follow_19 : decode cX6_follow 19 = .ok (.iconst 0, 1) := by decide +kernel
theorem dX6_follow_20 : decode cX6_follow 20 = .ok (.iaload, 1) := by decide +kernel
theorem dX6_follow_21 : decode cX6_follow 21 = .ok (.istore_n 1, 1) := by decide +kernel
theorem dX6_follow_22 : decode cX6_follow 22 = .ok (.aload_n 0, 1) := by decide +kernel
theorem dX6_follow_23 : decode cX6_follow 23 = .ok (.invokevirtual 152, 3) := by decide +kernel
theorem dX6_follow_26 : decode cX6_follow 26 = .ok (.aload_n 0, 1) := by decide +kernel
theorem dX6_follow_27 : decode cX6_follow 27 = .ok (.iconst 0, 1) := by decide +kernel
theorem dX6_follow_28 : decode cX6_follow 28 = .ok (.iload_n 1, 1) := by decide +kernel
theorem dX6_follow_29 : decode cX6_follow 29 = .ok (.invokevirtual 99, 3) := by decide +kernel
theorem dX6_follow_32 : decode cX6_follow 32 = .ok (.ifCond .eq 7, 3) := by decide +kernel
theorem dX6_follow_35 : decode cX6_follow 35 = .ok (.iload_n 1, 1) := by decide +kernel
theorem dX6_follow_36 : decode cX6_follow 36 = .ok (.goto 5, 3) := by decide +kernel
theorem dX6_follow_39 : decode cX6_follow 39 = .ok (.ldc 165, 2) := by decide +kernel
theorem dX6_follow_41 : decode cX6_follow 41 = .ok (.ireturn, 1) := by decide +kernel
theorem dX6_draw_0 : decode cX6_draw 0 = .ok (.aload_n 0, 1) := by decide +kernel
theorem dX6_draw_1 : decode cX6_draw 1 = .ok (.aload_n 0, 1) := by decide +kernel
theorem dX6_draw_2 : decode cX6_draw 2 = .ok (.getfield 172, 3) := by decide +kernel
theorem dX6_draw_5 : decode cX6_draw 5 = .ok (.i2l, 1) := by decide +kernel
theorem dX6_draw_6 : decode cX6_draw 6 = .ok (.ldc2_w 175, 3) := by decide +kernel
theorem dX6_draw_9 : decode cX6_draw 9 = .ok (.lmul, 1) := by decide +kernel
theorem dX6_draw_10 : decode cX6_draw 10 = .ok (.ldc2_w 177, 3) := by decide +kernel
theorem dX6_draw_13 : decode cX6_draw 13 = .ok (.ladd, 1) := by decide +kernel
theorem dX6_draw_14 : decode cX6_draw 14 = .ok (.ldc2_w 179, 3) := by decide +kernel
theorem dX6_draw_17 : decode cX6_draw 17 = .ok (.lrem, 1) := by decide +kernel
theorem dX6_draw_18 : decode cX6_draw 18 = .ok (.l2i, 1) := by decide +kernel
theorem dX6_draw_19 : decode cX6_draw 19 = .ok (.putfield 172, 3) := by decide +kernel
theorem dX6_draw_22 : decode cX6_draw 22 = .ok (.aload_n 0, 1) := by decide +kernel
theorem dX6_draw_23 : decode cX6_draw 23 = .ok (.getfield 172, 3) := by decide +kernel
theorem dX6_draw_26 : decode cX6_draw 26 = .ok (.ldc 181, 2) := by decide +kernel
theorem dX6_draw_28 : decode cX6_draw 28 = .ok (.idiv, 1) := by decide +kernel
theorem dX6_draw_29 : decode cX6_draw 29 = .ok (.iload_n 1, 1) := by decide +kernel
theorem dX6_draw_30 : decode cX6_draw 30 = .ok (.irem, 1) := by decide +kernel
theorem dX6_draw_31 : decode cX6_draw 31 = .ok (.ireturn, 1) := by decide +kernel
theorem dX6_draws_0 : decode cX6_draws 0 = .ok (.aload_n 0, 1) := by decide +kernel
theorem dX6_draws_1 : decode cX6_draws 1 = .ok (.invokevirtual 152, 3) := by decide +kernel
theorem dX6_draws_4 : decode cX6_draws 4 = .ok (.aload_n 0, 1) := by decide +kernel
theorem dX6_draws_5 : decode cX6_draws 5 = .ok (.iconst 4, 1) := by decide +kernel
theorem dX6_draws_6 : decode cX6_draws 6 = .ok (.invokevirtual 182, 3) := by decide +kernel
theorem dX6_draws_9 : decode cX6_draws 9 = .ok (.istore_n 1, 1) := by decide +kernel
theorem dX6_draws_10 : decode cX6_draws 10 = .ok (.aload_n 0, 1) := by decide +kernel
theorem dX6_draws_11 : decode cX6_draws 11 = .ok (.aload_n 0, 1) := by decide +kernel
theorem dX6_draws_12 : decode cX6_draws 12 = .ok (.invokevirtual 46, 3) := by decide +kernel
theorem dX6_draws_15 : decode cX6_draws 15 = .ok (.invokevirtual 182, 3) := by decide +kernel
theorem dX6_draws_18 : decode cX6_draws 18 = .ok (.istore_n 2, 1) := by decide +kernel
theorem dX6_draws_19 : decode cX6_draws 19 = .ok (.aload_n 0, 1) := by decide +kernel
theorem dX6_draws_20 : decode cX6_draws 20 = .ok (.bipush 30, 2) := by decide +kernel
theorem dX6_draws_22 : decode cX6_draws 22 = .ok (.invokevirtual 182, 3) := by decide +kernel
theorem dX6_draws_25 : decode cX6_draws 25 = .ok (.istore_n 3, 1) := by decide +kernel
theorem dX6_draws_26 : decode cX6_draws 26 = .ok (.aload_n 0, 1) := by decide +kernel
theorem dX6_draws_27 : decode cX6_draws 27 = .ok (.iconst 4, 1) := by decide +kernel
theorem dX6_draws_28 : decode cX6_draws 28 = .ok (.invokevirtual 182, 3) := by decide +kernel
theorem dX6_draws_31 : decode cX6_draws 31 = .ok (.istore 4, 2) := by decide +kernel
theorem dX6_draws_33 : decode cX6_draws 33 = .ok (.iload_n 1, 1) := by decide +kernel
theorem dX6_draws_34 : decode cX6_draws 34 = .ok (.iconst 2, 1) := by decide +kernel
theorem dX6_draws_35 : decode cX6_draws 35 = .ok (.if_icmp .ge 46, 3) := by decide +kernel
theorem dX6_draws_38 : decode cX6_draws 38 = .ok (.aload_n 0, 1) := by decide +kernel
theorem dX6_draws_39 : decode cX6_draws 39 = .ok (.getfield 7, 3) := by decide +kernel
theorem dX6_draws_42 : decode cX6_draws 42 = .ok (.iconst 3, 1) := by decide +kernel
theorem dX6_draws_43 : decode cX6_draws 43 = .ok (.iaload, 1) := by decide +kernel
theorem dX6_draws_44 : decode cX6_draws 44 = .ok (.bipush 9, 2) := by decide +kernel
theorem dX6_draws_46 : decode cX6_draws 46 = .ok (.if_icmp .ge 92, 3) := by decide +kernel
theorem dX6_draws_49 : decode cX6_draws 49 = .ok (.aload_n 0, 1) := by decide +kernel
theorem dX6_draws_50 : decode cX6_draws 50 = .ok (.getfield 7, 3) := by decide +kernel
theorem dX6_draws_53 : decode cX6_draws 53 = .ok (.iconst 2, 1) := by decide +kernel
theorem dX6_draws_54 : decode cX6_draws 54 = .ok (.iaload, 1) := by decide +kernel
theorem dX6_draws_55 : decode cX6_draws 55 = .ok (.iload_n 3, 1) := by decide +kernel
theorem dX6_draws_56 : decode cX6_draws 56 = .ok (.iadd, 1) := by decide +kernel
theorem dX6_draws_57 : decode cX6_draws 57 = .ok (.bipush 99, 2) := by decide +kernel
theorem dX6_draws_59 : decode cX6_draws 59 = .ok (.if_icmp .gt 79, 3) := by decide +kernel
theorem dX6_draws_62 : decode cX6_draws 62 = .ok (.aload_n 0, 1) := by decide +kernel
theorem dX6_draws_63 : decode cX6_draws 63 = .ok (.aload_n 0, 1) := by decide +kernel
theorem dX6_draws_64 : decode cX6_draws 64 = .ok (.getfield 7, 3) := by decide +kernel
theorem dX6_draws_67 : decode cX6_draws 67 = .ok (.iconst 2, 1) := by decide +kernel
theorem dX6_draws_68 : decode cX6_draws 68 = .ok (.iaload, 1) := by decide +kernel
theorem dX6_draws_69 : decode cX6_draws 69 = .ok (.iload_n 3, 1) := by decide +kernel
theorem dX6_draws_70 : decode cX6_draws 70 = .ok (.iadd, 1) := by decide +kernel
theorem dX6_draws_71 : decode cX6_draws 71 = .ok (.iload 4, 2) := by decide +kernel
theorem dX6_draws_73 : decode cX6_draws 73 = .ok (.iconst 1, 1) := by decide +kernel
theorem dX6_draws_74 : decode cX6_draws 74 = .ok (.iadd, 1) := by decide +kernel
theorem dX6_draws_75 : decode cX6_draws 75 = .ok (.invokevirtual 160, 3) := by decide +kernel
theorem dX6_draws_78 : decode cX6_draws 78 = .ok (.goto 60, 3) := by decide +kernel
theorem dX6_draws_81 : decode cX6_draws 81 = .ok (.iload_n 1, 1) := by decide +kernel
theorem dX6_draws_82 : decode cX6_draws 82 = .ok (.iconst 2, 1) := by decide +kernel
theorem dX6_draws_83 : decode cX6_draws 83 = .ok (.if_icmp .ne 25, 3) := by decide +kernel
theorem dX6_draws_86 : decode cX6_draws 86 = .ok (.aload_n 0, 1) := by decide +kernel
theorem dX6_draws_87 : decode cX6_draws 87 = .ok (.iconst 0, 1) := by decide +kernel
theorem dX6_draws_88 : decode cX6_draws 88 = .ok (.iload_n 2, 1) := by decide +kernel
theorem dX6_draws_89 : decode cX6_draws 89 = .ok (.invokevirtual 99, 3) := by decide +kernel
theorem dX6_draws_92 : decode cX6_draws 92 = .ok (.istore 5, 2) := by decide +kernel
theorem dX6_draws_94 : decode cX6_draws 94 = .ok (.iload 5, 2) := by decide +kernel
theorem dX6_draws_96 : decode cX6_draws 96 = .ok (.ifCond .eq 7, 3) := by decide +kernel
theorem dX6_draws_99 : decode cX6_draws 99 = .ok (.iconst 1, 1) := by decide +kernel
theorem dX6_draws_100 : decode cX6_draws 100 = .ok (.goto 4, 3) := by decide +kernel
theorem dX6_draws_103 : decode cX6_draws 103 = .ok (.iconst 0, 1) := by decide +kernel
theorem dX6_draws_104 : decode cX6_draws 104 = .ok (.istore_n 3, 1) := by decide +kernel
theorem dX6_draws_105 : decode cX6_draws 105 = .ok (.goto 33, 3) := by decide +kernel
theorem dX6_draws_108 : decode cX6_draws 108 = .ok (.aload_n 0, 1) := by decide +kernel
theorem dX6_draws_109 : decode cX6_draws 109 = .ok (.iconst 0, 1) := by decide +kernel
theorem dX6_draws_110 : decode cX6_draws 110 = .ok (.iload_n 2, 1) := by decide +kernel
theorem dX6_draws_111 : decode cX6_draws 111 = .ok (.invokevirtual 54, 3) := by decide +kernel
theorem dX6_draws_114 : decode cX6_draws 114 = .ok (.ifCond .ne 24, 3) := by decide +kernel
theorem dX6_draws_117 : decode cX6_draws 117 = .ok (.aload_n 0, 1) := by decide +kernel
theorem dX6_draws_118 : decode cX6_draws 118 = .ok (.getfield 7, 3) := by decide +kernel
theorem dX6_draws_121 : decode cX6_draws 121 = .ok (.bipush 25, 2) := by decide +kernel
theorem dX6_draws_123 : decode cX6_draws 123 = .ok (.iload_n 2, 1) := by decide +kernel
theorem dX6_draws_124 : decode cX6_draws 124 = .ok (.iadd, 1) := by decide +kernel
theorem dX6_draws_125 : decode cX6_draws 125 = .ok (.iload 4, 2) := by decide +kernel
theorem dX6_draws_127 : decode cX6_draws 127 = .ok (.iconst 1, 1) := by decide +kernel
theorem dX6_draws_128 : decode cX6_draws 128 = .ok (.if_icmp .le 8, 3) := by decide +kernel
theorem dX6_draws_131 : decode cX6_draws 131 = .ok (.iload 4, 2) := by decide +kernel
theorem dX6_draws_133 : decode cX6_draws 133 = .ok (.goto 4, 3) := by decide +kernel
theorem dX6_draws_136 : decode cX6_draws 136 = .ok (.iconst 1, 1) := by decide +kernel
theorem dX6_draws_137 : decode cX6_draws 137 = .ok (.iastore, 1) := by decide +kernel
theorem dX6_draws_138 : decode cX6_draws 138 = .ok (.return_, 1) := by decide +kernel
theorem dX6_drift_0 : decode cX6_drift 0 = .ok (.iload_n 1, 1) := by decide +kernel
theorem dX6_drift_1 : decode cX6_drift 1 = .ok (.i2l, 1) := by decide +kernel
theorem dX6_drift_2 : decode cX6_drift 2 = .ok (.lconst 1, 1) := by decide +kernel
theorem dX6_drift_3 : decode cX6_drift 3 = .ok (.ldc2_w 185, 3) := by decide +kernel
theorem dX6_drift_6 : decode cX6_drift 6 = .ok (.invokestatic 50, 3) := by decide +kernel
theorem dX6_drift_9 : decode cX6_drift 9 = .ok (.ifCond .ne 6, 3) := by decide +kernel
theorem dX6_drift_12 : decode cX6_drift 12 = .ok (.ldc 132, 2) := by decide +kernel
theorem dX6_drift_14 : decode cX6_drift 14 = .ok (.ireturn, 1) := by decide +kernel
theorem dX6_drift_15 : decode cX6_drift 15 = .ok (.iconst 0, 1) := by decide +kernel
theorem dX6_drift_16 : decode cX6_drift 16 = .ok (.istore_n 2, 1) := by decide +kernel
theorem dX6_drift_17 : decode cX6_drift 17 = .ok (.iload_n 2, 1) := by decide +kernel
theorem dX6_drift_18 : decode cX6_drift 18 = .ok (.iload_n 1, 1) := by decide +kernel
theorem dX6_drift_19 : decode cX6_drift 19 = .ok (.if_icmp .ge 13, 3) := by decide +kernel
theorem dX6_drift_22 : decode cX6_drift 22 = .ok (.aload_n 0, 1) := by decide +kernel
theorem dX6_drift_23 : decode cX6_drift 23 = .ok (.invokevirtual 187, 3) := by decide +kernel
theorem dX6_drift_26 : decode cX6_drift 26 = .ok (.iinc 2 1, 3) := by decide +kernel
theorem dX6_drift_29 : decode cX6_drift 29 = .ok (.goto (-12), 3) := by decide +kernel
theorem dX6_drift_32 : decode cX6_drift 32 = .ok (.aload_n 0, 1) := by decide +kernel
theorem dX6_drift_33 : decode cX6_drift 33 = .ok (.invokevirtual 111, 3) := by decide +kernel
theorem dX6_drift_36 : decode cX6_drift 36 = .ok (.invokestatic 149, 3) := by decide +kernel
theorem dX6_drift_39 : decode cX6_drift 39 = .ok (.ireturn, 1) := by decide +kernel
theorem dX6_undo_0 : decode cX6_undo 0 = .ok (.iload_n 1, 1) := by decide +kernel
theorem dX6_undo_1 : decode cX6_undo 1 = .ok (.i2l, 1) := by decide +kernel
theorem dX6_undo_2 : decode cX6_undo 2 = .ok (.lconst 1, 1) := by decide +kernel
theorem dX6_undo_3 : decode cX6_undo 3 = .ok (.ldc2_w 185, 3) := by decide +kernel
theorem dX6_undo_6 : decode cX6_undo 6 = .ok (.invokestatic 50, 3) := by decide +kernel
theorem dX6_undo_9 : decode cX6_undo 9 = .ok (.ifCond .ne 6, 3) := by decide +kernel
theorem dX6_undo_12 : decode cX6_undo 12 = .ok (.ldc 132, 2) := by decide +kernel
theorem dX6_undo_14 : decode cX6_undo 14 = .ok (.ireturn, 1) := by decide +kernel
theorem dX6_undo_15 : decode cX6_undo 15 = .ok (.iload_n 1, 1) := by decide +kernel
theorem dX6_undo_16 : decode cX6_undo 16 = .ok (.aload_n 0, 1) := by decide +kernel
theorem dX6_undo_17 : decode cX6_undo 17 = .ok (.getfield 39, 3) := by decide +kernel
theorem dX6_undo_20 : decode cX6_undo 20 = .ok (.if_icmp .le 6, 3) := by decide +kernel
theorem dX6_undo_23 : decode cX6_undo 23 = .ok (.ldc 165, 2) := by decide +kernel
theorem dX6_undo_25 : decode cX6_undo 25 = .ok (.ireturn, 1) := by decide +kernel
theorem dX6_undo_26 : decode cX6_undo 26 = .ok (.aload_n 0, 1) := by decide +kernel
theorem dX6_undo_27 : decode cX6_undo 27 = .ok (.dup, 1) := by decide +kernel
theorem dX6_undo_28 : decode cX6_undo 28 = .ok (.getfield 39, 3) := by decide +kernel
theorem dX6_undo_31 : decode cX6_undo 31 = .ok (.iload_n 1, 1) := by decide +kernel
theorem dX6_undo_32 : decode cX6_undo 32 = .ok (.isub, 1) := by decide +kernel
theorem dX6_undo_33 : decode cX6_undo 33 = .ok (.putfield 39, 3) := by decide +kernel
theorem dX6_undo_36 : decode cX6_undo 36 = .ok (.aload_n 0, 1) := by decide +kernel
theorem dX6_undo_37 : decode cX6_undo 37 = .ok (.sipush 260, 3) := by decide +kernel
theorem dX6_undo_40 : decode cX6_undo 40 = .ok (.bipush 52, 2) := by decide +kernel
theorem dX6_undo_42 : decode cX6_undo 42 = .ok (.aload_n 0, 1) := by decide +kernel
theorem dX6_undo_43 : decode cX6_undo 43 = .ok (.getfield 39, 3) := by decide +kernel
theorem dX6_undo_46 : decode cX6_undo 46 = .ok (.imul, 1) := by decide +kernel
theorem dX6_undo_47 : decode cX6_undo 47 = .ok (.iadd, 1) := by decide +kernel
theorem dX6_undo_48 : decode cX6_undo 48 = .ok (.iconst 0, 1) := by decide +kernel
theorem dX6_undo_49 : decode cX6_undo 49 = .ok (.invokevirtual 43, 3) := by decide +kernel
theorem dX6_undo_52 : decode cX6_undo 52 = .ok (.aload_n 0, 1) := by decide +kernel
theorem dX6_undo_53 : decode cX6_undo 53 = .ok (.getfield 7, 3) := by decide +kernel
theorem dX6_undo_56 : decode cX6_undo 56 = .ok (.iconst 2, 1) := by decide +kernel
theorem dX6_undo_57 : decode cX6_undo 57 = .ok (.iaload, 1) := by decide +kernel
theorem dX6_undo_58 : decode cX6_undo 58 = .ok (.ireturn, 1) := by decide +kernel
theorem dX6_best_0 : decode cX6_best 0 = .ok (.aload_n 0, 1) := by decide +kernel
theorem dX6_best_1 : decode cX6_best 1 = .ok (.invokevirtual 105, 3) := by decide +kernel
theorem dX6_best_4 : decode cX6_best 4 = .ok (.iload_n 1, 1) := by decide +kernel
theorem dX6_best_5 : decode cX6_best 5 = .ok (.i2l, 1) := by decide +kernel
theorem dX6_best_6 : decode cX6_best 6 = .ok (.lconst 0, 1) := by decide +kernel
theorem dX6_best_7 : decode cX6_best 7 = .ok (.aload_n 0, 1) := by decide +kernel
theorem dX6_best_8 : decode cX6_best 8 = .ok (.getfield 86, 3) := by decide +kernel
theorem dX6_best_11 : decode cX6_best 11 = .ok (.iconst 1, 1) := by decide +kernel
theorem dX6_best_12 : decode cX6_best 12 = .ok (.isub, 1) := by decide +kernel
theorem dX6_best_13 : decode cX6_best 13 = .ok (.i2l, 1) := by decide +kernel
theorem dX6_best_14 : decode cX6_best 14 = .ok (.invokestatic 50, 3) := by decide +kernel
theorem dX6_best_17 : decode cX6_best 17 = .ok (.ifCond .eq 12, 3) := by decide +kernel
theorem dX6_best_20 : decode cX6_best 20 = .ok (.aload_n 0, 1) := by decide +kernel
theorem dX6_best_21 : decode cX6_best 21 = .ok (.getfield 26, 3) := by decide +kernel
theorem dX6_best_24 : decode cX6_best 24 = .ok (.iload_n 1, 1) := by decide +kernel
theorem dX6_best_25 : decode cX6_best 25 = .ok (.iaload, 1) := by decide +kernel
theorem dX6_best_26 : decode cX6_best 26 = .ok (.goto 4, 3) := by decide +kernel
theorem dX6_best_29 : decode cX6_best 29 = .ok (.iconst (-1), 1) := by decide +kernel
theorem dX6_best_30 : decode cX6_best 30 = .ok (.ireturn, 1) := by decide +kernel
theorem dX6_stop_0 : decode cX6_stop 0 = .ok (.iload_n 1, 1) := by decide +kernel
theorem dX6_stop_1 : decode cX6_stop 1 = .ok (.i2l, 1) := by decide +kernel
theorem dX6_stop_2 : decode cX6_stop 2 = .ok (.lconst 0, 1) := by decide +kernel
theorem dX6_stop_3 : decode cX6_stop 3 = .ok (.lconst 1, 1) := by decide +kernel
theorem dX6_stop_4 : decode cX6_stop 4 = .ok (.invokestatic 50, 3) := by decide +kernel
theorem dX6_stop_7 : decode cX6_stop 7 = .ok (.ifCond .ne 6, 3) := by decide +kernel
theorem dX6_stop_10 : decode cX6_stop 10 = .ok (.ldc 132, 2) := by decide +kernel
theorem dX6_stop_12 : decode cX6_stop 12 = .ok (.ireturn, 1) := by decide +kernel
theorem dX6_stop_13 : decode cX6_stop 13 = .ok (.aload_n 0, 1) := by decide +kernel
theorem dX6_stop_14 : decode cX6_stop 14 = .ok (.invokevirtual 105, 3) := by decide +kernel
theorem dX6_stop_17 : decode cX6_stop 17 = .ok (.aload_n 0, 1) := by decide +kernel
theorem dX6_stop_18 : decode cX6_stop 18 = .ok (.getfield 86, 3) := by decide +kernel
theorem dX6_stop_21 : decode cX6_stop 21 = .ok (.iconst (-1), 1) := by decide +kernel
theorem dX6_stop_22 : decode cX6_stop 22 = .ok (.if_icmp .ne 5, 3) := by decide +kernel
theorem dX6_stop_25 : decode cX6_stop 25 = .ok (.iconst (-1), 1) := by decide +kernel
theorem dX6_stop_26 : decode cX6_stop 26 = .ok (.ireturn, 1) := by decide +kernel
theorem dX6_stop_27 : decode cX6_stop 27 = .ok (.aload_n 0, 1) := by decide +kernel
theorem dX6_stop_28 : decode cX6_stop 28 = .ok (.iconst 0, 1) := by decide +kernel
theorem dX6_stop_29 : decode cX6_stop 29 = .ok (.bipush 52, 2) := by decide +kernel
theorem dX6_stop_31 : decode cX6_stop 31 = .ok (.invokevirtual 43, 3) := by decide +kernel
theorem dX6_stop_34 : decode cX6_stop 34 = .ok (.aload_n 0, 1) := by decide +kernel
theorem dX6_stop_35 : decode cX6_stop 35 = .ok (.bipush 52, 2) := by decide +kernel
theorem dX6_stop_37 : decode cX6_stop 37 = .ok (.iconst 1, 1) := by decide +kernel
theorem dX6_stop_38 : decode cX6_stop 38 = .ok (.invokevirtual 82, 3) := by decide +kernel
theorem dX6_stop_41 : decode cX6_stop 41 = .ok (.istore_n 2, 1) := by decide +kernel
theorem dX6_stop_42 : decode cX6_stop 42 = .ok (.iconst 0, 1) := by decide +kernel
theorem dX6_stop_43 : decode cX6_stop 43 = .ok (.istore_n 3, 1) := by decide +kernel
theorem dX6_stop_44 : decode cX6_stop 44 = .ok (.iconst 0, 1) := by decide +kernel
theorem dX6_stop_45 : decode cX6_stop 45 = .ok (.istore 4, 2) := by decide +kernel
theorem dX6_stop_47 : decode cX6_stop 47 = .ok (.iload 4, 2) := by decide +kernel
theorem dX6_stop_49 : decode cX6_stop 49 = .ok (.aload_n 0, 1) := by decide +kernel
theorem dX6_stop_50 : decode cX6_stop 50 = .ok (.getfield 86, 3) := by decide +kernel
theorem dX6_stop_53 : decode cX6_stop 53 = .ok (.if_icmp .ge 70, 3) := by decide +kernel
theorem dX6_stop_56 : decode cX6_stop 56 = .ok (.aload_n 0, 1) := by decide +kernel
theorem dX6_stop_57 : decode cX6_stop 57 = .ok (.bipush 52, 2) := by decide +kernel
theorem dX6_stop_59 : decode cX6_stop 59 = .ok (.aload_n 0, 1) := by decide +kernel
theorem dX6_stop_60 : decode cX6_stop 60 = .ok (.getfield 26, 3) := by decide +kernel
theorem dX6_stop_63 : decode cX6_stop 63 = .ok (.iload 4, 2) := by decide +kernel
theorem dX6_stop_65 : decode cX6_stop 65 = .ok (.iaload, 1) := by decide +kernel
theorem dX6_stop_66 : decode cX6_stop 66 = .ok (.invokevirtual 99, 3) := by decide +kernel
theorem dX6_stop_69 : decode cX6_stop 69 = .ok (.istore 5, 2) := by decide +kernel
theorem dX6_stop_71 : decode cX6_stop 71 = .ok (.iload 5, 2) := by decide +kernel
theorem dX6_stop_73 : decode cX6_stop 73 = .ok (.ifCond .eq 13, 3) := by decide +kernel
theorem dX6_stop_76 : decode cX6_stop 76 = .ok (.aload_n 0, 1) := by decide +kernel
theorem dX6_stop_77 : decode cX6_stop 77 = .ok (.bipush 52, 2) := by decide +kernel
theorem dX6_stop_79 : decode cX6_stop 79 = .ok (.iconst 1, 1) := by decide +kernel
theorem dX6_stop_80 : decode cX6_stop 80 = .ok (.invokevirtual 82, 3) := by decide +kernel
theorem dX6_stop_83 : decode cX6_stop 83 = .ok (.goto 4, 3) := by decide +kernel
theorem dX6_stop_86 : decode cX6_stop 86 = .ok (.iload_n 2, 1) := by decide +kernel
theorem dX6_stop_87 : decode cX6_stop 87 = .ok (.istore 6, 2) := by decide +kernel
theorem dX6_stop_89 : decode cX6_stop 89 = .ok (.iload 6, 2) := by decide +kernel
theorem dX6_stop_91 : decode cX6_stop 91 = .ok (.iload_n 2, 1) := by decide +kernel
theorem dX6_stop_92 : decode cX6_stop 92 = .ok (.if_icmp .ge 10, 3) := by decide +kernel
theorem dX6_stop_95 : decode cX6_stop 95 = .ok (.iload 4, 2) := by decide +kernel
theorem dX6_stop_97 : decode cX6_stop 97 = .ok (.iconst 1, 1) := by decide +kernel
theorem dX6_stop_98 : decode cX6_stop 98 = .ok (.iadd, 1) := by decide +kernel
theorem dX6_stop_99 : decode cX6_stop 99 = .ok (.goto 4, 3) := by decide +kernel
theorem dX6_stop_102 : decode cX6_stop 102 = .ok (.iload_n 3, 1) := by decide +kernel
theorem dX6_stop_103 : decode cX6_stop 103 = .ok (.istore_n 3, 1) := by decide +kernel
theorem dX6_stop_104 : decode cX6_stop 104 = .ok (.iload 6, 2) := by decide +kernel
theorem dX6_stop_106 : decode cX6_stop 106 = .ok (.iload_n 2, 1) := by decide +kernel
theorem dX6_stop_107 : decode cX6_stop 107 = .ok (.if_icmp .ge 8, 3) := by decide +kernel
theorem dX6_stop_110 : decode cX6_stop 110 = .ok (.iload 6, 2) := by decide +kernel
theorem dX6_stop_112 : decode cX6_stop 112 = .ok (.goto 4, 3) := by decide +kernel
theorem dX6_stop_115 : decode cX6_stop 115 = .ok (.iload_n 2, 1) := by decide +kernel
theorem dX6_stop_116 : decode cX6_stop 116 = .ok (.istore_n 2, 1) := by decide +kernel
theorem dX6_stop_117 : decode cX6_stop 117 = .ok (.iinc 4 1, 3) := by decide +kernel
theorem dX6_stop_120 : decode cX6_stop 120 = .ok (.goto (-73), 3) := by decide +kernel
theorem dX6_stop_123 : decode cX6_stop 123 = .ok (.iload_n 1, 1) := by decide +kernel
theorem dX6_stop_124 : decode cX6_stop 124 = .ok (.ifCond .ne 7, 3) := by decide +kernel
theorem dX6_stop_127 : decode cX6_stop 127 = .ok (.iload_n 2, 1) := by decide +kernel
theorem dX6_stop_128 : decode cX6_stop 128 = .ok (.goto 4, 3) := by decide +kernel
theorem dX6_stop_131 : decode cX6_stop 131 = .ok (.iload_n 3, 1) := by decide +kernel
theorem dX6_stop_132 : decode cX6_stop 132 = .ok (.ireturn, 1) := by decide +kernel
theorem dX6_write_0 : decode cX6_write 0 = .ok (.aload_n 0, 1) := by decide +kernel
theorem dX6_write_1 : decode cX6_write 1 = .ok (.iconst 0, 1) := by decide +kernel
theorem dX6_write_2 : decode cX6_write 2 = .ok (.iload_n 1, 1) := by decide +kernel
theorem dX6_write_3 : decode cX6_write 3 = .ok (.invokevirtual 70, 3) := by decide +kernel
theorem dX6_write_6 : decode cX6_write 6 = .ok (.iconst (-1), 1) := by decide +kernel
theorem dX6_write_7 : decode cX6_write 7 = .ok (.if_icmp .ne 6, 3) := by decide +kernel
theorem dX6_write_10 : decode cX6_write 10 = .ok (.ldc 137, 2) := by decide +kernel
theorem dX6_write_12 : decode cX6_write 12 = .ok (.ireturn, 1) := by decide +kernel
theorem dX6_write_13 : decode cX6_write 13 = .ok (.aload_n 0, 1) := by decide +kernel
theorem dX6_write_14 : decode cX6_write 14 = .ok (.getfield 108, 3) := by decide +kernel
theorem dX6_write_17 : decode cX6_write 17 = .ok (.bipush 20, 2) := by decide +kernel
theorem dX6_write_19 : decode cX6_write 19 = .ok (.if_icmp .ne 6, 3) := by decide +kernel
theorem dX6_write_22 : decode cX6_write 22 = .ok (.ldc 159, 2) := by decide +kernel
theorem dX6_write_24 : decode cX6_write 24 = .ok (.ireturn, 1) := by decide +kernel
theorem dX6_write_25 : decode cX6_write 25 = .ok (.aload_n 0, 1) := by decide +kernel
theorem dX6_write_26 : decode cX6_write 26 = .ok (.getfield 20, 3) := by decide +kernel
theorem dX6_write_29 : decode cX6_write 29 = .ok (.aload_n 0, 1) := by decide +kernel
theorem dX6_write_30 : decode cX6_write 30 = .ok (.getfield 108, 3) := by decide +kernel
theorem dX6_write_33 : decode cX6_write 33 = .ok (.iload_n 1, 1) := by decide +kernel
theorem dX6_write_34 : decode cX6_write 34 = .ok (.iastore, 1) := by decide +kernel
theorem dX6_write_35 : decode cX6_write 35 = .ok (.aload_n 0, 1) := by decide +kernel
theorem dX6_write_36 : decode cX6_write 36 = .ok (.getfield 23, 3) := by decide +kernel
theorem dX6_write_39 : decode cX6_write 39 = .ok (.aload_n 0, 1) := by decide +kernel
theorem dX6_write_40 : decode cX6_write 40 = .ok (.getfield 108, 3) := by decide +kernel
theorem dX6_write_43 : decode cX6_write 43 = .ok (.iload_n 2, 1) := by decide +kernel
theorem dX6_write_44 : decode cX6_write 44 = .ok (.bastore, 1) := by decide +kernel
theorem dX6_write_45 : decode cX6_write 45 = .ok (.aload_n 0, 1) := by decide +kernel
theorem dX6_write_46 : decode cX6_write 46 = .ok (.dup, 1) := by decide +kernel
theorem dX6_write_47 : decode cX6_write 47 = .ok (.getfield 108, 3) := by decide +kernel
theorem dX6_write_50 : decode cX6_write 50 = .ok (.iconst 1, 1) := by decide +kernel
theorem dX6_write_51 : decode cX6_write 51 = .ok (.iadd, 1) := by decide +kernel
theorem dX6_write_52 : decode cX6_write 52 = .ok (.putfield 108, 3) := by decide +kernel
theorem dX6_write_55 : decode cX6_write 55 = .ok (.aload_n 0, 1) := by decide +kernel
theorem dX6_write_56 : decode cX6_write 56 = .ok (.getfield 108, 3) := by decide +kernel
theorem dX6_write_59 : decode cX6_write 59 = .ok (.ireturn, 1) := by decide +kernel
theorem dX6_tear_0 : decode cX6_tear 0 = .ok (.aload_n 0, 1) := by decide +kernel
theorem dX6_tear_1 : decode cX6_tear 1 = .ok (.getfield 108, 3) := by decide +kernel
theorem dX6_tear_4 : decode cX6_tear 4 = .ok (.istore_n 1, 1) := by decide +kernel
theorem dX6_tear_5 : decode cX6_tear 5 = .ok (.aload_n 0, 1) := by decide +kernel
theorem dX6_tear_6 : decode cX6_tear 6 = .ok (.iconst 0, 1) := by decide +kernel
theorem dX6_tear_7 : decode cX6_tear 7 = .ok (.putfield 108, 3) := by decide +kernel
theorem dX6_tear_10 : decode cX6_tear 10 = .ok (.iload_n 1, 1) := by decide +kernel
theorem dX6_tear_11 : decode cX6_tear 11 = .ok (.ireturn, 1) := by decide +kernel
theorem dX6_seed_0 : decode cX6_seed 0 = .ok (.iload_n 1, 1) := by decide +kernel
theorem dX6_seed_1 : decode cX6_seed 1 = .ok (.ifCond .ge 6, 3) := by decide +kernel
theorem dX6_seed_4 : decode cX6_seed 4 = .ok (.ldc 132, 2) := by decide +kernel
theorem dX6_seed_6 : decode cX6_seed 6 = .ok (.ireturn, 1) := by decide +kernel
theorem dX6_seed_7 : decode cX6_seed 7 = .ok (.aload_n 0, 1) := by decide +kernel
theorem dX6_seed_8 : decode cX6_seed 8 = .ok (.getfield 172, 3) := by decide +kernel
theorem dX6_seed_11 : decode cX6_seed 11 = .ok (.istore_n 2, 1) := by decide +kernel
theorem dX6_seed_12 : decode cX6_seed 12 = .ok (.aload_n 0, 1) := by decide +kernel
theorem dX6_seed_13 : decode cX6_seed 13 = .ok (.iload_n 1, 1) := by decide +kernel
theorem dX6_seed_14 : decode cX6_seed 14 = .ok (.putfield 172, 3) := by decide +kernel
theorem dX6_seed_17 : decode cX6_seed 17 = .ok (.iload_n 2, 1) := by decide +kernel
theorem dX6_seed_18 : decode cX6_seed 18 = .ok (.ireturn, 1) := by decide +kernel
theorem dX6_keep_0 : decode cX6_keep 0 = .ok (.iload_n 1, 1) := by decide +kernel
theorem dX6_keep_1 : decode cX6_keep 1 = .ok (.i2l, 1) := by decide +kernel
theorem dX6_keep_2 : decode cX6_keep 2 = .ok (.lconst 0, 1) := by decide +kernel
theorem dX6_keep_3 : decode cX6_keep 3 = .ok (.lconst 1, 1) := by decide +kernel
theorem dX6_keep_4 : decode cX6_keep 4 = .ok (.invokestatic 50, 3) := by decide +kernel
theorem dX6_keep_7 : decode cX6_keep 7 = .ok (.ifCond .ne 6, 3) := by decide +kernel
theorem dX6_keep_10 : decode cX6_keep 10 = .ok (.ldc 137, 2) := by decide +kernel
theorem dX6_keep_12 : decode cX6_keep 12 = .ok (.ireturn, 1) := by decide +kernel
theorem dX6_keep_13 : decode cX6_keep 13 = .ok (.aload_n 0, 1) := by decide +kernel
theorem dX6_keep_14 : decode cX6_keep 14 = .ok (.iconst 0, 1) := by decide +kernel
theorem dX6_keep_15 : decode cX6_keep 15 = .ok (.sipush 156, 3) := by decide +kernel
theorem dX6_keep_18 : decode cX6_keep 18 = .ok (.bipush 52, 2) := by decide +kernel
theorem dX6_keep_20 : decode cX6_keep 20 = .ok (.iload_n 1, 1) := by decide +kernel
theorem dX6_keep_21 : decode cX6_keep 21 = .ok (.imul, 1) := by decide +kernel
theorem dX6_keep_22 : decode cX6_keep 22 = .ok (.iadd, 1) := by decide +kernel
theorem dX6_keep_23 : decode cX6_keep 23 = .ok (.invokevirtual 43, 3) := by decide +kernel
theorem dX6_keep_26 : decode cX6_keep 26 = .ok (.aload_n 0, 1) := by decide +kernel
theorem dX6_keep_27 : decode cX6_keep 27 = .ok (.getfield 13, 3) := by decide +kernel
theorem dX6_keep_30 : decode cX6_keep 30 = .ok (.iload_n 1, 1) := by decide +kernel
theorem dX6_keep_31 : decode cX6_keep 31 = .ok (.aload_n 0, 1) := by decide +kernel
theorem dX6_keep_32 : decode cX6_keep 32 = .ok (.getfield 172, 3) := by decide +kernel
theorem dX6_keep_35 : decode cX6_keep 35 = .ok (.iastore, 1) := by decide +kernel
theorem dX6_keep_36 : decode cX6_keep 36 = .ok (.aload_n 0, 1) := by decide +kernel
theorem dX6_keep_37 : decode cX6_keep 37 = .ok (.getfield 16, 3) := by decide +kernel
theorem dX6_keep_40 : decode cX6_keep 40 = .ok (.iload_n 1, 1) := by decide +kernel
theorem dX6_keep_41 : decode cX6_keep 41 = .ok (.iconst 1, 1) := by decide +kernel
theorem dX6_keep_42 : decode cX6_keep 42 = .ok (.bastore, 1) := by decide +kernel
theorem dX6_keep_43 : decode cX6_keep 43 = .ok (.aload_n 0, 1) := by decide +kernel
theorem dX6_keep_44 : decode cX6_keep 44 = .ok (.iconst 0, 1) := by decide +kernel
theorem dX6_keep_45 : decode cX6_keep 45 = .ok (.putfield 39, 3) := by decide +kernel
theorem dX6_keep_48 : decode cX6_keep 48 = .ok (.iconst 1, 1) := by decide +kernel
theorem dX6_keep_49 : decode cX6_keep 49 = .ok (.ireturn, 1) := by decide +kernel
theorem dX6_goBack_0 : decode cX6_goBack 0 = .ok (.iload_n 1, 1) := by decide +kernel
theorem dX6_goBack_1 : decode cX6_goBack 1 = .ok (.i2l, 1) := by decide +kernel
theorem dX6_goBack_2 : decode cX6_goBack 2 = .ok (.lconst 0, 1) := by decide +kernel
theorem dX6_goBack_3 : decode cX6_goBack 3 = .ok (.lconst 1, 1) := by decide +kernel
theorem dX6_goBack_4 : decode cX6_goBack 4 = .ok (.invokestatic 50, 3) := by decide +kernel
theorem dX6_goBack_7 : decode cX6_goBack 7 = .ok (.ifCond .ne 6, 3) := by decide +kernel
theorem dX6_goBack_10 : decode cX6_goBack 10 = .ok (.ldc 137, 2) := by decide +kernel
theorem dX6_goBack_12 : decode cX6_goBack 12 = .ok (.ireturn, 1) := by decide +kernel
theorem dX6_goBack_13 : decode cX6_goBack 13 = .ok (.aload_n 0, 1) := by decide +kernel
theorem dX6_goBack_14 : decode cX6_goBack 14 = .ok (.getfield 16, 3) := by decide +kernel
theorem dX6_goBack_17 : decode cX6_goBack 17 = .ok (.iload_n 1, 1) := by decide +kernel
theorem dX6_goBack_18 : decode cX6_goBack 18 = .ok (.baload, 1) := by decide +kernel
theorem dX6_goBack_19 : decode cX6_goBack 19 = .ok (.ifCond .ne 6, 3) := by decide +kernel
theorem dX6_goBack_22 : decode cX6_goBack 22 = .ok (.ldc 165, 2) := by decide +kernel
theorem dX6_goBack_24 : decode cX6_goBack 24 = .ok (.ireturn, 1) := by decide +kernel
theorem dX6_goBack_25 : decode cX6_goBack 25 = .ok (.aload_n 0, 1) := by decide +kernel
theorem dX6_goBack_26 : decode cX6_goBack 26 = .ok (.sipush 156, 3) := by decide +kernel
theorem dX6_goBack_29 : decode cX6_goBack 29 = .ok (.bipush 52, 2) := by decide +kernel
theorem dX6_goBack_31 : decode cX6_goBack 31 = .ok (.iload_n 1, 1) := by decide +kernel
theorem dX6_goBack_32 : decode cX6_goBack 32 = .ok (.imul, 1) := by decide +kernel
theorem dX6_goBack_33 : decode cX6_goBack 33 = .ok (.iadd, 1) := by decide +kernel
theorem dX6_goBack_34 : decode cX6_goBack 34 = .ok (.iconst 0, 1) := by decide +kernel
theorem dX6_goBack_35 : decode cX6_goBack 35 = .ok (.invokevirtual 43, 3) := by decide +kernel
theorem dX6_goBack_38 : decode cX6_goBack 38 = .ok (.aload_n 0, 1) := by decide +kernel
theorem dX6_goBack_39 : decode cX6_goBack 39 = .ok (.aload_n 0, 1) := by decide +kernel
theorem dX6_goBack_40 : decode cX6_goBack 40 = .ok (.getfield 13, 3) := by decide +kernel
theorem dX6_goBack_43 : decode cX6_goBack 43 = .ok (.iload_n 1, 1) := by decide +kernel
theorem dX6_goBack_44 : decode cX6_goBack 44 = .ok (.iaload, 1) := by decide +kernel
theorem dX6_goBack_45 : decode cX6_goBack 45 = .ok (.putfield 172, 3) := by decide +kernel
theorem dX6_goBack_48 : decode cX6_goBack 48 = .ok (.aload_n 0, 1) := by decide +kernel
theorem dX6_goBack_49 : decode cX6_goBack 49 = .ok (.iconst 0, 1) := by decide +kernel
theorem dX6_goBack_50 : decode cX6_goBack 50 = .ok (.putfield 39, 3) := by decide +kernel
theorem dX6_goBack_53 : decode cX6_goBack 53 = .ok (.iconst 1, 1) := by decide +kernel
theorem dX6_goBack_54 : decode cX6_goBack 54 = .ok (.ireturn, 1) := by decide +kernel
