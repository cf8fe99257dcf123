/-! Which words stand where -/
theorem lw_at {w : Cond} (i : Nat) (h : lw_tbl[i]? = some w) (hg : goodWord w = true) : w ∈ lw_ok := List.mem_filter.mpr ⟨List.mem_of_getElem? h, hg⟩
theorem cl_RL_7 : Cond.classLink RL 7 RX5 ∈ lw_ok := lw_at 63 (by decide +kernel) rfl
theorem iz_RX5 : Cond.instantiable RX5 9 ∈ lw_ok := lw_at 64 (by decide +kernel) rfl
theorem cl_RX5_7 : Cond.classLink RX5 7 RX4 ∈ lw_ok := lw_at 71 (by decide +kernel) rfl
theorem iz_RX4 : Cond.instantiable RX4 13 ∈ lw_ok := lw_at 72 (by decide +kernel) rfl
theorem fl_RX4_41 : pFl RX4 41 4 0 := ⟨_, _, rfl, by decide, rfl, lw_at 87 (by decide +kernel) rfl⟩
theorem fl_RX5_50 : pFl RX5 50 4 0 := ⟨_, _, rfl, by decide, rfl, lw_at 88 (by decide +kernel) rfl⟩
theorem fl_RX3_82 : pFl RX3 82 4 0 := ⟨_, _, rfl, by decide, rfl, lw_at 89 (by decide +kernel) rfl⟩
theorem fl_RX4_44 : pFl RX4 44 4 1 := ⟨_, _, rfl, by decide, rfl, lw_at 90 (by decide +kernel) rfl⟩
theorem fl_RX5_54 : pFl RX5 54 4 1 := ⟨_, _, rfl, by decide, rfl, lw_at 91 (by decide +kernel) rfl⟩
theorem fl_RX3_86 : pFl RX3 86 4 1 := ⟨_, _, rfl, by decide, rfl, lw_at 92 (by decide +kernel) rfl⟩
theorem fl_RX4_53 : pFl RX4 53 4 2 := ⟨_, _, rfl, by decide, rfl, lw_at 93 (by decide +kernel) rfl⟩
theorem fl_RX3_90 : pFl RX3 90 4 2 := ⟨_, _, rfl, by decide, rfl, lw_at 94 (by decide +kernel) rfl⟩
theorem fl_RX5_288 : pFl RX5 288 4 2 := ⟨_, _, rfl, by decide, rfl, lw_at 95 (by decide +kernel) rfl⟩
theorem fl_RX4_56 : pFl RX4 56 4 3 := ⟨_, _, rfl, by decide, rfl, lw_at 96 (by decide +kernel) rfl⟩
theorem fl_RX5_57 : pFl RX5 57 4 3 := ⟨_, _, rfl, by decide, rfl, lw_at 97 (by decide +kernel) rfl⟩
theorem fl_RX3_66 : pFl RX3 66 4 3 := ⟨_, _, rfl, by decide, rfl, lw_at 98 (by decide +kernel) rfl⟩
theorem fl_RX4_9 : pFl RX4 9 4 4 := ⟨_, _, rfl, by decide, rfl, lw_at 99 (by decide +kernel) rfl⟩
theorem fl_RX5_73 : pFl RX5 73 4 4 := ⟨_, _, rfl, by decide, rfl, lw_at 100 (by decide +kernel) rfl⟩
theorem fl_RX3_94 : pFl RX3 94 4 4 := ⟨_, _, rfl, by decide, rfl, lw_at 101 (by decide +kernel) rfl⟩
theorem fl_RX4_15 : pFl RX4 15 4 5 := ⟨_, _, rfl, by decide, rfl, lw_at 102 (by decide +kernel) rfl⟩
theorem fl_RX5_76 : pFl RX5 76 4 5 := ⟨_, _, rfl, by decide, rfl, lw_at 103 (by decide +kernel) rfl⟩
theorem fl_RX3_98 : pFl RX3 98 4 5 := ⟨_, _, rfl, by decide, rfl, lw_at 104 (by decide +kernel) rfl⟩
theorem fl_RX4_18 : pFl RX4 18 4 6 := ⟨_, _, rfl, by decide, rfl, lw_at 105 (by decide +kernel) rfl⟩
theorem fl_RX5_79 : pFl RX5 79 4 6 := ⟨_, _, rfl, by decide, rfl, lw_at 106 (by decide +kernel) rfl⟩
theorem fl_RX3_102 : pFl RX3 102 4 6 := ⟨_, _, rfl, by decide, rfl, lw_at 107 (by decide +kernel) rfl⟩
theorem fl_RX4_59 : pFl RX4 59 4 7 := ⟨_, _, rfl, by decide, rfl, lw_at 108 (by decide +kernel) rfl⟩
theorem fl_RX5_60 : pFl RX5 60 4 7 := ⟨_, _, rfl, by decide, rfl, lw_at 109 (by decide +kernel) rfl⟩
theorem fl_RX3_125 : pFl RX3 125 4 7 := ⟨_, _, rfl, by decide, rfl, lw_at 110 (by decide +kernel) rfl⟩
theorem fl_RX4_21 : pFl RX4 21 4 8 := ⟨_, _, rfl, by decide, rfl, lw_at 111 (by decide +kernel) rfl⟩
theorem fl_RX5_123 : pFl RX5 123 4 8 := ⟨_, _, rfl, by decide, rfl, lw_at 112 (by decide +kernel) rfl⟩
theorem fl_RX3_109 : pFl RX3 109 4 8 := ⟨_, _, rfl, by decide, rfl, lw_at 113 (by decide +kernel) rfl⟩
theorem fl_RX4_25 : pFl RX4 25 4 9 := ⟨_, _, rfl, by decide, rfl, lw_at 114 (by decide +kernel) rfl⟩
theorem fl_RX5_127 : pFl RX5 127 4 9 := ⟨_, _, rfl, by decide, rfl, lw_at 115 (by decide +kernel) rfl⟩
theorem fl_RX4_28 : pFl RX4 28 4 10 := ⟨_, _, rfl, by decide, rfl, lw_at 116 (by decide +kernel) rfl⟩
theorem fl_RX5_130 : pFl RX5 130 4 10 := ⟨_, _, rfl, by decide, rfl, lw_at 117 (by decide +kernel) rfl⟩
theorem fl_RX3_114 : pFl RX3 114 4 10 := ⟨_, _, rfl, by decide, rfl, lw_at 118 (by decide +kernel) rfl⟩
theorem fl_RX4_31 : pFl RX4 31 4 11 := ⟨_, _, rfl, by decide, rfl, lw_at 119 (by decide +kernel) rfl⟩
theorem fl_RX5_155 : pFl RX5 155 4 11 := ⟨_, _, rfl, by decide, rfl, lw_at 120 (by decide +kernel) rfl⟩
theorem fl_RX3_128 : pFl RX3 128 4 11 := ⟨_, _, rfl, by decide, rfl, lw_at 121 (by decide +kernel) rfl⟩
theorem fl_RX4_34 : pFl RX4 34 4 12 := ⟨_, _, rfl, by decide, rfl, lw_at 122 (by decide +kernel) rfl⟩
theorem fl_RX5_158 : pFl RX5 158 4 12 := ⟨_, _, rfl, by decide, rfl, lw_at 123 (by decide +kernel) rfl⟩
theorem cl_RX5_19 : Cond.classLink RX5 19 RX3 ∈ lw_ok := lw_at 152 (by decide +kernel) rfl
theorem iz_RX3 : Cond.instantiable RX3 18 ∈ lw_ok := lw_at 153 (by decide +kernel) rfl
theorem fl_RX3_31 : pFl RX3 31 3 0 := ⟨_, _, rfl, by decide, rfl, lw_at 158 (by decide +kernel) rfl⟩
theorem fl_RX5_221 : pFl RX5 221 3 0 := ⟨_, _, rfl, by decide, rfl, lw_at 159 (by decide +kernel) rfl⟩
theorem fl_RX3_42 : pFl RX3 42 3 1 := ⟨_, _, rfl, by decide, rfl, lw_at 160 (by decide +kernel) rfl⟩
theorem fl_RX5_228 : pFl RX5 228 3 1 := ⟨_, _, rfl, by decide, rfl, lw_at 161 (by decide +kernel) rfl⟩
theorem fl_RX3_35 : pFl RX3 35 3 2 := ⟨_, _, rfl, by decide, rfl, lw_at 162 (by decide +kernel) rfl⟩
theorem fl_RX5_266 : pFl RX5 266 3 2 := ⟨_, _, rfl, by decide, rfl, lw_at 163 (by decide +kernel) rfl⟩
theorem fl_RX3_39 : pFl RX3 39 3 3 := ⟨_, _, rfl, by decide, rfl, lw_at 164 (by decide +kernel) rfl⟩
theorem fl_RX3_85 : pFl RX3 85 3 4 := ⟨_, _, rfl, by decide, rfl, lw_at 165 (by decide +kernel) rfl⟩
theorem fl_RX3_89 : pFl RX3 89 3 5 := ⟨_, _, rfl, by decide, rfl, lw_at 166 (by decide +kernel) rfl⟩
theorem fl_RX3_93 : pFl RX3 93 3 6 := ⟨_, _, rfl, by decide, rfl, lw_at 167 (by decide +kernel) rfl⟩
theorem fl_RX3_97 : pFl RX3 97 3 7 := ⟨_, _, rfl, by decide, rfl, lw_at 168 (by decide +kernel) rfl⟩
theorem fl_RX3_101 : pFl RX3 101 3 8 := ⟨_, _, rfl, by decide, rfl, lw_at 169 (by decide +kernel) rfl⟩
theorem fl_RX3_105 : pFl RX3 105 3 9 := ⟨_, _, rfl, by decide, rfl, lw_at 170 (by decide +kernel) rfl⟩
theorem fl_RX3_59 : pFl RX3 59 3 10 := ⟨_, _, rfl, by decide, rfl, lw_at 171 (by decide +kernel) rfl⟩
theorem fl_RX3_106 : pFl RX3 106 3 11 := ⟨_, _, rfl, by decide, rfl, lw_at 172 (by decide +kernel) rfl⟩
theorem fl_RX3_56 : pFl RX3 56 3 12 := ⟨_, _, rfl, by decide, rfl, lw_at 173 (by decide +kernel) rfl⟩
theorem fl_RX3_9 : pFl RX3 9 3 13 := ⟨_, _, rfl, by decide, rfl, lw_at 174 (by decide +kernel) rfl⟩
theorem fl_RX3_15 : pFl RX3 15 3 14 := ⟨_, _, rfl, by decide, rfl, lw_at 175 (by decide +kernel) rfl⟩
theorem fl_RX3_18 : pFl RX3 18 3 15 := ⟨_, _, rfl, by decide, rfl, lw_at 176 (by decide +kernel) rfl⟩
theorem fl_RX3_21 : pFl RX3 21 3 16 := ⟨_, _, rfl, by decide, rfl, lw_at 177 (by decide +kernel) rfl⟩
theorem fl_RX3_24 : pFl RX3 24 3 17 := ⟨_, _, rfl, by decide, rfl, lw_at 178 (by decide +kernel) rfl⟩
theorem cl_RX5_29 : Cond.classLink RX5 29 RX1 ∈ lw_ok := lw_at 216 (by decide +kernel) rfl
theorem iz_RX1 : Cond.instantiable RX1 3 ∈ lw_ok := lw_at 217 (by decide +kernel) rfl
theorem cl_RX1_9 : Cond.classLink RX1 9 RX4 ∈ lw_ok := lw_at 222 (by decide +kernel) rfl
theorem fl_RX1_26 : pFl RX1 26 1 0 := ⟨_, _, rfl, by decide, rfl, lw_at 225 (by decide +kernel) rfl⟩
theorem fl_RX5_114 : pFl RX5 114 1 0 := ⟨_, _, rfl, by decide, rfl, lw_at 226 (by decide +kernel) rfl⟩
theorem fl_RX1_18 : pFl RX1 18 1 1 := ⟨_, _, rfl, by decide, rfl, lw_at 227 (by decide +kernel) rfl⟩
theorem fl_RX1_11 : pFl RX1 11 1 2 := ⟨_, _, rfl, by decide, rfl, lw_at 228 (by decide +kernel) rfl⟩
theorem cl_RX5_36 : Cond.classLink RX5 36 RX0 ∈ lw_ok := lw_at 236 (by decide +kernel) rfl
theorem iz_RX0 : Cond.instantiable RX0 3 ∈ lw_ok := lw_at 237 (by decide +kernel) rfl
theorem fl_RX0_19 : pFl RX0 19 0 0 := ⟨_, _, rfl, by decide, rfl, lw_at 242 (by decide +kernel) rfl⟩
theorem fl_RX5_107 : pFl RX5 107 0 0 := ⟨_, _, rfl, by decide, rfl, lw_at 243 (by decide +kernel) rfl⟩
theorem fl_RX0_9 : pFl RX0 9 0 1 := ⟨_, _, rfl, by decide, rfl, lw_at 244 (by decide +kernel) rfl⟩
theorem fl_RX0_15 : pFl RX0 15 0 2 := ⟨_, _, rfl, by decide, rfl, lw_at 245 (by decide +kernel) rfl⟩
theorem cl_RX5_43 : Cond.classLink RX5 43 RX2 ∈ lw_ok := lw_at 254 (by decide +kernel) rfl
theorem iz_RX2 : Cond.instantiable RX2 3 ∈ lw_ok := lw_at 256 (by decide +kernel) rfl
theorem cl_RX2_7 : Cond.classLink RX2 7 RX4 ∈ lw_ok := lw_at 261 (by decide +kernel) rfl
theorem fl_RX5_243 : pFl RX5 243 2 0 := ⟨_, _, rfl, by decide, rfl, lw_at 263 (by decide +kernel) rfl⟩
theorem fl_RX5_246 : pFl RX5 246 2 1 := ⟨_, _, rfl, by decide, rfl, lw_at 264 (by decide +kernel) rfl⟩
theorem fl_RX2_10 : pFl RX2 10 2 2 := ⟨_, _, rfl, by decide, rfl, lw_at 265 (by decide +kernel) rfl⟩
theorem fl_RX5_249 : pFl RX5 249 2 2 := ⟨_, _, rfl, by decide, rfl, lw_at 266 (by decide +kernel) rfl⟩
theorem fl_RX5_10 : pFl RX5 10 5 0 := ⟨_, _, rfl, by decide, rfl, lw_at 274 (by decide +kernel) rfl⟩
theorem fl_RX5_16 : pFl RX5 16 5 1 := ⟨_, _, rfl, by decide, rfl, lw_at 275 (by decide +kernel) rfl⟩
theorem fl_RX5_22 : pFl RX5 22 5 2 := ⟨_, _, rfl, by decide, rfl, lw_at 276 (by decide +kernel) rfl⟩
theorem fl_RX5_26 : pFl RX5 26 5 3 := ⟨_, _, rfl, by decide, rfl, lw_at 277 (by decide +kernel) rfl⟩
theorem fl_RX5_32 : pFl RX5 32 5 4 := ⟨_, _, rfl, by decide, rfl, lw_at 278 (by decide +kernel) rfl⟩
theorem fl_RX5_39 : pFl RX5 39 5 5 := ⟨_, _, rfl, by decide, rfl, lw_at 279 (by decide +kernel) rfl⟩
theorem fl_RX5_45 : pFl RX5 45 5 6 := ⟨_, _, rfl, by decide, rfl, lw_at 280 (by decide +kernel) rfl⟩
theorem fl_RX5_236 : pFl RX5 236 5 7 := ⟨_, _, rfl, by decide, rfl, lw_at 281 (by decide +kernel) rfl⟩
theorem fl_RX5_217 : pFl RX5 217 5 8 := ⟨_, _, rfl, by decide, rfl, lw_at 282 (by decide +kernel) rfl⟩
theorem kc_RX4_127 : Cond.constant RX4 127 (iv (1000000000)) ∈ lw_ok := lw_at 377 (by decide +kernel) rfl
theorem kc_RX5_258 : Cond.constant RX5 258 (iv (1000000000)) ∈ lw_ok := lw_at 390 (by decide +kernel) rfl
theorem kc_RX3_55 : Cond.constant RX3 55 (iv (1000000000)) ∈ lw_ok := lw_at 404 (by decide +kernel) rfl
theorem kc_RX5_117 : Cond.constant RX5 117 (iv (-1000000002)) ∈ lw_ok := lw_at 488 (by decide +kernel) rfl
theorem kc_RX5_122 : Cond.constant RX5 122 (iv (-1000000001)) ∈ lw_ok := lw_at 494 (by decide +kernel) rfl
theorem kc_RJ6_265 : Cond.constant RJ6 265 (iv (1431655765)) ∈ lw_ok := lw_at 545 (by decide +kernel) rfl
theorem kc_RJ6_266 : Cond.constant RJ6 266 (iv (858993459)) ∈ lw_ok := lw_at 546 (by decide +kernel) rfl
theorem kc_RJ6_267 : Cond.constant RJ6 267 (iv (252645135)) ∈ lw_ok := lw_at 547 (by decide +kernel) rfl
theorem kc_RX5_182 : Cond.constant RX5 182 (iv (-1000000004)) ∈ lw_ok := lw_at 567 (by decide +kernel) rfl
theorem kc_RX5_190 : Cond.constant RX5 190 (iv (-1000000003)) ∈ lw_ok := lw_at 581 (by decide +kernel) rfl
theorem kl_RX5_278 : Cond.constantLong RX5 278 (jv (1103515245)) ∈ lw_ok := lw_at 635 (by decide +kernel) rfl
theorem kl_RX5_280 : Cond.constantLong RX5 280 (jv (12345)) ∈ lw_ok := lw_at 636 (by decide +kernel) rfl
theorem kl_RX5_282 : Cond.constantLong RX5 282 (jv (2147483647)) ∈ lw_ok := lw_at 637 (by decide +kernel) rfl
theorem kc_RX5_284 : Cond.constant RX5 284 (iv (65536)) ∈ lw_ok := lw_at 638 (by decide +kernel) rfl
theorem cl_RL_10 : Cond.classLink RL 10 RX6 ∈ lw_ok := lw_at 693 (by decide +kernel) rfl
theorem iz_RX6 : Cond.instantiable RX6 14 ∈ lw_ok := lw_at 694 (by decide +kernel) rfl
theorem fl_RX6_7 : pFl RX6 7 6 0 := ⟨_, _, rfl, by decide, rfl, lw_at 703 (by decide +kernel) rfl⟩
theorem fl_RX6_13 : pFl RX6 13 6 1 := ⟨_, _, rfl, by decide, rfl, lw_at 704 (by decide +kernel) rfl⟩
theorem fl_RX6_16 : pFl RX6 16 6 2 := ⟨_, _, rfl, by decide, rfl, lw_at 705 (by decide +kernel) rfl⟩
theorem fl_RX6_39 : pFl RX6 39 6 3 := ⟨_, _, rfl, by decide, rfl, lw_at 706 (by decide +kernel) rfl⟩
theorem fl_RX6_172 : pFl RX6 172 6 4 := ⟨_, _, rfl, by decide, rfl, lw_at 707 (by decide +kernel) rfl⟩
theorem fl_RX6_108 : pFl RX6 108 6 5 := ⟨_, _, rfl, by decide, rfl, lw_at 708 (by decide +kernel) rfl⟩
theorem fl_RX6_20 : pFl RX6 20 6 6 := ⟨_, _, rfl, by decide, rfl, lw_at 709 (by decide +kernel) rfl⟩
theorem fl_RX6_23 : pFl RX6 23 6 7 := ⟨_, _, rfl, by decide, rfl, lw_at 710 (by decide +kernel) rfl⟩
theorem fl_RX6_86 : pFl RX6 86 6 8 := ⟨_, _, rfl, by decide, rfl, lw_at 711 (by decide +kernel) rfl⟩
theorem fl_RX6_89 : pFl RX6 89 6 9 := ⟨_, _, rfl, by decide, rfl, lw_at 712 (by decide +kernel) rfl⟩
theorem fl_RX6_92 : pFl RX6 92 6 10 := ⟨_, _, rfl, by decide, rfl, lw_at 713 (by decide +kernel) rfl⟩
theorem fl_RX6_26 : pFl RX6 26 6 11 := ⟨_, _, rfl, by decide, rfl, lw_at 714 (by decide +kernel) rfl⟩
theorem fl_RX6_29 : pFl RX6 29 6 12 := ⟨_, _, rfl, by decide, rfl, lw_at 715 (by decide +kernel) rfl⟩
theorem fl_RX6_32 : pFl RX6 32 6 13 := ⟨_, _, rfl, by decide, rfl, lw_at 716 (by decide +kernel) rfl⟩
theorem kc_RX6_66 : Cond.constant RX6 66 (iv (99999)) ∈ lw_ok := lw_at 778 (by decide +kernel) rfl
theorem kc_RX6_132 : Cond.constant RX6 132 (iv (-1000000002)) ∈ lw_ok := lw_at 842 (by decide +kernel) rfl
theorem kc_RX6_137 : Cond.constant RX6 137 (iv (-1000000001)) ∈ lw_ok := lw_at 851 (by decide +kernel) rfl
theorem kl_RX6_147 : Cond.constantLong RX6 147 (jv (3)) ∈ lw_ok := lw_at 876 (by decide +kernel) rfl
theorem kl_RX6_155 : Cond.constantLong RX6 155 (jv (99)) ∈ lw_ok := lw_at 888 (by decide +kernel) rfl
theorem kl_RX6_157 : Cond.constantLong RX6 157 (jv (4)) ∈ lw_ok := lw_at 889 (by decide +kernel) rfl
theorem kc_RX6_159 : Cond.constant RX6 159 (iv (-1000000004)) ∈ lw_ok := lw_at 890 (by decide +kernel) rfl
theorem kl_RX6_163 : Cond.constantLong RX6 163 (jv (-99)) ∈ lw_ok := lw_at 899 (by decide +kernel) rfl
theorem kc_RX6_165 : Cond.constant RX6 165 (iv (-1000000003)) ∈ lw_ok := lw_at 900 (by decide +kernel) rfl
theorem kl_RX6_166 : Cond.constantLong RX6 166 (jv (40)) ∈ lw_ok := lw_at 913 (by decide +kernel) rfl
theorem kl_RX6_168 : Cond.constantLong RX6 168 (jv (2)) ∈ lw_ok := lw_at 914 (by decide +kernel) rfl
theorem kl_RX6_170 : Cond.constantLong RX6 170 (jv (9)) ∈ lw_ok := lw_at 915 (by decide +kernel) rfl
theorem kl_RX6_185 : Cond.constantLong RX6 185 (jv (20)) ∈ lw_ok := lw_at 932 (by decide +kernel) rfl
theorem kl_RX6_175 : Cond.constantLong RX6 175 (jv (1103515245)) ∈ lw_ok := lw_at 941 (by decide +kernel) rfl
theorem kl_RX6_177 : Cond.constantLong RX6 177 (jv (12345)) ∈ lw_ok := lw_at 942 (by decide +kernel) rfl
theorem kl_RX6_179 : Cond.constantLong RX6 179 (jv (2147483648)) ∈ lw_ok := lw_at 943 (by decide +kernel) rfl
theorem kc_RX6_181 : Cond.constant RX6 181 (iv (65536)) ∈ lw_ok := lw_at 944 (by decide +kernel) rfl
theorem it_RL : Cond.initialized RL ∈ lw_ok := lw_at 53 (by decide +kernel) rfl
theorem it_RX5 : Cond.initialized RX5 ∈ lw_ok := lw_at 54 (by decide +kernel) rfl
theorem it_RX4 : Cond.initialized RX4 ∈ lw_ok := lw_at 55 (by decide +kernel) rfl
theorem it_RJ9 : Cond.initialized RJ9 ∈ lw_ok := lw_at 56 (by decide +kernel) rfl
theorem it_RX3 : Cond.initialized RX3 ∈ lw_ok := lw_at 57 (by decide +kernel) rfl
theorem it_RX1 : Cond.initialized RX1 ∈ lw_ok := lw_at 58 (by decide +kernel) rfl
theorem it_RX0 : Cond.initialized RX0 ∈ lw_ok := lw_at 59 (by decide +kernel) rfl
theorem it_RX2 : Cond.initialized RX2 ∈ lw_ok := lw_at 60 (by decide +kernel) rfl
theorem it_RX6 : Cond.initialized RX6 ∈ lw_ok := lw_at 61 (by decide +kernel) rfl
theorem it_RJ6 : Cond.initialized RJ6 ∈ lw_ok := lw_at 62 (by decide +kernel) rfl
theorem cd_X5_init : Cond.code yX5_init cX5_init 2 none ∈ lw_ok := lw_at 67 (by decide +kernel) rfl
theorem bd_X5_init : pBd yX5_init = (164, 1630) := by decide +kernel
theorem pp_X5_init : pPar yX5_init 0 := ⟨by decide +kernel, by decide +kernel, by decide +kernel⟩
theorem im_X5_init : Cond.instanceMethod yX5_init ∈ lw_ok := lw_at 66 (by decide +kernel) rfl
theorem cd_X4_init : Cond.code yX4_init cX4_init 1 none ∈ lw_ok := lw_at 75 (by decide +kernel) rfl
theorem bd_X4_init : pBd yX4_init = (5, 45) := by decide +kernel
theorem pp_X4_init : pPar yX4_init 0 := ⟨by decide +kernel, by decide +kernel, by decide +kernel⟩
theorem im_X4_init : Cond.instanceMethod yX4_init ∈ lw_ok := lw_at 74 (by decide +kernel) rfl
theorem cd_X4_raise : Cond.code yX4_raise cX4_raise 3 none ∈ lw_ok := lw_at 80 (by decide +kernel) rfl
theorem bd_X4_raise : pBd yX4_raise = (0, 0) := by decide +kernel
theorem pp_X4_raise : pPar yX4_raise 2 := ⟨by decide +kernel, by decide +kernel, by decide +kernel⟩
theorem im_X4_raise : Cond.instanceMethod yX4_raise ∈ lw_ok := lw_at 78 (by decide +kernel) rfl
theorem se_X4_raise : Cond.selects RX4 yX4_raise yX4_raise ∈ lw_ok := lw_at 79 (by decide +kernel) rfl
theorem cd_J9_min_7cf53 : Cond.code yJ9_min_7cf53 cJ9_min_7cf53 2 (some .int) ∈ lw_ok := lw_at 83 (by decide +kernel) rfl
theorem bd_J9_min_7cf53 : pBd yJ9_min_7cf53 = (0, 0) := by decide +kernel
theorem pp_J9_min_7cf53 : pPar yJ9_min_7cf53 2 := ⟨by decide +kernel, by decide +kernel, by decide +kernel⟩
theorem sm_J9_min_7cf53 : Cond.static yJ9_min_7cf53 ∈ lw_ok := lw_at 82 (by decide +kernel) rfl
theorem cd_X5_fillRow : Cond.code yX5_fillRow cX5_fillRow 3 none ∈ lw_ok := lw_at 86 (by decide +kernel) rfl
theorem bd_X5_fillRow : pBd yX5_fillRow = (0, 0) := by decide +kernel
theorem pp_X5_fillRow : pPar yX5_fillRow 2 := ⟨by decide +kernel, by decide +kernel, by decide +kernel⟩
theorem sm_X5_fillRow : Cond.static yX5_fillRow ∈ lw_ok := lw_at 85 (by decide +kernel) rfl
theorem cd_X3_init : Cond.code yX3_init cX3_init 1 none ∈ lw_ok := lw_at 156 (by decide +kernel) rfl
theorem bd_X3_init : pBd yX3_init = (5, 64) := by decide +kernel
theorem pp_X3_init : pPar yX3_init 0 := ⟨by decide +kernel, by decide +kernel, by decide +kernel⟩
theorem im_X3_init : Cond.instanceMethod yX3_init ∈ lw_ok := lw_at 155 (by decide +kernel) rfl
theorem cd_X1_init : Cond.code yX1_init cX1_init 2 none ∈ lw_ok := lw_at 220 (by decide +kernel) rfl
theorem bd_X1_init : pBd yX1_init = (121, 1180) := by decide +kernel
theorem pp_X1_init : pPar yX1_init 0 := ⟨by decide +kernel, by decide +kernel, by decide +kernel⟩
theorem im_X1_init : Cond.instanceMethod yX1_init ∈ lw_ok := lw_at 219 (by decide +kernel) rfl
theorem cd_X0_init : Cond.code yX0_init cX0_init 1 none ∈ lw_ok := lw_at 240 (by decide +kernel) rfl
theorem bd_X0_init : pBd yX0_init = (2, 40) := by decide +kernel
theorem pp_X0_init : pPar yX0_init 0 := ⟨by decide +kernel, by decide +kernel, by decide +kernel⟩
theorem im_X0_init : Cond.instanceMethod yX0_init ∈ lw_ok := lw_at 239 (by decide +kernel) rfl
theorem cd_X2_init : Cond.code yX2_init cX2_init 1 none ∈ lw_ok := lw_at 259 (by decide +kernel) rfl
theorem bd_X2_init : pBd yX2_init = (6, 58) := by decide +kernel
theorem pp_X2_init : pPar yX2_init 0 := ⟨by decide +kernel, by decide +kernel, by decide +kernel⟩
theorem im_X2_init : Cond.instanceMethod yX2_init ∈ lw_ok := lw_at 258 (by decide +kernel) rfl
theorem cd_X5_told : Cond.code yX5_told cX5_told 2 (some .int) ∈ lw_ok := lw_at 305 (by decide +kernel) rfl
theorem bd_X5_told : pBd yX5_told = (0, 0) := by decide +kernel
theorem pp_X5_told : pPar yX5_told 1 := ⟨by decide +kernel, by decide +kernel, by decide +kernel⟩
theorem im_X5_told : Cond.instanceMethod yX5_told ∈ lw_ok := lw_at 303 (by decide +kernel) rfl
theorem se_X5_told : Cond.selects RX5 yX5_told yX5_told ∈ lw_ok := lw_at 304 (by decide +kernel) rfl
theorem cd_X4_stock : Cond.code yX4_stock cX4_stock 1 (some .int) ∈ lw_ok := lw_at 309 (by decide +kernel) rfl
theorem bd_X4_stock : pBd yX4_stock = (0, 0) := by decide +kernel
theorem pp_X4_stock : pPar yX4_stock 0 := ⟨by decide +kernel, by decide +kernel, by decide +kernel⟩
theorem im_X4_stock : Cond.instanceMethod yX4_stock ∈ lw_ok := lw_at 307 (by decide +kernel) rfl
theorem se_X4_stock : Cond.selects RX4 yX4_stock yX4_stock ∈ lw_ok := lw_at 308 (by decide +kernel) rfl
theorem cd_X4_broughtBy : Cond.code yX4_broughtBy cX4_broughtBy 4 (some .int) ∈ lw_ok := lw_at 313 (by decide +kernel) rfl
theorem bd_X4_broughtBy : pBd yX4_broughtBy = (0, 0) := by decide +kernel
theorem pp_X4_broughtBy : pPar yX4_broughtBy 1 := ⟨by decide +kernel, by decide +kernel, by decide +kernel⟩
theorem im_X4_broughtBy : Cond.instanceMethod yX4_broughtBy ∈ lw_ok := lw_at 311 (by decide +kernel) rfl
theorem se_X4_broughtBy : Cond.selects RX4 yX4_broughtBy yX4_broughtBy ∈ lw_ok := lw_at 312 (by decide +kernel) rfl
theorem cd_X4_usedLoads : Cond.code yX4_usedLoads cX4_usedLoads 3 (some .int) ∈ lw_ok := lw_at 317 (by decide +kernel) rfl
theorem bd_X4_usedLoads : pBd yX4_usedLoads = (0, 0) := by decide +kernel
theorem pp_X4_usedLoads : pPar yX4_usedLoads 0 := ⟨by decide +kernel, by decide +kernel, by decide +kernel⟩
theorem im_X4_usedLoads : Cond.instanceMethod yX4_usedLoads ∈ lw_ok := lw_at 315 (by decide +kernel) rfl
theorem se_X4_usedLoads : Cond.selects RX4 yX4_usedLoads yX4_usedLoads ∈ lw_ok := lw_at 316 (by decide +kernel) rfl
theorem cd_X4_isPoured : Cond.code yX4_isPoured cX4_isPoured 2 (some .boolean) ∈ lw_ok := lw_at 321 (by decide +kernel) rfl
theorem bd_X4_isPoured : pBd yX4_isPoured = (0, 0) := by decide +kernel
theorem pp_X4_isPoured : pPar yX4_isPoured 1 := ⟨by decide +kernel, by decide +kernel, by decide +kernel⟩
theorem im_X4_isPoured : Cond.instanceMethod yX4_isPoured ∈ lw_ok := lw_at 319 (by decide +kernel) rfl
theorem se_X4_isPoured : Cond.selects RX4 yX4_isPoured yX4_isPoured ∈ lw_ok := lw_at 320 (by decide +kernel) rfl
theorem cd_X4_pouredSet : Cond.code yX4_pouredSet cX4_pouredSet 3 (some .int) ∈ lw_ok := lw_at 325 (by decide +kernel) rfl
theorem bd_X4_pouredSet : pBd yX4_pouredSet = (0, 0) := by decide +kernel
theorem pp_X4_pouredSet : pPar yX4_pouredSet 0 := ⟨by decide +kernel, by decide +kernel, by decide +kernel⟩
theorem im_X4_pouredSet : Cond.instanceMethod yX4_pouredSet ∈ lw_ok := lw_at 323 (by decide +kernel) rfl
theorem se_X4_pouredSet : Cond.selects RX4 yX4_pouredSet yX4_pouredSet ∈ lw_ok := lw_at 324 (by decide +kernel) rfl
theorem cd_X4_canSet : Cond.code yX4_canSet cX4_canSet 3 (some .int) ∈ lw_ok := lw_at 329 (by decide +kernel) rfl
theorem bd_X4_canSet : pBd yX4_canSet = (0, 0) := by decide +kernel
theorem pp_X4_canSet : pPar yX4_canSet 0 := ⟨by decide +kernel, by decide +kernel, by decide +kernel⟩
theorem im_X4_canSet : Cond.instanceMethod yX4_canSet ∈ lw_ok := lw_at 327 (by decide +kernel) rfl
theorem se_X4_canSet : Cond.selects RX4 yX4_canSet yX4_canSet ∈ lw_ok := lw_at 328 (by decide +kernel) rfl
theorem cd_X4_startOf : Cond.code yX4_startOf cX4_startOf 3 (some .int) ∈ lw_ok := lw_at 333 (by decide +kernel) rfl
theorem bd_X4_startOf : pBd yX4_startOf = (0, 0) := by decide +kernel
theorem pp_X4_startOf : pPar yX4_startOf 1 := ⟨by decide +kernel, by decide +kernel, by decide +kernel⟩
theorem im_X4_startOf : Cond.instanceMethod yX4_startOf ∈ lw_ok := lw_at 331 (by decide +kernel) rfl
theorem se_X4_startOf : Cond.selects RX4 yX4_startOf yX4_startOf ∈ lw_ok := lw_at 332 (by decide +kernel) rfl
theorem cd_X4_isCell : Cond.code yX4_isCell cX4_isCell 2 (some .boolean) ∈ lw_ok := lw_at 337 (by decide +kernel) rfl
theorem bd_X4_isCell : pBd yX4_isCell = (0, 0) := by decide +kernel
theorem pp_X4_isCell : pPar yX4_isCell 1 := ⟨by decide +kernel, by decide +kernel, by decide +kernel⟩
theorem im_X4_isCell : Cond.instanceMethod yX4_isCell ∈ lw_ok := lw_at 335 (by decide +kernel) rfl
theorem se_X4_isCell : Cond.selects RX4 yX4_isCell yX4_isCell ∈ lw_ok := lw_at 336 (by decide +kernel) rfl
theorem cd_X4_broughtAt : Cond.code yX4_broughtAt cX4_broughtAt 5 (some .int) ∈ lw_ok := lw_at 341 (by decide +kernel) rfl
theorem bd_X4_broughtAt : pBd yX4_broughtAt = (0, 0) := by decide +kernel
theorem pp_X4_broughtAt : pPar yX4_broughtAt 1 := ⟨by decide +kernel, by decide +kernel, by decide +kernel⟩
theorem im_X4_broughtAt : Cond.instanceMethod yX4_broughtAt ∈ lw_ok := lw_at 339 (by decide +kernel) rfl
theorem se_X4_broughtAt : Cond.selects RX4 yX4_broughtAt yX4_broughtAt ∈ lw_ok := lw_at 340 (by decide +kernel) rfl
theorem cd_J9_max_7cf53 : Cond.code yJ9_max_7cf53 cJ9_max_7cf53 2 (some .int) ∈ lw_ok := lw_at 344 (by decide +kernel) rfl
theorem bd_J9_max_7cf53 : pBd yJ9_max_7cf53 = (0, 0) := by decide +kernel
theorem pp_J9_max_7cf53 : pPar yJ9_max_7cf53 2 := ⟨by decide +kernel, by decide +kernel, by decide +kernel⟩
theorem sm_J9_max_7cf53 : Cond.static yJ9_max_7cf53 ∈ lw_ok := lw_at 343 (by decide +kernel) rfl
theorem cd_X4_joints : Cond.code yX4_joints cX4_joints 3 (some .int) ∈ lw_ok := lw_at 348 (by decide +kernel) rfl
theorem bd_X4_joints : pBd yX4_joints = (0, 0) := by decide +kernel
theorem pp_X4_joints : pPar yX4_joints 0 := ⟨by decide +kernel, by decide +kernel, by decide +kernel⟩
theorem im_X4_joints : Cond.instanceMethod yX4_joints ∈ lw_ok := lw_at 346 (by decide +kernel) rfl
theorem se_X4_joints : Cond.selects RX4 yX4_joints yX4_joints ∈ lw_ok := lw_at 347 (by decide +kernel) rfl
theorem cd_X4_edges : Cond.code yX4_edges cX4_edges 1 (some .int) ∈ lw_ok := lw_at 352 (by decide +kernel) rfl
theorem bd_X4_edges : pBd yX4_edges = (0, 0) := by decide +kernel
theorem pp_X4_edges : pPar yX4_edges 0 := ⟨by decide +kernel, by decide +kernel, by decide +kernel⟩
theorem im_X4_edges : Cond.instanceMethod yX4_edges ∈ lw_ok := lw_at 350 (by decide +kernel) rfl
theorem se_X4_edges : Cond.selects RX4 yX4_edges yX4_edges ∈ lw_ok := lw_at 351 (by decide +kernel) rfl
theorem cd_X4_isJoint : Cond.code yX4_isJoint cX4_isJoint 2 (some .boolean) ∈ lw_ok := lw_at 356 (by decide +kernel) rfl
theorem bd_X4_isJoint : pBd yX4_isJoint = (0, 0) := by decide +kernel
theorem pp_X4_isJoint : pPar yX4_isJoint 1 := ⟨by decide +kernel, by decide +kernel, by decide +kernel⟩
theorem im_X4_isJoint : Cond.instanceMethod yX4_isJoint ∈ lw_ok := lw_at 354 (by decide +kernel) rfl
theorem se_X4_isJoint : Cond.selects RX4 yX4_isJoint yX4_isJoint ∈ lw_ok := lw_at 355 (by decide +kernel) rfl
theorem cd_X4_ageOf : Cond.code yX4_ageOf cX4_ageOf 5 (some .int) ∈ lw_ok := lw_at 360 (by decide +kernel) rfl
theorem bd_X4_ageOf : pBd yX4_ageOf = (0, 0) := by decide +kernel
theorem pp_X4_ageOf : pPar yX4_ageOf 1 := ⟨by decide +kernel, by decide +kernel, by decide +kernel⟩
theorem im_X4_ageOf : Cond.instanceMethod yX4_ageOf ∈ lw_ok := lw_at 358 (by decide +kernel) rfl
theorem se_X4_ageOf : Cond.selects RX4 yX4_ageOf yX4_ageOf ∈ lw_ok := lw_at 359 (by decide +kernel) rfl
theorem cd_X4_across : Cond.code yX4_across cX4_across 4 (some .int) ∈ lw_ok := lw_at 364 (by decide +kernel) rfl
theorem bd_X4_across : pBd yX4_across = (0, 0) := by decide +kernel
theorem pp_X4_across : pPar yX4_across 1 := ⟨by decide +kernel, by decide +kernel, by decide +kernel⟩
theorem im_X4_across : Cond.instanceMethod yX4_across ∈ lw_ok := lw_at 362 (by decide +kernel) rfl
theorem se_X4_across : Cond.selects RX4 yX4_across yX4_across ∈ lw_ok := lw_at 363 (by decide +kernel) rfl
theorem cd_X4_harm : Cond.code yX4_harm cX4_harm 3 (some .int) ∈ lw_ok := lw_at 368 (by decide +kernel) rfl
theorem bd_X4_harm : pBd yX4_harm = (0, 0) := by decide +kernel
theorem pp_X4_harm : pPar yX4_harm 0 := ⟨by decide +kernel, by decide +kernel, by decide +kernel⟩
theorem im_X4_harm : Cond.instanceMethod yX4_harm ∈ lw_ok := lw_at 366 (by decide +kernel) rfl
theorem se_X4_harm : Cond.selects RX4 yX4_harm yX4_harm ∈ lw_ok := lw_at 367 (by decide +kernel) rfl
theorem cd_X4_harmOf : Cond.code yX4_harmOf cX4_harmOf 2 (some .int) ∈ lw_ok := lw_at 372 (by decide +kernel) rfl
theorem bd_X4_harmOf : pBd yX4_harmOf = (0, 0) := by decide +kernel
theorem pp_X4_harmOf : pPar yX4_harmOf 1 := ⟨by decide +kernel, by decide +kernel, by decide +kernel⟩
theorem im_X4_harmOf : Cond.instanceMethod yX4_harmOf ∈ lw_ok := lw_at 370 (by decide +kernel) rfl
theorem se_X4_harmOf : Cond.selects RX4 yX4_harmOf yX4_harmOf ∈ lw_ok := lw_at 371 (by decide +kernel) rfl
theorem cd_X4_firstToSet : Cond.code yX4_firstToSet cX4_firstToSet 5 (some .int) ∈ lw_ok := lw_at 376 (by decide +kernel) rfl
theorem bd_X4_firstToSet : pBd yX4_firstToSet = (0, 0) := by decide +kernel
theorem pp_X4_firstToSet : pPar yX4_firstToSet 0 := ⟨by decide +kernel, by decide +kernel, by decide +kernel⟩
theorem im_X4_firstToSet : Cond.instanceMethod yX4_firstToSet ∈ lw_ok := lw_at 374 (by decide +kernel) rfl
theorem se_X4_firstToSet : Cond.selects RX4 yX4_firstToSet yX4_firstToSet ∈ lw_ok := lw_at 375 (by decide +kernel) rfl
theorem cd_X4_timeLeft : Cond.code yX4_timeLeft cX4_timeLeft 2 (some .int) ∈ lw_ok := lw_at 381 (by decide +kernel) rfl
theorem bd_X4_timeLeft : pBd yX4_timeLeft = (0, 0) := by decide +kernel
theorem pp_X4_timeLeft : pPar yX4_timeLeft 1 := ⟨by decide +kernel, by decide +kernel, by decide +kernel⟩
theorem im_X4_timeLeft : Cond.instanceMethod yX4_timeLeft ∈ lw_ok := lw_at 379 (by decide +kernel) rfl
theorem se_X4_timeLeft : Cond.selects RX4 yX4_timeLeft yX4_timeLeft ∈ lw_ok := lw_at 380 (by decide +kernel) rfl
theorem cd_X4_isOpen : Cond.code yX4_isOpen cX4_isOpen 3 (some .boolean) ∈ lw_ok := lw_at 385 (by decide +kernel) rfl
theorem bd_X4_isOpen : pBd yX4_isOpen = (0, 0) := by decide +kernel
theorem pp_X4_isOpen : pPar yX4_isOpen 1 := ⟨by decide +kernel, by decide +kernel, by decide +kernel⟩
theorem im_X4_isOpen : Cond.instanceMethod yX4_isOpen ∈ lw_ok := lw_at 383 (by decide +kernel) rfl
theorem se_X4_isOpen : Cond.selects RX4 yX4_isOpen yX4_isOpen ∈ lw_ok := lw_at 384 (by decide +kernel) rfl
theorem cd_X5_plan : Cond.code yX5_plan cX5_plan 1 (some (.object "PourPlan$Planner")) ∈ lw_ok := lw_at 389 (by decide +kernel) rfl
theorem bd_X5_plan : pBd yX5_plan = (0, 0) := by decide +kernel
theorem pp_X5_plan : pPar yX5_plan 0 := ⟨by decide +kernel, by decide +kernel, by decide +kernel⟩
theorem im_X5_plan : Cond.instanceMethod yX5_plan ∈ lw_ok := lw_at 388 (by decide +kernel) rfl
theorem se_X5_plan : Cond.selects RX5 yX5_plan yX5_plan ∈ lw_ok := lw_at 0 (by decide +kernel) rfl
theorem cd_X3_search : Cond.code yX3_search cX3_search 4 none ∈ lw_ok := lw_at 394 (by decide +kernel) rfl
theorem bd_X3_search : pBd yX3_search = (0, 0) := by decide +kernel
theorem pp_X3_search : pPar yX3_search 3 := ⟨by decide +kernel, by decide +kernel, by decide +kernel⟩
theorem im_X3_search : Cond.instanceMethod yX3_search ∈ lw_ok := lw_at 392 (by decide +kernel) rfl
theorem se_X3_search : Cond.selects RX3 yX3_search yX3_search ∈ lw_ok := lw_at 393 (by decide +kernel) rfl
theorem cd_X3_readWall : Cond.code yX3_readWall cX3_readWall 2 none ∈ lw_ok := lw_at 398 (by decide +kernel) rfl
theorem bd_X3_readWall : pBd yX3_readWall = (0, 0) := by decide +kernel
theorem pp_X3_readWall : pPar yX3_readWall 1 := ⟨by decide +kernel, by decide +kernel, by decide +kernel⟩
theorem im_X3_readWall : Cond.instanceMethod yX3_readWall ∈ lw_ok := lw_at 397 (by decide +kernel) rfl
theorem se_X3_readWall : Cond.selects RX3 yX3_readWall yX3_readWall ∈ lw_ok := lw_at 1 (by decide +kernel) rfl
theorem cd_X3_readCells : Cond.code yX3_readCells cX3_readCells 3 none ∈ lw_ok := lw_at 402 (by decide +kernel) rfl
theorem bd_X3_readCells : pBd yX3_readCells = (0, 0) := by decide +kernel
theorem pp_X3_readCells : pPar yX3_readCells 1 := ⟨by decide +kernel, by decide +kernel, by decide +kernel⟩
theorem im_X3_readCells : Cond.instanceMethod yX3_readCells ∈ lw_ok := lw_at 401 (by decide +kernel) rfl
theorem se_X3_readCells : Cond.selects RX3 yX3_readCells yX3_readCells ∈ lw_ok := lw_at 2 (by decide +kernel) rfl
theorem cd_X3_readArrivals : Cond.code yX3_readArrivals cX3_readArrivals 6 none ∈ lw_ok := lw_at 409 (by decide +kernel) rfl
theorem bd_X3_readArrivals : pBd yX3_readArrivals = (0, 0) := by decide +kernel
theorem pp_X3_readArrivals : pPar yX3_readArrivals 1 := ⟨by decide +kernel, by decide +kernel, by decide +kernel⟩
theorem im_X3_readArrivals : Cond.instanceMethod yX3_readArrivals ∈ lw_ok := lw_at 408 (by decide +kernel) rfl
theorem se_X3_readArrivals : Cond.selects RX3 yX3_readArrivals yX3_readArrivals ∈ lw_ok := lw_at 3 (by decide +kernel) rfl
theorem cd_X3_arrivalOf : Cond.code yX3_arrivalOf cX3_arrivalOf 2 (some .int) ∈ lw_ok := lw_at 415 (by decide +kernel) rfl
theorem bd_X3_arrivalOf : pBd yX3_arrivalOf = (0, 0) := by decide +kernel
theorem pp_X3_arrivalOf : pPar yX3_arrivalOf 1 := ⟨by decide +kernel, by decide +kernel, by decide +kernel⟩
theorem im_X3_arrivalOf : Cond.instanceMethod yX3_arrivalOf ∈ lw_ok := lw_at 414 (by decide +kernel) rfl
theorem se_X3_arrivalOf : Cond.selects RX3 yX3_arrivalOf yX3_arrivalOf ∈ lw_ok := lw_at 4 (by decide +kernel) rfl
theorem cd_X3_harmCovered : Cond.code yX3_harmCovered cX3_harmCovered 3 (some .int) ∈ lw_ok := lw_at 419 (by decide +kernel) rfl
theorem bd_X3_harmCovered : pBd yX3_harmCovered = (0, 0) := by decide +kernel
theorem pp_X3_harmCovered : pPar yX3_harmCovered 0 := ⟨by decide +kernel, by decide +kernel, by decide +kernel⟩
theorem im_X3_harmCovered : Cond.instanceMethod yX3_harmCovered ∈ lw_ok := lw_at 418 (by decide +kernel) rfl
theorem se_X3_harmCovered : Cond.selects RX3 yX3_harmCovered yX3_harmCovered ∈ lw_ok := lw_at 5 (by decide +kernel) rfl
theorem cd_X3_harmCovering : Cond.code yX3_harmCovering cX3_harmCovering 6 (some .int) ∈ lw_ok := lw_at 423 (by decide +kernel) rfl
theorem bd_X3_harmCovering : pBd yX3_harmCovering = (0, 0) := by decide +kernel
theorem pp_X3_harmCovering : pPar yX3_harmCovering 2 := ⟨by decide +kernel, by decide +kernel, by decide +kernel⟩
theorem im_X3_harmCovering : Cond.instanceMethod yX3_harmCovering ∈ lw_ok := lw_at 422 (by decide +kernel) rfl
theorem se_X3_harmCovering : Cond.selects RX3 yX3_harmCovering yX3_harmCovering ∈ lw_ok := lw_at 6 (by decide +kernel) rfl
theorem cd_X3_extend : Cond.code yX3_extend cX3_extend 10 none ∈ lw_ok := lw_at 428 (by decide +kernel) rfl
theorem bd_X3_extend : pBd yX3_extend = (0, 0) := by decide +kernel
theorem pp_X3_extend : pPar yX3_extend 4 := ⟨by decide +kernel, by decide +kernel, by decide +kernel⟩
theorem im_X3_extend : Cond.instanceMethod yX3_extend ∈ lw_ok := lw_at 427 (by decide +kernel) rfl
theorem se_X3_extend : Cond.selects RX3 yX3_extend yX3_extend ∈ lw_ok := lw_at 7 (by decide +kernel) rfl
theorem cd_X3_take : Cond.code yX3_take cX3_take 3 none ∈ lw_ok := lw_at 432 (by decide +kernel) rfl
theorem bd_X3_take : pBd yX3_take = (0, 0) := by decide +kernel
theorem pp_X3_take : pPar yX3_take 2 := ⟨by decide +kernel, by decide +kernel, by decide +kernel⟩
theorem im_X3_take : Cond.instanceMethod yX3_take ∈ lw_ok := lw_at 431 (by decide +kernel) rfl
theorem se_X3_take : Cond.selects RX3 yX3_take yX3_take ∈ lw_ok := lw_at 8 (by decide +kernel) rfl
theorem cd_X3_mayBeBetter : Cond.code yX3_mayBeBetter cX3_mayBeBetter 3 (some .boolean) ∈ lw_ok := lw_at 436 (by decide +kernel) rfl
theorem bd_X3_mayBeBetter : pBd yX3_mayBeBetter = (0, 0) := by decide +kernel
theorem pp_X3_mayBeBetter : pPar yX3_mayBeBetter 2 := ⟨by decide +kernel, by decide +kernel, by decide +kernel⟩
theorem im_X3_mayBeBetter : Cond.instanceMethod yX3_mayBeBetter ∈ lw_ok := lw_at 435 (by decide +kernel) rfl
theorem se_X3_mayBeBetter : Cond.selects RX3 yX3_mayBeBetter yX3_mayBeBetter ∈ lw_ok := lw_at 9 (by decide +kernel) rfl
theorem cd_X5_copyRow : Cond.code yX5_copyRow cX5_copyRow 3 none ∈ lw_ok := lw_at 439 (by decide +kernel) rfl
theorem bd_X5_copyRow : pBd yX5_copyRow = (0, 0) := by decide +kernel
theorem pp_X5_copyRow : pPar yX5_copyRow 2 := ⟨by decide +kernel, by decide +kernel, by decide +kernel⟩
theorem sm_X5_copyRow : Cond.static yX5_copyRow ∈ lw_ok := lw_at 438 (by decide +kernel) rfl
theorem cd_X3_isNext : Cond.code yX3_isNext cX3_isNext 2 (some .boolean) ∈ lw_ok := lw_at 443 (by decide +kernel) rfl
theorem bd_X3_isNext : pBd yX3_isNext = (0, 0) := by decide +kernel
theorem pp_X3_isNext : pPar yX3_isNext 1 := ⟨by decide +kernel, by decide +kernel, by decide +kernel⟩
theorem im_X3_isNext : Cond.instanceMethod yX3_isNext ∈ lw_ok := lw_at 442 (by decide +kernel) rfl
theorem se_X3_isNext : Cond.selects RX3 yX3_isNext yX3_isNext ∈ lw_ok := lw_at 10 (by decide +kernel) rfl
theorem cd_X3_harmToCome : Cond.code yX3_harmToCome cX3_harmToCome 9 (some .int) ∈ lw_ok := lw_at 448 (by decide +kernel) rfl
theorem bd_X3_harmToCome : pBd yX3_harmToCome = (0, 0) := by decide +kernel
theorem pp_X3_harmToCome : pPar yX3_harmToCome 2 := ⟨by decide +kernel, by decide +kernel, by decide +kernel⟩
theorem im_X3_harmToCome : Cond.instanceMethod yX3_harmToCome ∈ lw_ok := lw_at 447 (by decide +kernel) rfl
theorem se_X3_harmToCome : Cond.selects RX3 yX3_harmToCome yX3_harmToCome ∈ lw_ok := lw_at 11 (by decide +kernel) rfl
theorem cd_X3_leastEnd : Cond.code yX3_leastEnd cX3_leastEnd 4 (some .int) ∈ lw_ok := lw_at 452 (by decide +kernel) rfl
theorem bd_X3_leastEnd : pBd yX3_leastEnd = (0, 0) := by decide +kernel
theorem pp_X3_leastEnd : pPar yX3_leastEnd 2 := ⟨by decide +kernel, by decide +kernel, by decide +kernel⟩
theorem im_X3_leastEnd : Cond.instanceMethod yX3_leastEnd ∈ lw_ok := lw_at 451 (by decide +kernel) rfl
theorem se_X3_leastEnd : Cond.selects RX3 yX3_leastEnd yX3_leastEnd ∈ lw_ok := lw_at 12 (by decide +kernel) rfl
theorem cd_X3_leastHarm : Cond.code yX3_leastHarm cX3_leastHarm 1 (some .int) ∈ lw_ok := lw_at 456 (by decide +kernel) rfl
theorem bd_X3_leastHarm : pBd yX3_leastHarm = (0, 0) := by decide +kernel
theorem pp_X3_leastHarm : pPar yX3_leastHarm 0 := ⟨by decide +kernel, by decide +kernel, by decide +kernel⟩
theorem im_X3_leastHarm : Cond.instanceMethod yX3_leastHarm ∈ lw_ok := lw_at 454 (by decide +kernel) rfl
theorem se_X3_leastHarm : Cond.selects RX3 yX3_leastHarm yX3_leastHarm ∈ lw_ok := lw_at 455 (by decide +kernel) rfl
theorem cd_X3_earliestEnd : Cond.code yX3_earliestEnd cX3_earliestEnd 1 (some .int) ∈ lw_ok := lw_at 460 (by decide +kernel) rfl
theorem bd_X3_earliestEnd : pBd yX3_earliestEnd = (0, 0) := by decide +kernel
theorem pp_X3_earliestEnd : pPar yX3_earliestEnd 0 := ⟨by decide +kernel, by decide +kernel, by decide +kernel⟩
theorem im_X3_earliestEnd : Cond.instanceMethod yX3_earliestEnd ∈ lw_ok := lw_at 458 (by decide +kernel) rfl
theorem se_X3_earliestEnd : Cond.selects RX3 yX3_earliestEnd yX3_earliestEnd ∈ lw_ok := lw_at 459 (by decide +kernel) rfl
theorem cd_X5_mayWait : Cond.code yX5_mayWait cX5_mayWait 3 (some .int) ∈ lw_ok := lw_at 464 (by decide +kernel) rfl
theorem bd_X5_mayWait : pBd yX5_mayWait = (0, 0) := by decide +kernel
theorem pp_X5_mayWait : pPar yX5_mayWait 0 := ⟨by decide +kernel, by decide +kernel, by decide +kernel⟩
theorem im_X5_mayWait : Cond.instanceMethod yX5_mayWait ∈ lw_ok := lw_at 463 (by decide +kernel) rfl
theorem se_X5_mayWait : Cond.selects RX5 yX5_mayWait yX5_mayWait ∈ lw_ok := lw_at 13 (by decide +kernel) rfl
theorem cd_X4_copyFrom : Cond.code yX4_copyFrom cX4_copyFrom 2 none ∈ lw_ok := lw_at 468 (by decide +kernel) rfl
theorem bd_X4_copyFrom : pBd yX4_copyFrom = (0, 0) := by decide +kernel
theorem pp_X4_copyFrom : pPar yX4_copyFrom 1 := ⟨by decide +kernel, by decide +kernel, by decide +kernel⟩
theorem im_X4_copyFrom : Cond.instanceMethod yX4_copyFrom ∈ lw_ok := lw_at 466 (by decide +kernel) rfl
theorem se_X4_copyFrom : Cond.selects RX4 yX4_copyFrom yX4_copyFrom ∈ lw_ok := lw_at 467 (by decide +kernel) rfl
theorem cd_X3_leastHarmIs : Cond.code yX3_leastHarmIs cX3_leastHarmIs 3 (some .boolean) ∈ lw_ok := lw_at 473 (by decide +kernel) rfl
theorem bd_X3_leastHarmIs : pBd yX3_leastHarmIs = (0, 0) := by decide +kernel
theorem pp_X3_leastHarmIs : pPar yX3_leastHarmIs 2 := ⟨by decide +kernel, by decide +kernel, by decide +kernel⟩
theorem im_X3_leastHarmIs : Cond.instanceMethod yX3_leastHarmIs ∈ lw_ok := lw_at 471 (by decide +kernel) rfl
theorem se_X3_leastHarmIs : Cond.selects RX3 yX3_leastHarmIs yX3_leastHarmIs ∈ lw_ok := lw_at 472 (by decide +kernel) rfl
theorem cd_X4_stoppedHarm : Cond.code yX4_stoppedHarm cX4_stoppedHarm 3 (some .int) ∈ lw_ok := lw_at 478 (by decide +kernel) rfl
theorem bd_X4_stoppedHarm : pBd yX4_stoppedHarm = (0, 0) := by decide +kernel
theorem pp_X4_stoppedHarm : pPar yX4_stoppedHarm 0 := ⟨by decide +kernel, by decide +kernel, by decide +kernel⟩
theorem im_X4_stoppedHarm : Cond.instanceMethod yX4_stoppedHarm ∈ lw_ok := lw_at 476 (by decide +kernel) rfl
theorem se_X4_stoppedHarm : Cond.selects RX4 yX4_stoppedHarm yX4_stoppedHarm ∈ lw_ok := lw_at 477 (by decide +kernel) rfl
theorem cd_X0_firstWrong : Cond.code yX0_firstWrong cX0_firstWrong 3 (some .int) ∈ lw_ok := lw_at 482 (by decide +kernel) rfl
theorem bd_X0_firstWrong : pBd yX0_firstWrong = (0, 0) := by decide +kernel
theorem pp_X0_firstWrong : pPar yX0_firstWrong 1 := ⟨by decide +kernel, by decide +kernel, by decide +kernel⟩
theorem im_X0_firstWrong : Cond.instanceMethod yX0_firstWrong ∈ lw_ok := lw_at 480 (by decide +kernel) rfl
theorem se_X0_firstWrong : Cond.selects RX0 yX0_firstWrong yX0_firstWrong ∈ lw_ok := lw_at 481 (by decide +kernel) rfl
theorem cd_X4_isEdge : Cond.code yX4_isEdge cX4_isEdge 2 (some .boolean) ∈ lw_ok := lw_at 486 (by decide +kernel) rfl
theorem bd_X4_isEdge : pBd yX4_isEdge = (0, 0) := by decide +kernel
theorem pp_X4_isEdge : pPar yX4_isEdge 1 := ⟨by decide +kernel, by decide +kernel, by decide +kernel⟩
theorem im_X4_isEdge : Cond.instanceMethod yX4_isEdge ∈ lw_ok := lw_at 484 (by decide +kernel) rfl
theorem se_X4_isEdge : Cond.selects RX4 yX4_isEdge yX4_isEdge ∈ lw_ok := lw_at 485 (by decide +kernel) rfl
theorem cd_X5_cell : Cond.code yX5_cell cX5_cell 3 (some .int) ∈ lw_ok := lw_at 492 (by decide +kernel) rfl
theorem bd_X5_cell : pBd yX5_cell = (0, 0) := by decide +kernel
theorem pp_X5_cell : pPar yX5_cell 2 := ⟨by decide +kernel, by decide +kernel, by decide +kernel⟩
theorem im_X5_cell : Cond.instanceMethod yX5_cell ∈ lw_ok := lw_at 490 (by decide +kernel) rfl
theorem se_X5_cell : Cond.selects RX5 yX5_cell yX5_cell ∈ lw_ok := lw_at 491 (by decide +kernel) rfl
theorem cd_X5_harmBehind : Cond.code yX5_harmBehind cX5_harmBehind 2 (some .int) ∈ lw_ok := lw_at 499 (by decide +kernel) rfl
theorem bd_X5_harmBehind : pBd yX5_harmBehind = (0, 0) := by decide +kernel
theorem pp_X5_harmBehind : pPar yX5_harmBehind 1 := ⟨by decide +kernel, by decide +kernel, by decide +kernel⟩
theorem im_X5_harmBehind : Cond.instanceMethod yX5_harmBehind ∈ lw_ok := lw_at 498 (by decide +kernel) rfl
theorem se_X5_harmBehind : Cond.selects RX5 yX5_harmBehind yX5_harmBehind ∈ lw_ok := lw_at 14 (by decide +kernel) rfl
theorem cd_X4_fill : Cond.code yX4_fill cX4_fill 3 none ∈ lw_ok := lw_at 503 (by decide +kernel) rfl
theorem bd_X4_fill : pBd yX4_fill = (0, 0) := by decide +kernel
theorem pp_X4_fill : pPar yX4_fill 1 := ⟨by decide +kernel, by decide +kernel, by decide +kernel⟩
theorem im_X4_fill : Cond.instanceMethod yX4_fill ∈ lw_ok := lw_at 501 (by decide +kernel) rfl
theorem se_X4_fill : Cond.selects RX4 yX4_fill yX4_fill ∈ lw_ok := lw_at 502 (by decide +kernel) rfl
theorem cd_X5_edge : Cond.code yX5_edge cX5_edge 3 (some .int) ∈ lw_ok := lw_at 507 (by decide +kernel) rfl
theorem bd_X5_edge : pBd yX5_edge = (0, 0) := by decide +kernel
theorem pp_X5_edge : pPar yX5_edge 2 := ⟨by decide +kernel, by decide +kernel, by decide +kernel⟩
theorem im_X5_edge : Cond.instanceMethod yX5_edge ∈ lw_ok := lw_at 505 (by decide +kernel) rfl
theorem se_X5_edge : Cond.selects RX5 yX5_edge yX5_edge ∈ lw_ok := lw_at 506 (by decide +kernel) rfl
theorem cd_X5_truckAt : Cond.code yX5_truckAt cX5_truckAt 3 (some .int) ∈ lw_ok := lw_at 515 (by decide +kernel) rfl
theorem bd_X5_truckAt : pBd yX5_truckAt = (0, 0) := by decide +kernel
theorem pp_X5_truckAt : pPar yX5_truckAt 2 := ⟨by decide +kernel, by decide +kernel, by decide +kernel⟩
theorem im_X5_truckAt : Cond.instanceMethod yX5_truckAt ∈ lw_ok := lw_at 513 (by decide +kernel) rfl
theorem se_X5_truckAt : Cond.selects RX5 yX5_truckAt yX5_truckAt ∈ lw_ok := lw_at 514 (by decide +kernel) rfl
theorem cd_X4_isTruck : Cond.code yX4_isTruck cX4_isTruck 2 (some .boolean) ∈ lw_ok := lw_at 519 (by decide +kernel) rfl
theorem bd_X4_isTruck : pBd yX4_isTruck = (0, 0) := by decide +kernel
theorem pp_X4_isTruck : pPar yX4_isTruck 1 := ⟨by decide +kernel, by decide +kernel, by decide +kernel⟩
theorem im_X4_isTruck : Cond.instanceMethod yX4_isTruck ∈ lw_ok := lw_at 517 (by decide +kernel) rfl
theorem se_X4_isTruck : Cond.selects RX4 yX4_isTruck yX4_isTruck ∈ lw_ok := lw_at 518 (by decide +kernel) rfl
theorem cd_X5_mayBeLate : Cond.code yX5_mayBeLate cX5_mayBeLate 5 (some .int) ∈ lw_ok := lw_at 523 (by decide +kernel) rfl
theorem bd_X5_mayBeLate : pBd yX5_mayBeLate = (0, 0) := by decide +kernel
theorem pp_X5_mayBeLate : pPar yX5_mayBeLate 1 := ⟨by decide +kernel, by decide +kernel, by decide +kernel⟩
theorem im_X5_mayBeLate : Cond.instanceMethod yX5_mayBeLate ∈ lw_ok := lw_at 522 (by decide +kernel) rfl
theorem se_X5_mayBeLate : Cond.selects RX5 yX5_mayBeLate yX5_mayBeLate ∈ lw_ok := lw_at 15 (by decide +kernel) rfl
theorem cd_X4_delay : Cond.code yX4_delay cX4_delay 3 none ∈ lw_ok := lw_at 528 (by decide +kernel) rfl
theorem bd_X4_delay : pBd yX4_delay = (0, 0) := by decide +kernel
theorem pp_X4_delay : pPar yX4_delay 2 := ⟨by decide +kernel, by decide +kernel, by decide +kernel⟩
theorem im_X4_delay : Cond.instanceMethod yX4_delay ∈ lw_ok := lw_at 526 (by decide +kernel) rfl
theorem se_X4_delay : Cond.selects RX4 yX4_delay yX4_delay ∈ lw_ok := lw_at 527 (by decide +kernel) rfl
theorem cd_X5_build : Cond.code yX5_build cX5_build 4 (some .int) ∈ lw_ok := lw_at 533 (by decide +kernel) rfl
theorem bd_X5_build : pBd yX5_build = (0, 0) := by decide +kernel
theorem pp_X5_build : pPar yX5_build 2 := ⟨by decide +kernel, by decide +kernel, by decide +kernel⟩
theorem im_X5_build : Cond.instanceMethod yX5_build ∈ lw_ok := lw_at 531 (by decide +kernel) rfl
theorem se_X5_build : Cond.selects RX5 yX5_build yX5_build ∈ lw_ok := lw_at 532 (by decide +kernel) rfl
theorem cd_X5_within : Cond.code yX5_within cX5_within 3 (some .boolean) ∈ lw_ok := lw_at 536 (by decide +kernel) rfl
theorem bd_X5_within : pBd yX5_within = (0, 0) := by decide +kernel
theorem pp_X5_within : pPar yX5_within 3 := ⟨by decide +kernel, by decide +kernel, by decide +kernel⟩
theorem sm_X5_within : Cond.static yX5_within ∈ lw_ok := lw_at 535 (by decide +kernel) rfl
theorem cd_X4_pouredCount : Cond.code yX4_pouredCount cX4_pouredCount 1 (some .int) ∈ lw_ok := lw_at 540 (by decide +kernel) rfl
theorem bd_X4_pouredCount : pBd yX4_pouredCount = (0, 0) := by decide +kernel
theorem pp_X4_pouredCount : pPar yX4_pouredCount 0 := ⟨by decide +kernel, by decide +kernel, by decide +kernel⟩
theorem im_X4_pouredCount : Cond.instanceMethod yX4_pouredCount ∈ lw_ok := lw_at 538 (by decide +kernel) rfl
theorem se_X4_pouredCount : Cond.selects RX4 yX4_pouredCount yX4_pouredCount ∈ lw_ok := lw_at 539 (by decide +kernel) rfl
theorem cd_J6_bitCount_0f7a4 : Cond.code yJ6_bitCount_0f7a4 cJ6_bitCount_0f7a4 1 (some .int) ∈ lw_ok := lw_at 544 (by decide +kernel) rfl
theorem bd_J6_bitCount_0f7a4 : pBd yJ6_bitCount_0f7a4 = (0, 0) := by decide +kernel
theorem pp_J6_bitCount_0f7a4 : pPar yJ6_bitCount_0f7a4 1 := ⟨by decide +kernel, by decide +kernel, by decide +kernel⟩
theorem sm_J6_bitCount_0f7a4 : Cond.static yJ6_bitCount_0f7a4 ∈ lw_ok := lw_at 543 (by decide +kernel) rfl
theorem cd_X5_beforeDeed : Cond.code yX5_beforeDeed cX5_beforeDeed 1 none ∈ lw_ok := lw_at 551 (by decide +kernel) rfl
theorem bd_X5_beforeDeed : pBd yX5_beforeDeed = (0, 0) := by decide +kernel
theorem pp_X5_beforeDeed : pPar yX5_beforeDeed 0 := ⟨by decide +kernel, by decide +kernel, by decide +kernel⟩
theorem im_X5_beforeDeed : Cond.instanceMethod yX5_beforeDeed ∈ lw_ok := lw_at 550 (by decide +kernel) rfl
theorem se_X5_beforeDeed : Cond.selects RX5 yX5_beforeDeed yX5_beforeDeed ∈ lw_ok := lw_at 16 (by decide +kernel) rfl
theorem cd_X1_remember : Cond.code yX1_remember cX1_remember 2 none ∈ lw_ok := lw_at 555 (by decide +kernel) rfl
theorem bd_X1_remember : pBd yX1_remember = (0, 0) := by decide +kernel
theorem pp_X1_remember : pPar yX1_remember 1 := ⟨by decide +kernel, by decide +kernel, by decide +kernel⟩
theorem im_X1_remember : Cond.instanceMethod yX1_remember ∈ lw_ok := lw_at 553 (by decide +kernel) rfl
theorem se_X1_remember : Cond.selects RX1 yX1_remember yX1_remember ∈ lw_ok := lw_at 554 (by decide +kernel) rfl
theorem cd_X5_truck : Cond.code yX5_truck cX5_truck 3 (some .int) ∈ lw_ok := lw_at 562 (by decide +kernel) rfl
theorem bd_X5_truck : pBd yX5_truck = (0, 0) := by decide +kernel
theorem pp_X5_truck : pPar yX5_truck 2 := ⟨by decide +kernel, by decide +kernel, by decide +kernel⟩
theorem im_X5_truck : Cond.instanceMethod yX5_truck ∈ lw_ok := lw_at 560 (by decide +kernel) rfl
theorem se_X5_truck : Cond.selects RX5 yX5_truck yX5_truck ∈ lw_ok := lw_at 561 (by decide +kernel) rfl
theorem cd_X4_hasTruckRoom : Cond.code yX4_hasTruckRoom cX4_hasTruckRoom 1 (some .boolean) ∈ lw_ok := lw_at 566 (by decide +kernel) rfl
theorem bd_X4_hasTruckRoom : pBd yX4_hasTruckRoom = (0, 0) := by decide +kernel
theorem pp_X4_hasTruckRoom : pPar yX4_hasTruckRoom 0 := ⟨by decide +kernel, by decide +kernel, by decide +kernel⟩
theorem im_X4_hasTruckRoom : Cond.instanceMethod yX4_hasTruckRoom ∈ lw_ok := lw_at 564 (by decide +kernel) rfl
theorem se_X4_hasTruckRoom : Cond.selects RX4 yX4_hasTruckRoom yX4_hasTruckRoom ∈ lw_ok := lw_at 565 (by decide +kernel) rfl
theorem cd_X4_addTruck : Cond.code yX4_addTruck cX4_addTruck 3 none ∈ lw_ok := lw_at 571 (by decide +kernel) rfl
theorem bd_X4_addTruck : pBd yX4_addTruck = (0, 0) := by decide +kernel
theorem pp_X4_addTruck : pPar yX4_addTruck 2 := ⟨by decide +kernel, by decide +kernel, by decide +kernel⟩
theorem im_X4_addTruck : Cond.instanceMethod yX4_addTruck ∈ lw_ok := lw_at 569 (by decide +kernel) rfl
theorem se_X4_addTruck : Cond.selects RX4 yX4_addTruck yX4_addTruck ∈ lw_ok := lw_at 570 (by decide +kernel) rfl
theorem cd_X5_late : Cond.code yX5_late cX5_late 4 (some .int) ∈ lw_ok := lw_at 576 (by decide +kernel) rfl
theorem bd_X5_late : pBd yX5_late = (0, 0) := by decide +kernel
theorem pp_X5_late : pPar yX5_late 2 := ⟨by decide +kernel, by decide +kernel, by decide +kernel⟩
theorem im_X5_late : Cond.instanceMethod yX5_late ∈ lw_ok := lw_at 574 (by decide +kernel) rfl
theorem se_X5_late : Cond.selects RX5 yX5_late yX5_late ∈ lw_ok := lw_at 575 (by decide +kernel) rfl
theorem cd_X5_stockIfLate : Cond.code yX5_stockIfLate cX5_stockIfLate 3 (some .int) ∈ lw_ok := lw_at 580 (by decide +kernel) rfl
theorem bd_X5_stockIfLate : pBd yX5_stockIfLate = (0, 0) := by decide +kernel
theorem pp_X5_stockIfLate : pPar yX5_stockIfLate 2 := ⟨by decide +kernel, by decide +kernel, by decide +kernel⟩
theorem im_X5_stockIfLate : Cond.instanceMethod yX5_stockIfLate ∈ lw_ok := lw_at 579 (by decide +kernel) rfl
theorem se_X5_stockIfLate : Cond.selects RX5 yX5_stockIfLate yX5_stockIfLate ∈ lw_ok := lw_at 17 (by decide +kernel) rfl
theorem cd_X5_away : Cond.code yX5_away cX5_away 2 (some .int) ∈ lw_ok := lw_at 585 (by decide +kernel) rfl
theorem bd_X5_away : pBd yX5_away = (0, 0) := by decide +kernel
theorem pp_X5_away : pPar yX5_away 1 := ⟨by decide +kernel, by decide +kernel, by decide +kernel⟩
theorem im_X5_away : Cond.instanceMethod yX5_away ∈ lw_ok := lw_at 583 (by decide +kernel) rfl
theorem se_X5_away : Cond.selects RX5 yX5_away yX5_away ∈ lw_ok := lw_at 584 (by decide +kernel) rfl
theorem cd_X5_stockWithout : Cond.code yX5_stockWithout cX5_stockWithout 2 (some .int) ∈ lw_ok := lw_at 589 (by decide +kernel) rfl
theorem bd_X5_stockWithout : pBd yX5_stockWithout = (0, 0) := by decide +kernel
theorem pp_X5_stockWithout : pPar yX5_stockWithout 1 := ⟨by decide +kernel, by decide +kernel, by decide +kernel⟩
theorem im_X5_stockWithout : Cond.instanceMethod yX5_stockWithout ∈ lw_ok := lw_at 588 (by decide +kernel) rfl
theorem se_X5_stockWithout : Cond.selects RX5 yX5_stockWithout yX5_stockWithout ∈ lw_ok := lw_at 18 (by decide +kernel) rfl
theorem cd_X4_dropTruck : Cond.code yX4_dropTruck cX4_dropTruck 3 none ∈ lw_ok := lw_at 593 (by decide +kernel) rfl
theorem bd_X4_dropTruck : pBd yX4_dropTruck = (0, 0) := by decide +kernel
theorem pp_X4_dropTruck : pPar yX4_dropTruck 1 := ⟨by decide +kernel, by decide +kernel, by decide +kernel⟩
theorem im_X4_dropTruck : Cond.instanceMethod yX4_dropTruck ∈ lw_ok := lw_at 591 (by decide +kernel) rfl
theorem se_X4_dropTruck : Cond.selects RX4 yX4_dropTruck yX4_dropTruck ∈ lw_ok := lw_at 592 (by decide +kernel) rfl
theorem cd_X5_need : Cond.code yX5_need cX5_need 4 (some .int) ∈ lw_ok := lw_at 597 (by decide +kernel) rfl
theorem bd_X5_need : pBd yX5_need = (0, 0) := by decide +kernel
theorem pp_X5_need : pPar yX5_need 2 := ⟨by decide +kernel, by decide +kernel, by decide +kernel⟩
theorem im_X5_need : Cond.instanceMethod yX5_need ∈ lw_ok := lw_at 595 (by decide +kernel) rfl
theorem se_X5_need : Cond.selects RX5 yX5_need yX5_need ∈ lw_ok := lw_at 596 (by decide +kernel) rfl
theorem cd_X5_bound : Cond.code yX5_bound cX5_bound 4 (some .int) ∈ lw_ok := lw_at 602 (by decide +kernel) rfl
theorem bd_X5_bound : pBd yX5_bound = (0, 0) := by decide +kernel
theorem pp_X5_bound : pPar yX5_bound 2 := ⟨by decide +kernel, by decide +kernel, by decide +kernel⟩
theorem im_X5_bound : Cond.instanceMethod yX5_bound ∈ lw_ok := lw_at 600 (by decide +kernel) rfl
theorem se_X5_bound : Cond.selects RX5 yX5_bound yX5_bound ∈ lw_ok := lw_at 601 (by decide +kernel) rfl
theorem cd_X4_swapBound : Cond.code yX4_swapBound cX4_swapBound 4 (some .int) ∈ lw_ok := lw_at 606 (by decide +kernel) rfl
theorem bd_X4_swapBound : pBd yX4_swapBound = (0, 0) := by decide +kernel
theorem pp_X4_swapBound : pPar yX4_swapBound 2 := ⟨by decide +kernel, by decide +kernel, by decide +kernel⟩
theorem im_X4_swapBound : Cond.instanceMethod yX4_swapBound ∈ lw_ok := lw_at 604 (by decide +kernel) rfl
theorem se_X4_swapBound : Cond.selects RX4 yX4_swapBound yX4_swapBound ∈ lw_ok := lw_at 605 (by decide +kernel) rfl
theorem cd_X5_pour : Cond.code yX5_pour cX5_pour 2 (some .int) ∈ lw_ok := lw_at 610 (by decide +kernel) rfl
theorem bd_X5_pour : pBd yX5_pour = (0, 0) := by decide +kernel
theorem pp_X5_pour : pPar yX5_pour 1 := ⟨by decide +kernel, by decide +kernel, by decide +kernel⟩
theorem im_X5_pour : Cond.instanceMethod yX5_pour ∈ lw_ok := lw_at 608 (by decide +kernel) rfl
theorem se_X5_pour : Cond.selects RX5 yX5_pour yX5_pour ∈ lw_ok := lw_at 609 (by decide +kernel) rfl
theorem cd_X5_rest : Cond.code yX5_rest cX5_rest 2 (some .int) ∈ lw_ok := lw_at 614 (by decide +kernel) rfl
theorem bd_X5_rest : pBd yX5_rest = (0, 0) := by decide +kernel
theorem pp_X5_rest : pPar yX5_rest 1 := ⟨by decide +kernel, by decide +kernel, by decide +kernel⟩
theorem im_X5_rest : Cond.instanceMethod yX5_rest ∈ lw_ok := lw_at 612 (by decide +kernel) rfl
theorem se_X5_rest : Cond.selects RX5 yX5_rest yX5_rest ∈ lw_ok := lw_at 613 (by decide +kernel) rfl
theorem cd_X5_follow : Cond.code yX5_follow cX5_follow 2 (some .int) ∈ lw_ok := lw_at 618 (by decide +kernel) rfl
theorem bd_X5_follow : pBd yX5_follow = (0, 0) := by decide +kernel
theorem pp_X5_follow : pPar yX5_follow 0 := ⟨by decide +kernel, by decide +kernel, by decide +kernel⟩
theorem im_X5_follow : Cond.instanceMethod yX5_follow ∈ lw_ok := lw_at 616 (by decide +kernel) rfl
theorem se_X5_follow : Cond.selects RX5 yX5_follow yX5_follow ∈ lw_ok := lw_at 617 (by decide +kernel) rfl
theorem cd_X3_cellAt : Cond.code yX3_cellAt cX3_cellAt 2 (some .int) ∈ lw_ok := lw_at 622 (by decide +kernel) rfl
theorem bd_X3_cellAt : pBd yX3_cellAt = (0, 0) := by decide +kernel
theorem pp_X3_cellAt : pPar yX3_cellAt 1 := ⟨by decide +kernel, by decide +kernel, by decide +kernel⟩
theorem im_X3_cellAt : Cond.instanceMethod yX3_cellAt ∈ lw_ok := lw_at 620 (by decide +kernel) rfl
theorem se_X3_cellAt : Cond.selects RX3 yX3_cellAt yX3_cellAt ∈ lw_ok := lw_at 621 (by decide +kernel) rfl
theorem cd_X5_drift : Cond.code yX5_drift cX5_drift 3 (some .int) ∈ lw_ok := lw_at 626 (by decide +kernel) rfl
theorem bd_X5_drift : pBd yX5_drift = (0, 0) := by decide +kernel
theorem pp_X5_drift : pPar yX5_drift 1 := ⟨by decide +kernel, by decide +kernel, by decide +kernel⟩
theorem im_X5_drift : Cond.instanceMethod yX5_drift ∈ lw_ok := lw_at 624 (by decide +kernel) rfl
theorem se_X5_drift : Cond.selects RX5 yX5_drift yX5_drift ∈ lw_ok := lw_at 625 (by decide +kernel) rfl
theorem cd_X5_driftOnce : Cond.code yX5_driftOnce cX5_driftOnce 5 none ∈ lw_ok := lw_at 630 (by decide +kernel) rfl
theorem bd_X5_driftOnce : pBd yX5_driftOnce = (0, 0) := by decide +kernel
theorem pp_X5_driftOnce : pPar yX5_driftOnce 0 := ⟨by decide +kernel, by decide +kernel, by decide +kernel⟩
theorem im_X5_driftOnce : Cond.instanceMethod yX5_driftOnce ∈ lw_ok := lw_at 629 (by decide +kernel) rfl
theorem se_X5_driftOnce : Cond.selects RX5 yX5_driftOnce yX5_driftOnce ∈ lw_ok := lw_at 19 (by decide +kernel) rfl
theorem cd_X5_draw : Cond.code yX5_draw cX5_draw 2 (some .int) ∈ lw_ok := lw_at 634 (by decide +kernel) rfl
theorem bd_X5_draw : pBd yX5_draw = (0, 0) := by decide +kernel
theorem pp_X5_draw : pPar yX5_draw 1 := ⟨by decide +kernel, by decide +kernel, by decide +kernel⟩
theorem im_X5_draw : Cond.instanceMethod yX5_draw ∈ lw_ok := lw_at 633 (by decide +kernel) rfl
theorem se_X5_draw : Cond.selects RX5 yX5_draw yX5_draw ∈ lw_ok := lw_at 20 (by decide +kernel) rfl
theorem cd_X5_undo : Cond.code yX5_undo cX5_undo 2 (some .int) ∈ lw_ok := lw_at 643 (by decide +kernel) rfl
theorem bd_X5_undo : pBd yX5_undo = (0, 0) := by decide +kernel
theorem pp_X5_undo : pPar yX5_undo 1 := ⟨by decide +kernel, by decide +kernel, by decide +kernel⟩
theorem im_X5_undo : Cond.instanceMethod yX5_undo ∈ lw_ok := lw_at 641 (by decide +kernel) rfl
theorem se_X5_undo : Cond.selects RX5 yX5_undo yX5_undo ∈ lw_ok := lw_at 642 (by decide +kernel) rfl
theorem cd_X1_takeBack : Cond.code yX1_takeBack cX1_takeBack 3 none ∈ lw_ok := lw_at 647 (by decide +kernel) rfl
theorem bd_X1_takeBack : pBd yX1_takeBack = (0, 0) := by decide +kernel
theorem pp_X1_takeBack : pPar yX1_takeBack 2 := ⟨by decide +kernel, by decide +kernel, by decide +kernel⟩
theorem im_X1_takeBack : Cond.instanceMethod yX1_takeBack ∈ lw_ok := lw_at 645 (by decide +kernel) rfl
theorem se_X1_takeBack : Cond.selects RX1 yX1_takeBack yX1_takeBack ∈ lw_ok := lw_at 646 (by decide +kernel) rfl
theorem cd_X5_best : Cond.code yX5_best cX5_best 2 (some .int) ∈ lw_ok := lw_at 651 (by decide +kernel) rfl
theorem bd_X5_best : pBd yX5_best = (0, 0) := by decide +kernel
theorem pp_X5_best : pPar yX5_best 1 := ⟨by decide +kernel, by decide +kernel, by decide +kernel⟩
theorem im_X5_best : Cond.instanceMethod yX5_best ∈ lw_ok := lw_at 649 (by decide +kernel) rfl
theorem se_X5_best : Cond.selects RX5 yX5_best yX5_best ∈ lw_ok := lw_at 650 (by decide +kernel) rfl
theorem cd_X5_stop : Cond.code yX5_stop cX5_stop 7 (some .int) ∈ lw_ok := lw_at 655 (by decide +kernel) rfl
theorem bd_X5_stop : pBd yX5_stop = (0, 0) := by decide +kernel
theorem pp_X5_stop : pPar yX5_stop 1 := ⟨by decide +kernel, by decide +kernel, by decide +kernel⟩
theorem im_X5_stop : Cond.instanceMethod yX5_stop ∈ lw_ok := lw_at 653 (by decide +kernel) rfl
theorem se_X5_stop : Cond.selects RX5 yX5_stop yX5_stop ∈ lw_ok := lw_at 654 (by decide +kernel) rfl
theorem cd_X5_write : Cond.code yX5_write cX5_write 3 (some .int) ∈ lw_ok := lw_at 659 (by decide +kernel) rfl
theorem bd_X5_write : pBd yX5_write = (0, 0) := by decide +kernel
theorem pp_X5_write : pPar yX5_write 2 := ⟨by decide +kernel, by decide +kernel, by decide +kernel⟩
theorem im_X5_write : Cond.instanceMethod yX5_write ∈ lw_ok := lw_at 657 (by decide +kernel) rfl
theorem se_X5_write : Cond.selects RX5 yX5_write yX5_write ∈ lw_ok := lw_at 658 (by decide +kernel) rfl
theorem cd_X0_hasRoom : Cond.code yX0_hasRoom cX0_hasRoom 1 (some .boolean) ∈ lw_ok := lw_at 663 (by decide +kernel) rfl
theorem bd_X0_hasRoom : pBd yX0_hasRoom = (0, 0) := by decide +kernel
theorem pp_X0_hasRoom : pPar yX0_hasRoom 0 := ⟨by decide +kernel, by decide +kernel, by decide +kernel⟩
theorem im_X0_hasRoom : Cond.instanceMethod yX0_hasRoom ∈ lw_ok := lw_at 661 (by decide +kernel) rfl
theorem se_X0_hasRoom : Cond.selects RX0 yX0_hasRoom yX0_hasRoom ∈ lw_ok := lw_at 662 (by decide +kernel) rfl
theorem cd_X0_enter : Cond.code yX0_enter cX0_enter 3 none ∈ lw_ok := lw_at 667 (by decide +kernel) rfl
theorem bd_X0_enter : pBd yX0_enter = (0, 0) := by decide +kernel
theorem pp_X0_enter : pPar yX0_enter 2 := ⟨by decide +kernel, by decide +kernel, by decide +kernel⟩
theorem im_X0_enter : Cond.instanceMethod yX0_enter ∈ lw_ok := lw_at 665 (by decide +kernel) rfl
theorem se_X0_enter : Cond.selects RX0 yX0_enter yX0_enter ∈ lw_ok := lw_at 666 (by decide +kernel) rfl
theorem cd_X5_tear : Cond.code yX5_tear cX5_tear 2 (some .int) ∈ lw_ok := lw_at 672 (by decide +kernel) rfl
theorem bd_X5_tear : pBd yX5_tear = (0, 0) := by decide +kernel
theorem pp_X5_tear : pPar yX5_tear 0 := ⟨by decide +kernel, by decide +kernel, by decide +kernel⟩
theorem im_X5_tear : Cond.instanceMethod yX5_tear ∈ lw_ok := lw_at 670 (by decide +kernel) rfl
theorem se_X5_tear : Cond.selects RX5 yX5_tear yX5_tear ∈ lw_ok := lw_at 671 (by decide +kernel) rfl
theorem cd_X5_seed : Cond.code yX5_seed cX5_seed 3 (some .int) ∈ lw_ok := lw_at 676 (by decide +kernel) rfl
theorem bd_X5_seed : pBd yX5_seed = (0, 0) := by decide +kernel
theorem pp_X5_seed : pPar yX5_seed 1 := ⟨by decide +kernel, by decide +kernel, by decide +kernel⟩
theorem im_X5_seed : Cond.instanceMethod yX5_seed ∈ lw_ok := lw_at 674 (by decide +kernel) rfl
theorem se_X5_seed : Cond.selects RX5 yX5_seed yX5_seed ∈ lw_ok := lw_at 675 (by decide +kernel) rfl
theorem cd_X5_keep : Cond.code yX5_keep cX5_keep 3 (some .int) ∈ lw_ok := lw_at 680 (by decide +kernel) rfl
theorem bd_X5_keep : pBd yX5_keep = (0, 0) := by decide +kernel
theorem pp_X5_keep : pPar yX5_keep 1 := ⟨by decide +kernel, by decide +kernel, by decide +kernel⟩
theorem im_X5_keep : Cond.instanceMethod yX5_keep ∈ lw_ok := lw_at 678 (by decide +kernel) rfl
theorem se_X5_keep : Cond.selects RX5 yX5_keep yX5_keep ∈ lw_ok := lw_at 679 (by decide +kernel) rfl
theorem cd_X5_imageAt : Cond.code yX5_imageAt cX5_imageAt 2 (some (.object "PourPlan$Image")) ∈ lw_ok := lw_at 684 (by decide +kernel) rfl
theorem bd_X5_imageAt : pBd yX5_imageAt = (0, 0) := by decide +kernel
theorem pp_X5_imageAt : pPar yX5_imageAt 1 := ⟨by decide +kernel, by decide +kernel, by decide +kernel⟩
theorem im_X5_imageAt : Cond.instanceMethod yX5_imageAt ∈ lw_ok := lw_at 683 (by decide +kernel) rfl
theorem se_X5_imageAt : Cond.selects RX5 yX5_imageAt yX5_imageAt ∈ lw_ok := lw_at 21 (by decide +kernel) rfl
theorem cd_X1_forget : Cond.code yX1_forget cX1_forget 1 none ∈ lw_ok := lw_at 688 (by decide +kernel) rfl
theorem bd_X1_forget : pBd yX1_forget = (0, 0) := by decide +kernel
theorem pp_X1_forget : pPar yX1_forget 0 := ⟨by decide +kernel, by decide +kernel, by decide +kernel⟩
theorem im_X1_forget : Cond.instanceMethod yX1_forget ∈ lw_ok := lw_at 686 (by decide +kernel) rfl
theorem se_X1_forget : Cond.selects RX1 yX1_forget yX1_forget ∈ lw_ok := lw_at 687 (by decide +kernel) rfl
theorem cd_X5_goBack : Cond.code yX5_goBack cX5_goBack 3 (some .int) ∈ lw_ok := lw_at 692 (by decide +kernel) rfl
theorem bd_X5_goBack : pBd yX5_goBack = (0, 0) := by decide +kernel
theorem pp_X5_goBack : pPar yX5_goBack 1 := ⟨by decide +kernel, by decide +kernel, by decide +kernel⟩
theorem im_X5_goBack : Cond.instanceMethod yX5_goBack ∈ lw_ok := lw_at 690 (by decide +kernel) rfl
theorem se_X5_goBack : Cond.selects RX5 yX5_goBack yX5_goBack ∈ lw_ok := lw_at 691 (by decide +kernel) rfl
theorem cd_X6_init : Cond.code yX6_init cX6_init 1 none ∈ lw_ok := lw_at 697 (by decide +kernel) rfl
theorem bd_X6_init : pBd yX6_init = (8, 1373) := by decide +kernel
theorem pp_X6_init : pPar yX6_init 0 := ⟨by decide +kernel, by decide +kernel, by decide +kernel⟩
theorem im_X6_init : Cond.instanceMethod yX6_init ∈ lw_ok := lw_at 696 (by decide +kernel) rfl
theorem cd_X6_builds : Cond.code yX6_builds cX6_builds 4 none ∈ lw_ok := lw_at 702 (by decide +kernel) rfl
theorem bd_X6_builds : pBd yX6_builds = (0, 0) := by decide +kernel
theorem pp_X6_builds : pPar yX6_builds 2 := ⟨by decide +kernel, by decide +kernel, by decide +kernel⟩
theorem im_X6_builds : Cond.instanceMethod yX6_builds ∈ lw_ok := lw_at 701 (by decide +kernel) rfl
theorem se_X6_builds : Cond.selects RX6 yX6_builds yX6_builds ∈ lw_ok := lw_at 22 (by decide +kernel) rfl
theorem cd_X6_told : Cond.code yX6_told cX6_told 2 (some .int) ∈ lw_ok := lw_at 749 (by decide +kernel) rfl
theorem bd_X6_told : pBd yX6_told = (0, 0) := by decide +kernel
theorem pp_X6_told : pPar yX6_told 1 := ⟨by decide +kernel, by decide +kernel, by decide +kernel⟩
theorem im_X6_told : Cond.instanceMethod yX6_told ∈ lw_ok := lw_at 747 (by decide +kernel) rfl
theorem se_X6_told : Cond.selects RX6 yX6_told yX6_told ∈ lw_ok := lw_at 748 (by decide +kernel) rfl
theorem cd_X6_brought : Cond.code yX6_brought cX6_brought 5 (some .int) ∈ lw_ok := lw_at 753 (by decide +kernel) rfl
theorem bd_X6_brought : pBd yX6_brought = (0, 0) := by decide +kernel
theorem pp_X6_brought : pPar yX6_brought 2 := ⟨by decide +kernel, by decide +kernel, by decide +kernel⟩
theorem im_X6_brought : Cond.instanceMethod yX6_brought ∈ lw_ok := lw_at 752 (by decide +kernel) rfl
theorem se_X6_brought : Cond.selects RX6 yX6_brought yX6_brought ∈ lw_ok := lw_at 23 (by decide +kernel) rfl
theorem cd_X6_used : Cond.code yX6_used cX6_used 4 (some .int) ∈ lw_ok := lw_at 757 (by decide +kernel) rfl
theorem bd_X6_used : pBd yX6_used = (0, 0) := by decide +kernel
theorem pp_X6_used : pPar yX6_used 1 := ⟨by decide +kernel, by decide +kernel, by decide +kernel⟩
theorem im_X6_used : Cond.instanceMethod yX6_used ∈ lw_ok := lw_at 756 (by decide +kernel) rfl
theorem se_X6_used : Cond.selects RX6 yX6_used yX6_used ∈ lw_ok := lw_at 24 (by decide +kernel) rfl
theorem cd_X6_isPoured : Cond.code yX6_isPoured cX6_isPoured 3 (some .boolean) ∈ lw_ok := lw_at 761 (by decide +kernel) rfl
theorem bd_X6_isPoured : pBd yX6_isPoured = (0, 0) := by decide +kernel
theorem pp_X6_isPoured : pPar yX6_isPoured 2 := ⟨by decide +kernel, by decide +kernel, by decide +kernel⟩
theorem im_X6_isPoured : Cond.instanceMethod yX6_isPoured ∈ lw_ok := lw_at 760 (by decide +kernel) rfl
theorem se_X6_isPoured : Cond.selects RX6 yX6_isPoured yX6_isPoured ∈ lw_ok := lw_at 25 (by decide +kernel) rfl
theorem cd_X6_poured : Cond.code yX6_poured cX6_poured 3 (some .int) ∈ lw_ok := lw_at 765 (by decide +kernel) rfl
theorem bd_X6_poured : pBd yX6_poured = (0, 0) := by decide +kernel
theorem pp_X6_poured : pPar yX6_poured 0 := ⟨by decide +kernel, by decide +kernel, by decide +kernel⟩
theorem im_X6_poured : Cond.instanceMethod yX6_poured ∈ lw_ok := lw_at 764 (by decide +kernel) rfl
theorem se_X6_poured : Cond.selects RX6 yX6_poured yX6_poured ∈ lw_ok := lw_at 26 (by decide +kernel) rfl
theorem cd_X6_cells : Cond.code yX6_cells cX6_cells 1 (some .int) ∈ lw_ok := lw_at 769 (by decide +kernel) rfl
theorem bd_X6_cells : pBd yX6_cells = (0, 0) := by decide +kernel
theorem pp_X6_cells : pPar yX6_cells 0 := ⟨by decide +kernel, by decide +kernel, by decide +kernel⟩
theorem im_X6_cells : Cond.instanceMethod yX6_cells ∈ lw_ok := lw_at 768 (by decide +kernel) rfl
theorem se_X6_cells : Cond.selects RX6 yX6_cells yX6_cells ∈ lw_ok := lw_at 27 (by decide +kernel) rfl
theorem cd_X6_can : Cond.code yX6_can cX6_can 3 (some .int) ∈ lw_ok := lw_at 773 (by decide +kernel) rfl
theorem bd_X6_can : pBd yX6_can = (0, 0) := by decide +kernel
theorem pp_X6_can : pPar yX6_can 0 := ⟨by decide +kernel, by decide +kernel, by decide +kernel⟩
theorem im_X6_can : Cond.instanceMethod yX6_can ∈ lw_ok := lw_at 772 (by decide +kernel) rfl
theorem se_X6_can : Cond.selects RX6 yX6_can yX6_can ∈ lw_ok := lw_at 28 (by decide +kernel) rfl
theorem cd_X6_beginOf : Cond.code yX6_beginOf cX6_beginOf 8 (some .int) ∈ lw_ok := lw_at 777 (by decide +kernel) rfl
theorem bd_X6_beginOf : pBd yX6_beginOf = (0, 0) := by decide +kernel
theorem pp_X6_beginOf : pPar yX6_beginOf 2 := ⟨by decide +kernel, by decide +kernel, by decide +kernel⟩
theorem im_X6_beginOf : Cond.instanceMethod yX6_beginOf ∈ lw_ok := lw_at 776 (by decide +kernel) rfl
theorem se_X6_beginOf : Cond.selects RX6 yX6_beginOf yX6_beginOf ∈ lw_ok := lw_at 29 (by decide +kernel) rfl
theorem cd_X6_joints : Cond.code yX6_joints cX6_joints 3 (some .int) ∈ lw_ok := lw_at 782 (by decide +kernel) rfl
theorem bd_X6_joints : pBd yX6_joints = (0, 0) := by decide +kernel
theorem pp_X6_joints : pPar yX6_joints 0 := ⟨by decide +kernel, by decide +kernel, by decide +kernel⟩
theorem im_X6_joints : Cond.instanceMethod yX6_joints ∈ lw_ok := lw_at 781 (by decide +kernel) rfl
theorem se_X6_joints : Cond.selects RX6 yX6_joints yX6_joints ∈ lw_ok := lw_at 30 (by decide +kernel) rfl
theorem cd_X6_isJoint : Cond.code yX6_isJoint cX6_isJoint 5 (some .boolean) ∈ lw_ok := lw_at 786 (by decide +kernel) rfl
theorem bd_X6_isJoint : pBd yX6_isJoint = (0, 0) := by decide +kernel
theorem pp_X6_isJoint : pPar yX6_isJoint 2 := ⟨by decide +kernel, by decide +kernel, by decide +kernel⟩
theorem im_X6_isJoint : Cond.instanceMethod yX6_isJoint ∈ lw_ok := lw_at 785 (by decide +kernel) rfl
theorem se_X6_isJoint : Cond.selects RX6 yX6_isJoint yX6_isJoint ∈ lw_ok := lw_at 31 (by decide +kernel) rfl
theorem cd_X6_beyond : Cond.code yX6_beyond cX6_beyond 5 (some .int) ∈ lw_ok := lw_at 790 (by decide +kernel) rfl
theorem bd_X6_beyond : pBd yX6_beyond = (0, 0) := by decide +kernel
theorem pp_X6_beyond : pPar yX6_beyond 2 := ⟨by decide +kernel, by decide +kernel, by decide +kernel⟩
theorem im_X6_beyond : Cond.instanceMethod yX6_beyond ∈ lw_ok := lw_at 789 (by decide +kernel) rfl
theorem se_X6_beyond : Cond.selects RX6 yX6_beyond yX6_beyond ∈ lw_ok := lw_at 32 (by decide +kernel) rfl
theorem cd_X6_in : Cond.code yX6_in cX6_in 6 (some .boolean) ∈ lw_ok := lw_at 793 (by decide +kernel) rfl
theorem bd_X6_in : pBd yX6_in = (0, 0) := by decide +kernel
theorem pp_X6_in : pPar yX6_in 3 := ⟨by decide +kernel, by decide +kernel, by decide +kernel⟩
theorem sm_X6_in : Cond.static yX6_in ∈ lw_ok := lw_at 792 (by decide +kernel) rfl
theorem cd_X6_harm : Cond.code yX6_harm cX6_harm 6 (some .int) ∈ lw_ok := lw_at 797 (by decide +kernel) rfl
theorem bd_X6_harm : pBd yX6_harm = (0, 0) := by decide +kernel
theorem pp_X6_harm : pPar yX6_harm 2 := ⟨by decide +kernel, by decide +kernel, by decide +kernel⟩
theorem im_X6_harm : Cond.instanceMethod yX6_harm ∈ lw_ok := lw_at 796 (by decide +kernel) rfl
theorem se_X6_harm : Cond.selects RX6 yX6_harm yX6_harm ∈ lw_ok := lw_at 33 (by decide +kernel) rfl
theorem cd_X6_isOpen : Cond.code yX6_isOpen cX6_isOpen 4 (some .boolean) ∈ lw_ok := lw_at 801 (by decide +kernel) rfl
theorem bd_X6_isOpen : pBd yX6_isOpen = (0, 0) := by decide +kernel
theorem pp_X6_isOpen : pPar yX6_isOpen 2 := ⟨by decide +kernel, by decide +kernel, by decide +kernel⟩
theorem im_X6_isOpen : Cond.instanceMethod yX6_isOpen ∈ lw_ok := lw_at 800 (by decide +kernel) rfl
theorem se_X6_isOpen : Cond.selects RX6 yX6_isOpen yX6_isOpen ∈ lw_ok := lw_at 34 (by decide +kernel) rfl
theorem cd_X6_firstToSet : Cond.code yX6_firstToSet cX6_firstToSet 3 (some .int) ∈ lw_ok := lw_at 805 (by decide +kernel) rfl
theorem bd_X6_firstToSet : pBd yX6_firstToSet = (0, 0) := by decide +kernel
theorem pp_X6_firstToSet : pPar yX6_firstToSet 0 := ⟨by decide +kernel, by decide +kernel, by decide +kernel⟩
theorem im_X6_firstToSet : Cond.instanceMethod yX6_firstToSet ∈ lw_ok := lw_at 804 (by decide +kernel) rfl
theorem se_X6_firstToSet : Cond.selects RX6 yX6_firstToSet yX6_firstToSet ∈ lw_ok := lw_at 35 (by decide +kernel) rfl
theorem cd_X6_left : Cond.code yX6_left cX6_left 2 (some .int) ∈ lw_ok := lw_at 809 (by decide +kernel) rfl
theorem bd_X6_left : pBd yX6_left = (0, 0) := by decide +kernel
theorem pp_X6_left : pPar yX6_left 1 := ⟨by decide +kernel, by decide +kernel, by decide +kernel⟩
theorem im_X6_left : Cond.instanceMethod yX6_left ∈ lw_ok := lw_at 808 (by decide +kernel) rfl
theorem se_X6_left : Cond.selects RX6 yX6_left yX6_left ∈ lw_ok := lw_at 36 (by decide +kernel) rfl
theorem cd_X6_ofBest : Cond.code yX6_ofBest cX6_ofBest 2 (some .int) ∈ lw_ok := lw_at 813 (by decide +kernel) rfl
theorem bd_X6_ofBest : pBd yX6_ofBest = (0, 0) := by decide +kernel
theorem pp_X6_ofBest : pPar yX6_ofBest 1 := ⟨by decide +kernel, by decide +kernel, by decide +kernel⟩
theorem im_X6_ofBest : Cond.instanceMethod yX6_ofBest ∈ lw_ok := lw_at 812 (by decide +kernel) rfl
theorem se_X6_ofBest : Cond.selects RX6 yX6_ofBest yX6_ofBest ∈ lw_ok := lw_at 37 (by decide +kernel) rfl
theorem cd_X6_finds : Cond.code yX6_finds cX6_finds 1 none ∈ lw_ok := lw_at 817 (by decide +kernel) rfl
theorem bd_X6_finds : pBd yX6_finds = (0, 0) := by decide +kernel
theorem pp_X6_finds : pPar yX6_finds 0 := ⟨by decide +kernel, by decide +kernel, by decide +kernel⟩
theorem im_X6_finds : Cond.instanceMethod yX6_finds ∈ lw_ok := lw_at 816 (by decide +kernel) rfl
theorem se_X6_finds : Cond.selects RX6 yX6_finds yX6_finds ∈ lw_ok := lw_at 38 (by decide +kernel) rfl
theorem cd_X6_copy : Cond.code yX6_copy cX6_copy 4 none ∈ lw_ok := lw_at 821 (by decide +kernel) rfl
theorem bd_X6_copy : pBd yX6_copy = (0, 0) := by decide +kernel
theorem pp_X6_copy : pPar yX6_copy 2 := ⟨by decide +kernel, by decide +kernel, by decide +kernel⟩
theorem im_X6_copy : Cond.instanceMethod yX6_copy ∈ lw_ok := lw_at 820 (by decide +kernel) rfl
theorem se_X6_copy : Cond.selects RX6 yX6_copy yX6_copy ∈ lw_ok := lw_at 39 (by decide +kernel) rfl
theorem cd_X6_seeks : Cond.code yX6_seeks cX6_seeks 5 none ∈ lw_ok := lw_at 825 (by decide +kernel) rfl
theorem bd_X6_seeks : pBd yX6_seeks = (0, 0) := by decide +kernel
theorem pp_X6_seeks : pPar yX6_seeks 0 := ⟨by decide +kernel, by decide +kernel, by decide +kernel⟩
theorem im_X6_seeks : Cond.instanceMethod yX6_seeks ∈ lw_ok := lw_at 824 (by decide +kernel) rfl
theorem se_X6_seeks : Cond.selects RX6 yX6_seeks yX6_seeks ∈ lw_ok := lw_at 40 (by decide +kernel) rfl
theorem cd_X6_weighs : Cond.code yX6_weighs cX6_weighs 5 none ∈ lw_ok := lw_at 829 (by decide +kernel) rfl
theorem bd_X6_weighs : pBd yX6_weighs = (0, 0) := by decide +kernel
theorem pp_X6_weighs : pPar yX6_weighs 1 := ⟨by decide +kernel, by decide +kernel, by decide +kernel⟩
theorem im_X6_weighs : Cond.instanceMethod yX6_weighs ∈ lw_ok := lw_at 828 (by decide +kernel) rfl
theorem se_X6_weighs : Cond.selects RX6 yX6_weighs yX6_weighs ∈ lw_ok := lw_at 41 (by decide +kernel) rfl
theorem cd_X6_pours : Cond.code yX6_pours cX6_pours 4 (some .boolean) ∈ lw_ok := lw_at 833 (by decide +kernel) rfl
theorem bd_X6_pours : pBd yX6_pours = (0, 0) := by decide +kernel
theorem pp_X6_pours : pPar yX6_pours 2 := ⟨by decide +kernel, by decide +kernel, by decide +kernel⟩
theorem im_X6_pours : Cond.instanceMethod yX6_pours ∈ lw_ok := lw_at 832 (by decide +kernel) rfl
theorem se_X6_pours : Cond.selects RX6 yX6_pours yX6_pours ∈ lw_ok := lw_at 42 (by decide +kernel) rfl
theorem cd_X6_mayWait : Cond.code yX6_mayWait cX6_mayWait 4 (some .int) ∈ lw_ok := lw_at 837 (by decide +kernel) rfl
theorem bd_X6_mayWait : pBd yX6_mayWait = (0, 0) := by decide +kernel
theorem pp_X6_mayWait : pPar yX6_mayWait 0 := ⟨by decide +kernel, by decide +kernel, by decide +kernel⟩
theorem im_X6_mayWait : Cond.instanceMethod yX6_mayWait ∈ lw_ok := lw_at 836 (by decide +kernel) rfl
theorem se_X6_mayWait : Cond.selects RX6 yX6_mayWait yX6_mayWait ∈ lw_ok := lw_at 43 (by decide +kernel) rfl
theorem cd_X6_wrong : Cond.code yX6_wrong cX6_wrong 2 (some .int) ∈ lw_ok := lw_at 841 (by decide +kernel) rfl
theorem bd_X6_wrong : pBd yX6_wrong = (0, 0) := by decide +kernel
theorem pp_X6_wrong : pPar yX6_wrong 0 := ⟨by decide +kernel, by decide +kernel, by decide +kernel⟩
theorem im_X6_wrong : Cond.instanceMethod yX6_wrong ∈ lw_ok := lw_at 840 (by decide +kernel) rfl
theorem se_X6_wrong : Cond.selects RX6 yX6_wrong yX6_wrong ∈ lw_ok := lw_at 44 (by decide +kernel) rfl
theorem cd_X6_cell : Cond.code yX6_cell cX6_cell 3 (some .int) ∈ lw_ok := lw_at 846 (by decide +kernel) rfl
theorem bd_X6_cell : pBd yX6_cell = (0, 0) := by decide +kernel
theorem pp_X6_cell : pPar yX6_cell 2 := ⟨by decide +kernel, by decide +kernel, by decide +kernel⟩
theorem im_X6_cell : Cond.instanceMethod yX6_cell ∈ lw_ok := lw_at 844 (by decide +kernel) rfl
theorem se_X6_cell : Cond.selects RX6 yX6_cell yX6_cell ∈ lw_ok := lw_at 845 (by decide +kernel) rfl
theorem cd_X6_isCell : Cond.code yX6_isCell cX6_isCell 2 (some .boolean) ∈ lw_ok := lw_at 850 (by decide +kernel) rfl
theorem bd_X6_isCell : pBd yX6_isCell = (0, 0) := by decide +kernel
theorem pp_X6_isCell : pPar yX6_isCell 1 := ⟨by decide +kernel, by decide +kernel, by decide +kernel⟩
theorem im_X6_isCell : Cond.instanceMethod yX6_isCell ∈ lw_ok := lw_at 849 (by decide +kernel) rfl
theorem se_X6_isCell : Cond.selects RX6 yX6_isCell yX6_isCell ∈ lw_ok := lw_at 45 (by decide +kernel) rfl
theorem cd_X6_harmBehind : Cond.code yX6_harmBehind cX6_harmBehind 2 (some .int) ∈ lw_ok := lw_at 855 (by decide +kernel) rfl
theorem bd_X6_harmBehind : pBd yX6_harmBehind = (0, 0) := by decide +kernel
theorem pp_X6_harmBehind : pPar yX6_harmBehind 1 := ⟨by decide +kernel, by decide +kernel, by decide +kernel⟩
theorem im_X6_harmBehind : Cond.instanceMethod yX6_harmBehind ∈ lw_ok := lw_at 854 (by decide +kernel) rfl
theorem se_X6_harmBehind : Cond.selects RX6 yX6_harmBehind yX6_harmBehind ∈ lw_ok := lw_at 46 (by decide +kernel) rfl
theorem cd_X6_edge : Cond.code yX6_edge cX6_edge 3 (some .int) ∈ lw_ok := lw_at 859 (by decide +kernel) rfl
theorem bd_X6_edge : pBd yX6_edge = (0, 0) := by decide +kernel
theorem pp_X6_edge : pPar yX6_edge 2 := ⟨by decide +kernel, by decide +kernel, by decide +kernel⟩
theorem im_X6_edge : Cond.instanceMethod yX6_edge ∈ lw_ok := lw_at 857 (by decide +kernel) rfl
theorem se_X6_edge : Cond.selects RX6 yX6_edge yX6_edge ∈ lw_ok := lw_at 858 (by decide +kernel) rfl
theorem cd_X6_truckAt : Cond.code yX6_truckAt cX6_truckAt 3 (some .int) ∈ lw_ok := lw_at 863 (by decide +kernel) rfl
theorem bd_X6_truckAt : pBd yX6_truckAt = (0, 0) := by decide +kernel
theorem pp_X6_truckAt : pPar yX6_truckAt 2 := ⟨by decide +kernel, by decide +kernel, by decide +kernel⟩
theorem im_X6_truckAt : Cond.instanceMethod yX6_truckAt ∈ lw_ok := lw_at 861 (by decide +kernel) rfl
theorem se_X6_truckAt : Cond.selects RX6 yX6_truckAt yX6_truckAt ∈ lw_ok := lw_at 862 (by decide +kernel) rfl
theorem cd_X6_isTruck : Cond.code yX6_isTruck cX6_isTruck 2 (some .boolean) ∈ lw_ok := lw_at 867 (by decide +kernel) rfl
theorem bd_X6_isTruck : pBd yX6_isTruck = (0, 0) := by decide +kernel
theorem pp_X6_isTruck : pPar yX6_isTruck 1 := ⟨by decide +kernel, by decide +kernel, by decide +kernel⟩
theorem im_X6_isTruck : Cond.instanceMethod yX6_isTruck ∈ lw_ok := lw_at 866 (by decide +kernel) rfl
theorem se_X6_isTruck : Cond.selects RX6 yX6_isTruck yX6_isTruck ∈ lw_ok := lw_at 47 (by decide +kernel) rfl
theorem cd_X6_mayBeLate : Cond.code yX6_mayBeLate cX6_mayBeLate 5 (some .int) ∈ lw_ok := lw_at 871 (by decide +kernel) rfl
theorem bd_X6_mayBeLate : pBd yX6_mayBeLate = (0, 0) := by decide +kernel
theorem pp_X6_mayBeLate : pPar yX6_mayBeLate 1 := ⟨by decide +kernel, by decide +kernel, by decide +kernel⟩
theorem im_X6_mayBeLate : Cond.instanceMethod yX6_mayBeLate ∈ lw_ok := lw_at 870 (by decide +kernel) rfl
theorem se_X6_mayBeLate : Cond.selects RX6 yX6_mayBeLate yX6_mayBeLate ∈ lw_ok := lw_at 48 (by decide +kernel) rfl
theorem cd_X6_build : Cond.code yX6_build cX6_build 4 (some .int) ∈ lw_ok := lw_at 875 (by decide +kernel) rfl
theorem bd_X6_build : pBd yX6_build = (0, 0) := by decide +kernel
theorem pp_X6_build : pPar yX6_build 2 := ⟨by decide +kernel, by decide +kernel, by decide +kernel⟩
theorem im_X6_build : Cond.instanceMethod yX6_build ∈ lw_ok := lw_at 873 (by decide +kernel) rfl
theorem se_X6_build : Cond.selects RX6 yX6_build yX6_build ∈ lw_ok := lw_at 874 (by decide +kernel) rfl
theorem cd_X6_ones : Cond.code yX6_ones cX6_ones 3 (some .int) ∈ lw_ok := lw_at 879 (by decide +kernel) rfl
theorem bd_X6_ones : pBd yX6_ones = (0, 0) := by decide +kernel
theorem pp_X6_ones : pPar yX6_ones 1 := ⟨by decide +kernel, by decide +kernel, by decide +kernel⟩
theorem sm_X6_ones : Cond.static yX6_ones ∈ lw_ok := lw_at 878 (by decide +kernel) rfl
theorem cd_X6_minds : Cond.code yX6_minds cX6_minds 2 none ∈ lw_ok := lw_at 883 (by decide +kernel) rfl
theorem bd_X6_minds : pBd yX6_minds = (0, 0) := by decide +kernel
theorem pp_X6_minds : pPar yX6_minds 0 := ⟨by decide +kernel, by decide +kernel, by decide +kernel⟩
theorem im_X6_minds : Cond.instanceMethod yX6_minds ∈ lw_ok := lw_at 882 (by decide +kernel) rfl
theorem se_X6_minds : Cond.selects RX6 yX6_minds yX6_minds ∈ lw_ok := lw_at 49 (by decide +kernel) rfl
theorem cd_X6_truck : Cond.code yX6_truck cX6_truck 3 (some .int) ∈ lw_ok := lw_at 887 (by decide +kernel) rfl
theorem bd_X6_truck : pBd yX6_truck = (0, 0) := by decide +kernel
theorem pp_X6_truck : pPar yX6_truck 2 := ⟨by decide +kernel, by decide +kernel, by decide +kernel⟩
theorem im_X6_truck : Cond.instanceMethod yX6_truck ∈ lw_ok := lw_at 885 (by decide +kernel) rfl
theorem se_X6_truck : Cond.selects RX6 yX6_truck yX6_truck ∈ lw_ok := lw_at 886 (by decide +kernel) rfl
theorem cd_X6_comes : Cond.code yX6_comes cX6_comes 3 none ∈ lw_ok := lw_at 894 (by decide +kernel) rfl
theorem bd_X6_comes : pBd yX6_comes = (0, 0) := by decide +kernel
theorem pp_X6_comes : pPar yX6_comes 2 := ⟨by decide +kernel, by decide +kernel, by decide +kernel⟩
theorem im_X6_comes : Cond.instanceMethod yX6_comes ∈ lw_ok := lw_at 893 (by decide +kernel) rfl
theorem se_X6_comes : Cond.selects RX6 yX6_comes yX6_comes ∈ lw_ok := lw_at 50 (by decide +kernel) rfl
theorem cd_X6_late : Cond.code yX6_late cX6_late 3 (some .int) ∈ lw_ok := lw_at 898 (by decide +kernel) rfl
theorem bd_X6_late : pBd yX6_late = (0, 0) := by decide +kernel
theorem pp_X6_late : pPar yX6_late 2 := ⟨by decide +kernel, by decide +kernel, by decide +kernel⟩
theorem im_X6_late : Cond.instanceMethod yX6_late ∈ lw_ok := lw_at 896 (by decide +kernel) rfl
theorem se_X6_late : Cond.selects RX6 yX6_late yX6_late ∈ lw_ok := lw_at 897 (by decide +kernel) rfl
theorem cd_X6_away : Cond.code yX6_away cX6_away 4 (some .int) ∈ lw_ok := lw_at 904 (by decide +kernel) rfl
theorem bd_X6_away : pBd yX6_away = (0, 0) := by decide +kernel
theorem pp_X6_away : pPar yX6_away 1 := ⟨by decide +kernel, by decide +kernel, by decide +kernel⟩
theorem im_X6_away : Cond.instanceMethod yX6_away ∈ lw_ok := lw_at 902 (by decide +kernel) rfl
theorem se_X6_away : Cond.selects RX6 yX6_away yX6_away ∈ lw_ok := lw_at 903 (by decide +kernel) rfl
theorem cd_X6_need : Cond.code yX6_need cX6_need 4 (some .int) ∈ lw_ok := lw_at 908 (by decide +kernel) rfl
theorem bd_X6_need : pBd yX6_need = (0, 0) := by decide +kernel
theorem pp_X6_need : pPar yX6_need 2 := ⟨by decide +kernel, by decide +kernel, by decide +kernel⟩
theorem im_X6_need : Cond.instanceMethod yX6_need ∈ lw_ok := lw_at 906 (by decide +kernel) rfl
theorem se_X6_need : Cond.selects RX6 yX6_need yX6_need ∈ lw_ok := lw_at 907 (by decide +kernel) rfl
theorem cd_X6_bound : Cond.code yX6_bound cX6_bound 5 (some .int) ∈ lw_ok := lw_at 912 (by decide +kernel) rfl
theorem bd_X6_bound : pBd yX6_bound = (0, 0) := by decide +kernel
theorem pp_X6_bound : pPar yX6_bound 2 := ⟨by decide +kernel, by decide +kernel, by decide +kernel⟩
theorem im_X6_bound : Cond.instanceMethod yX6_bound ∈ lw_ok := lw_at 910 (by decide +kernel) rfl
theorem se_X6_bound : Cond.selects RX6 yX6_bound yX6_bound ∈ lw_ok := lw_at 911 (by decide +kernel) rfl
theorem cd_X6_pour : Cond.code yX6_pour cX6_pour 2 (some .int) ∈ lw_ok := lw_at 919 (by decide +kernel) rfl
theorem bd_X6_pour : pBd yX6_pour = (0, 0) := by decide +kernel
theorem pp_X6_pour : pPar yX6_pour 1 := ⟨by decide +kernel, by decide +kernel, by decide +kernel⟩
theorem im_X6_pour : Cond.instanceMethod yX6_pour ∈ lw_ok := lw_at 917 (by decide +kernel) rfl
theorem se_X6_pour : Cond.selects RX6 yX6_pour yX6_pour ∈ lw_ok := lw_at 918 (by decide +kernel) rfl
theorem cd_X6_rest : Cond.code yX6_rest cX6_rest 2 (some .int) ∈ lw_ok := lw_at 923 (by decide +kernel) rfl
theorem bd_X6_rest : pBd yX6_rest = (0, 0) := by decide +kernel
theorem pp_X6_rest : pPar yX6_rest 1 := ⟨by decide +kernel, by decide +kernel, by decide +kernel⟩
theorem im_X6_rest : Cond.instanceMethod yX6_rest ∈ lw_ok := lw_at 921 (by decide +kernel) rfl
theorem se_X6_rest : Cond.selects RX6 yX6_rest yX6_rest ∈ lw_ok := lw_at 922 (by decide +kernel) rfl
theorem cd_X6_follow : Cond.code yX6_follow cX6_follow 2 (some .int) ∈ lw_ok := lw_at 927 (by decide +kernel) rfl
theorem bd_X6_follow : pBd yX6_follow = (0, 0) := by decide +kernel
theorem pp_X6_follow : pPar yX6_follow 0 := ⟨by decide +kernel, by decide +kernel, by decide +kernel⟩
theorem im_X6_follow : Cond.instanceMethod yX6_follow ∈ lw_ok := lw_at 925 (by decide +kernel) rfl
theorem se_X6_follow : Cond.selects RX6 yX6_follow yX6_follow ∈ lw_ok := lw_at 926 (by decide +kernel) rfl
theorem cd_X6_drift : Cond.code yX6_drift cX6_drift 3 (some .int) ∈ lw_ok := lw_at 931 (by decide +kernel) rfl
theorem bd_X6_drift : pBd yX6_drift = (0, 0) := by decide +kernel
theorem pp_X6_drift : pPar yX6_drift 1 := ⟨by decide +kernel, by decide +kernel, by decide +kernel⟩
theorem im_X6_drift : Cond.instanceMethod yX6_drift ∈ lw_ok := lw_at 929 (by decide +kernel) rfl
theorem se_X6_drift : Cond.selects RX6 yX6_drift yX6_drift ∈ lw_ok := lw_at 930 (by decide +kernel) rfl
theorem cd_X6_draws : Cond.code yX6_draws cX6_draws 6 none ∈ lw_ok := lw_at 936 (by decide +kernel) rfl
theorem bd_X6_draws : pBd yX6_draws = (0, 0) := by decide +kernel
theorem pp_X6_draws : pPar yX6_draws 0 := ⟨by decide +kernel, by decide +kernel, by decide +kernel⟩
theorem im_X6_draws : Cond.instanceMethod yX6_draws ∈ lw_ok := lw_at 935 (by decide +kernel) rfl
theorem se_X6_draws : Cond.selects RX6 yX6_draws yX6_draws ∈ lw_ok := lw_at 51 (by decide +kernel) rfl
theorem cd_X6_draw : Cond.code yX6_draw cX6_draw 2 (some .int) ∈ lw_ok := lw_at 940 (by decide +kernel) rfl
theorem bd_X6_draw : pBd yX6_draw = (0, 0) := by decide +kernel
theorem pp_X6_draw : pPar yX6_draw 1 := ⟨by decide +kernel, by decide +kernel, by decide +kernel⟩
theorem im_X6_draw : Cond.instanceMethod yX6_draw ∈ lw_ok := lw_at 939 (by decide +kernel) rfl
theorem se_X6_draw : Cond.selects RX6 yX6_draw yX6_draw ∈ lw_ok := lw_at 52 (by decide +kernel) rfl
theorem cd_X6_undo : Cond.code yX6_undo cX6_undo 2 (some .int) ∈ lw_ok := lw_at 948 (by decide +kernel) rfl
theorem bd_X6_undo : pBd yX6_undo = (0, 0) := by decide +kernel
theorem pp_X6_undo : pPar yX6_undo 1 := ⟨by decide +kernel, by decide +kernel, by decide +kernel⟩
theorem im_X6_undo : Cond.instanceMethod yX6_undo ∈ lw_ok := lw_at 946 (by decide +kernel) rfl
theorem se_X6_undo : Cond.selects RX6 yX6_undo yX6_undo ∈ lw_ok := lw_at 947 (by decide +kernel) rfl
theorem cd_X6_best : Cond.code yX6_best cX6_best 2 (some .int) ∈ lw_ok := lw_at 952 (by decide +kernel) rfl
theorem bd_X6_best : pBd yX6_best = (0, 0) := by decide +kernel
theorem pp_X6_best : pPar yX6_best 1 := ⟨by decide +kernel, by decide +kernel, by decide +kernel⟩
theorem im_X6_best : Cond.instanceMethod yX6_best ∈ lw_ok := lw_at 950 (by decide +kernel) rfl
theorem se_X6_best : Cond.selects RX6 yX6_best yX6_best ∈ lw_ok := lw_at 951 (by decide +kernel) rfl
theorem cd_X6_stop : Cond.code yX6_stop cX6_stop 7 (some .int) ∈ lw_ok := lw_at 956 (by decide +kernel) rfl
theorem bd_X6_stop : pBd yX6_stop = (0, 0) := by decide +kernel
theorem pp_X6_stop : pPar yX6_stop 1 := ⟨by decide +kernel, by decide +kernel, by decide +kernel⟩
theorem im_X6_stop : Cond.instanceMethod yX6_stop ∈ lw_ok := lw_at 954 (by decide +kernel) rfl
theorem se_X6_stop : Cond.selects RX6 yX6_stop yX6_stop ∈ lw_ok := lw_at 955 (by decide +kernel) rfl
theorem cd_X6_write : Cond.code yX6_write cX6_write 3 (some .int) ∈ lw_ok := lw_at 960 (by decide +kernel) rfl
theorem bd_X6_write : pBd yX6_write = (0, 0) := by decide +kernel
theorem pp_X6_write : pPar yX6_write 2 := ⟨by decide +kernel, by decide +kernel, by decide +kernel⟩
theorem im_X6_write : Cond.instanceMethod yX6_write ∈ lw_ok := lw_at 958 (by decide +kernel) rfl
theorem se_X6_write : Cond.selects RX6 yX6_write yX6_write ∈ lw_ok := lw_at 959 (by decide +kernel) rfl
theorem cd_X6_tear : Cond.code yX6_tear cX6_tear 2 (some .int) ∈ lw_ok := lw_at 964 (by decide +kernel) rfl
theorem bd_X6_tear : pBd yX6_tear = (0, 0) := by decide +kernel
theorem pp_X6_tear : pPar yX6_tear 0 := ⟨by decide +kernel, by decide +kernel, by decide +kernel⟩
theorem im_X6_tear : Cond.instanceMethod yX6_tear ∈ lw_ok := lw_at 962 (by decide +kernel) rfl
theorem se_X6_tear : Cond.selects RX6 yX6_tear yX6_tear ∈ lw_ok := lw_at 963 (by decide +kernel) rfl
theorem cd_X6_seed : Cond.code yX6_seed cX6_seed 3 (some .int) ∈ lw_ok := lw_at 968 (by decide +kernel) rfl
theorem bd_X6_seed : pBd yX6_seed = (0, 0) := by decide +kernel
theorem pp_X6_seed : pPar yX6_seed 1 := ⟨by decide +kernel, by decide +kernel, by decide +kernel⟩
theorem im_X6_seed : Cond.instanceMethod yX6_seed ∈ lw_ok := lw_at 966 (by decide +kernel) rfl
theorem se_X6_seed : Cond.selects RX6 yX6_seed yX6_seed ∈ lw_ok := lw_at 967 (by decide +kernel) rfl
theorem cd_X6_keep : Cond.code yX6_keep cX6_keep 2 (some .int) ∈ lw_ok := lw_at 972 (by decide +kernel) rfl
theorem bd_X6_keep : pBd yX6_keep = (0, 0) := by decide +kernel
theorem pp_X6_keep : pPar yX6_keep 1 := ⟨by decide +kernel, by decide +kernel, by decide +kernel⟩
theorem im_X6_keep : Cond.instanceMethod yX6_keep ∈ lw_ok := lw_at 970 (by decide +kernel) rfl
theorem se_X6_keep : Cond.selects RX6 yX6_keep yX6_keep ∈ lw_ok := lw_at 971 (by decide +kernel) rfl
theorem cd_X6_goBack : Cond.code yX6_goBack cX6_goBack 2 (some .int) ∈ lw_ok := lw_at 976 (by decide +kernel) rfl
theorem bd_X6_goBack : pBd yX6_goBack = (0, 0) := by decide +kernel
theorem pp_X6_goBack : pPar yX6_goBack 1 := ⟨by decide +kernel, by decide +kernel, by decide +kernel⟩
theorem im_X6_goBack : Cond.instanceMethod yX6_goBack ∈ lw_ok := lw_at 974 (by decide +kernel) rfl
theorem se_X6_goBack : Cond.selects RX6 yX6_goBack yX6_goBack ∈ lw_ok := lw_at 975 (by decide +kernel) rfl
theorem ml_RL_9 : Cond.methodLink RL 9 yX5_init ∈ lw_ok := lw_at 65 (by decide +kernel) rfl
theorem ml_RX5_1 : Cond.methodLink RX5 1 objectInit ∈ lw_ok := lw_at 68 (by decide +kernel) rfl
theorem ml_RX5_9 : Cond.methodLink RX5 9 yX4_init ∈ lw_ok := lw_at 73 (by decide +kernel) rfl
theorem ml_RX4_3 : Cond.methodLink RX4 3 objectInit ∈ lw_ok := lw_at 76 (by decide +kernel) rfl
theorem ml_RX4_37 : Cond.methodLink RX4 37 yX4_raise ∈ lw_ok := lw_at 77 (by decide +kernel) rfl
theorem ml_RX4_47 : Cond.methodLink RX4 47 yJ9_min_7cf53 ∈ lw_ok := lw_at 81 (by decide +kernel) rfl
theorem ml_RX4_62 : Cond.methodLinkNest RX4 62 yX5_fillRow RX5 ∈ lw_tbl := List.mem_of_getElem? (i := 84) (by decide +kernel)
theorem ml_RX5_21 : Cond.methodLinkNest RX5 21 yX3_init RX5 ∈ lw_tbl := List.mem_of_getElem? (i := 154) (by decide +kernel)
theorem ml_RX3_3 : Cond.methodLink RX3 3 objectInit ∈ lw_ok := lw_at 157 (by decide +kernel) rfl
theorem ml_RX5_31 : Cond.methodLink RX5 31 yX1_init ∈ lw_ok := lw_at 218 (by decide +kernel) rfl
theorem ml_RX1_3 : Cond.methodLink RX1 3 objectInit ∈ lw_ok := lw_at 221 (by decide +kernel) rfl
theorem ml_RX1_17 : Cond.methodLink RX1 17 yX4_init ∈ lw_ok := lw_at 224 (by decide +kernel) rfl
theorem ml_RX5_38 : Cond.methodLinkNest RX5 38 yX0_init RX5 ∈ lw_tbl := List.mem_of_getElem? (i := 238) (by decide +kernel)
theorem ml_RX0_3 : Cond.methodLink RX0 3 objectInit ∈ lw_ok := lw_at 241 (by decide +kernel) rfl
theorem ml_RX5_49 : Cond.methodLinkNest RX5 49 yX2_init RX5 ∈ lw_tbl := List.mem_of_getElem? (i := 257) (by decide +kernel)
theorem ml_RX2_1 : Cond.methodLink RX2 1 objectInit ∈ lw_ok := lw_at 260 (by decide +kernel) rfl
theorem ml_RX2_9 : Cond.methodLink RX2 9 yX4_init ∈ lw_ok := lw_at 262 (by decide +kernel) rfl
theorem ml_RL_13 : Cond.methodLink RL 13 yX5_told ∈ lw_ok := lw_at 302 (by decide +kernel) rfl
theorem ml_RX5_63 : Cond.methodLink RX5 63 yX4_stock ∈ lw_ok := lw_at 306 (by decide +kernel) rfl
theorem ml_RX4_106 : Cond.methodLink RX4 106 yX4_broughtBy ∈ lw_ok := lw_at 310 (by decide +kernel) rfl
theorem ml_RX4_90 : Cond.methodLink RX4 90 yX4_usedLoads ∈ lw_ok := lw_at 314 (by decide +kernel) rfl
theorem ml_RX4_70 : Cond.methodLink RX4 70 yX4_isPoured ∈ lw_ok := lw_at 318 (by decide +kernel) rfl
theorem ml_RX5_67 : Cond.methodLink RX5 67 yX4_pouredSet ∈ lw_ok := lw_at 322 (by decide +kernel) rfl
theorem ml_RX5_70 : Cond.methodLink RX5 70 yX4_canSet ∈ lw_ok := lw_at 326 (by decide +kernel) rfl
theorem ml_RX4_84 : Cond.methodLink RX4 84 yX4_startOf ∈ lw_ok := lw_at 330 (by decide +kernel) rfl
theorem ml_RX4_87 : Cond.methodLink RX4 87 yX4_isCell ∈ lw_ok := lw_at 334 (by decide +kernel) rfl
theorem ml_RX4_93 : Cond.methodLink RX4 93 yX4_broughtAt ∈ lw_ok := lw_at 338 (by decide +kernel) rfl
theorem ml_RX4_96 : Cond.methodLink RX4 96 yJ9_max_7cf53 ∈ lw_ok := lw_at 342 (by decide +kernel) rfl
theorem ml_RX5_82 : Cond.methodLink RX5 82 yX4_joints ∈ lw_ok := lw_at 345 (by decide +kernel) rfl
theorem ml_RX4_121 : Cond.methodLink RX4 121 yX4_edges ∈ lw_ok := lw_at 349 (by decide +kernel) rfl
theorem ml_RX4_118 : Cond.methodLink RX4 118 yX4_isJoint ∈ lw_ok := lw_at 353 (by decide +kernel) rfl
theorem ml_RX4_112 : Cond.methodLink RX4 112 yX4_ageOf ∈ lw_ok := lw_at 357 (by decide +kernel) rfl
theorem ml_RX4_109 : Cond.methodLink RX4 109 yX4_across ∈ lw_ok := lw_at 361 (by decide +kernel) rfl
theorem ml_RX5_85 : Cond.methodLink RX5 85 yX4_harm ∈ lw_ok := lw_at 365 (by decide +kernel) rfl
theorem ml_RX4_124 : Cond.methodLink RX4 124 yX4_harmOf ∈ lw_ok := lw_at 369 (by decide +kernel) rfl
theorem ml_RX5_88 : Cond.methodLink RX5 88 yX4_firstToSet ∈ lw_ok := lw_at 373 (by decide +kernel) rfl
theorem ml_RX4_128 : Cond.methodLink RX4 128 yX4_timeLeft ∈ lw_ok := lw_at 378 (by decide +kernel) rfl
theorem ml_RX4_115 : Cond.methodLink RX4 115 yX4_isOpen ∈ lw_ok := lw_at 382 (by decide +kernel) rfl
theorem ml_RX5_91 : Cond.methodLink RX5 91 yX5_plan ∈ lw_ok := lw_at 386 (by decide +kernel) rfl
theorem ml_RX5_259 : Cond.methodLink RX5 259 yX3_search ∈ lw_ok := lw_at 391 (by decide +kernel) rfl
theorem ml_RX3_45 : Cond.methodLink RX3 45 yX3_readWall ∈ lw_ok := lw_at 395 (by decide +kernel) rfl
theorem ml_RX3_49 : Cond.methodLink RX3 49 yX3_readCells ∈ lw_ok := lw_at 399 (by decide +kernel) rfl
theorem ml_RX3_110 : Cond.methodLink RX3 110 yX4_isPoured ∈ lw_ok := lw_at 403 (by decide +kernel) rfl
theorem ml_RX3_115 : Cond.methodLink RX3 115 yJ9_min_7cf53 ∈ lw_ok := lw_at 405 (by decide +kernel) rfl
theorem ml_RX3_52 : Cond.methodLink RX3 52 yX3_readArrivals ∈ lw_ok := lw_at 406 (by decide +kernel) rfl
theorem ml_RX3_121 : Cond.methodLinkNest RX3 121 yX5_fillRow RX5 ∈ lw_tbl := List.mem_of_getElem? (i := 410) (by decide +kernel)
theorem ml_RX3_131 : Cond.methodLink RX3 131 yX4_broughtBy ∈ lw_ok := lw_at 411 (by decide +kernel) rfl
theorem ml_RX3_62 : Cond.methodLink RX3 62 yX3_arrivalOf ∈ lw_ok := lw_at 412 (by decide +kernel) rfl
theorem ml_RX3_71 : Cond.methodLink RX3 71 yX3_harmCovered ∈ lw_ok := lw_at 416 (by decide +kernel) rfl
theorem ml_RX3_134 : Cond.methodLink RX3 134 yX3_harmCovering ∈ lw_ok := lw_at 420 (by decide +kernel) rfl
theorem ml_RX3_75 : Cond.methodLink RX3 75 yX4_usedLoads ∈ lw_ok := lw_at 424 (by decide +kernel) rfl
theorem ml_RX3_78 : Cond.methodLink RX3 78 yX3_extend ∈ lw_ok := lw_at 425 (by decide +kernel) rfl
theorem ml_RX3_137 : Cond.methodLink RX3 137 yX3_take ∈ lw_ok := lw_at 429 (by decide +kernel) rfl
theorem ml_RX3_153 : Cond.methodLink RX3 153 yX3_mayBeBetter ∈ lw_ok := lw_at 433 (by decide +kernel) rfl
theorem ml_RX3_157 : Cond.methodLinkNest RX3 157 yX5_copyRow RX5 ∈ lw_tbl := List.mem_of_getElem? (i := 437) (by decide +kernel)
theorem ml_RX3_141 : Cond.methodLink RX3 141 yX3_isNext ∈ lw_ok := lw_at 440 (by decide +kernel) rfl
theorem ml_RX3_144 : Cond.methodLink RX3 144 yJ9_max_7cf53 ∈ lw_ok := lw_at 444 (by decide +kernel) rfl
theorem ml_RX3_147 : Cond.methodLink RX3 147 yX3_harmToCome ∈ lw_ok := lw_at 445 (by decide +kernel) rfl
theorem ml_RX3_150 : Cond.methodLink RX3 150 yX3_leastEnd ∈ lw_ok := lw_at 449 (by decide +kernel) rfl
theorem ml_RX5_95 : Cond.methodLink RX5 95 yX3_leastHarm ∈ lw_ok := lw_at 453 (by decide +kernel) rfl
theorem ml_RX5_98 : Cond.methodLink RX5 98 yX3_earliestEnd ∈ lw_ok := lw_at 457 (by decide +kernel) rfl
theorem ml_RX5_101 : Cond.methodLink RX5 101 yX5_mayWait ∈ lw_ok := lw_at 461 (by decide +kernel) rfl
theorem ml_RX5_224 : Cond.methodLink RX5 224 yX4_copyFrom ∈ lw_ok := lw_at 465 (by decide +kernel) rfl
theorem ml_RX4_66 : Cond.methodLinkNest RX4 66 yX5_copyRow RX5 ∈ lw_tbl := List.mem_of_getElem? (i := 469) (by decide +kernel)
theorem ml_RX5_269 : Cond.methodLink RX5 269 yX3_leastHarmIs ∈ lw_ok := lw_at 470 (by decide +kernel) rfl
theorem ml_RX3_27 : Cond.methodLink RX3 27 yX3_search ∈ lw_ok := lw_at 474 (by decide +kernel) rfl
theorem ml_RX5_104 : Cond.methodLink RX5 104 yX4_stoppedHarm ∈ lw_ok := lw_at 475 (by decide +kernel) rfl
theorem ml_RX5_110 : Cond.methodLink RX5 110 yX0_firstWrong ∈ lw_ok := lw_at 479 (by decide +kernel) rfl
theorem ml_RX0_27 : Cond.methodLink RX0 27 yX4_isEdge ∈ lw_ok := lw_at 483 (by decide +kernel) rfl
theorem ml_RX0_33 : Cond.methodLink RX0 33 yX4_isJoint ∈ lw_ok := lw_at 487 (by decide +kernel) rfl
theorem ml_RL_18 : Cond.methodLink RL 18 yX5_cell ∈ lw_ok := lw_at 489 (by decide +kernel) rfl
theorem ml_RX5_118 : Cond.methodLink RX5 118 yX4_isCell ∈ lw_ok := lw_at 493 (by decide +kernel) rfl
theorem ml_RX5_133 : Cond.methodLink RX5 133 yX4_startOf ∈ lw_ok := lw_at 495 (by decide +kernel) rfl
theorem ml_RX5_137 : Cond.methodLink RX5 137 yX5_harmBehind ∈ lw_ok := lw_at 496 (by decide +kernel) rfl
theorem ml_RX5_204 : Cond.methodLink RX5 204 yX4_fill ∈ lw_ok := lw_at 500 (by decide +kernel) rfl
theorem ml_RL_23 : Cond.methodLink RL 23 yX5_edge ∈ lw_ok := lw_at 504 (by decide +kernel) rfl
theorem ml_RX5_140 : Cond.methodLink RX5 140 yX4_isEdge ∈ lw_ok := lw_at 508 (by decide +kernel) rfl
theorem ml_RX5_143 : Cond.methodLink RX5 143 yX4_isOpen ∈ lw_ok := lw_at 509 (by decide +kernel) rfl
theorem ml_RX5_146 : Cond.methodLink RX5 146 yX4_isJoint ∈ lw_ok := lw_at 510 (by decide +kernel) rfl
theorem ml_RX5_149 : Cond.methodLink RX5 149 yX4_timeLeft ∈ lw_ok := lw_at 511 (by decide +kernel) rfl
theorem ml_RL_27 : Cond.methodLink RL 27 yX5_truckAt ∈ lw_ok := lw_at 512 (by decide +kernel) rfl
theorem ml_RX5_152 : Cond.methodLink RX5 152 yX4_isTruck ∈ lw_ok := lw_at 516 (by decide +kernel) rfl
theorem ml_RX5_161 : Cond.methodLink RX5 161 yX5_mayBeLate ∈ lw_ok := lw_at 520 (by decide +kernel) rfl
theorem ml_RX5_273 : Cond.methodLink RX5 273 yJ9_min_7cf53 ∈ lw_ok := lw_at 524 (by decide +kernel) rfl
theorem ml_RX5_263 : Cond.methodLink RX5 263 yX4_delay ∈ lw_ok := lw_at 525 (by decide +kernel) rfl
theorem ml_RX4_103 : Cond.methodLink RX4 103 yX4_isTruck ∈ lw_ok := lw_at 529 (by decide +kernel) rfl
theorem ml_RL_31 : Cond.methodLink RL 31 yX5_build ∈ lw_ok := lw_at 530 (by decide +kernel) rfl
theorem ml_RX5_164 : Cond.methodLink RX5 164 yX5_within ∈ lw_ok := lw_at 534 (by decide +kernel) rfl
theorem ml_RX5_168 : Cond.methodLink RX5 168 yX4_pouredCount ∈ lw_ok := lw_at 537 (by decide +kernel) rfl
theorem ml_RX4_74 : Cond.methodLink RX4 74 yX4_pouredSet ∈ lw_ok := lw_at 541 (by decide +kernel) rfl
theorem ml_RX4_78 : Cond.methodLink RX4 78 yJ6_bitCount_0f7a4 ∈ lw_ok := lw_at 542 (by decide +kernel) rfl
theorem ml_RX5_171 : Cond.methodLink RX5 171 yX5_beforeDeed ∈ lw_ok := lw_at 548 (by decide +kernel) rfl
theorem ml_RX5_255 : Cond.methodLink RX5 255 yX1_remember ∈ lw_ok := lw_at 552 (by decide +kernel) rfl
theorem ml_RX1_22 : Cond.methodLink RX1 22 yX4_copyFrom ∈ lw_ok := lw_at 556 (by decide +kernel) rfl
theorem ml_RX1_29 : Cond.methodLink RX1 29 yJ9_min_7cf53 ∈ lw_ok := lw_at 557 (by decide +kernel) rfl
theorem ml_RX5_174 : Cond.methodLink RX5 174 yX4_raise ∈ lw_ok := lw_at 558 (by decide +kernel) rfl
theorem ml_RL_35 : Cond.methodLink RL 35 yX5_truck ∈ lw_ok := lw_at 559 (by decide +kernel) rfl
theorem ml_RX5_178 : Cond.methodLink RX5 178 yX4_hasTruckRoom ∈ lw_ok := lw_at 563 (by decide +kernel) rfl
theorem ml_RX5_183 : Cond.methodLink RX5 183 yX4_addTruck ∈ lw_ok := lw_at 568 (by decide +kernel) rfl
theorem ml_RX4_99 : Cond.methodLink RX4 99 yX4_hasTruckRoom ∈ lw_ok := lw_at 572 (by decide +kernel) rfl
theorem ml_RL_39 : Cond.methodLink RL 39 yX5_late ∈ lw_ok := lw_at 573 (by decide +kernel) rfl
theorem ml_RX5_186 : Cond.methodLink RX5 186 yX5_stockIfLate ∈ lw_ok := lw_at 577 (by decide +kernel) rfl
theorem ml_RL_43 : Cond.methodLink RL 43 yX5_away ∈ lw_ok := lw_at 582 (by decide +kernel) rfl
theorem ml_RX5_191 : Cond.methodLink RX5 191 yX5_stockWithout ∈ lw_ok := lw_at 586 (by decide +kernel) rfl
theorem ml_RX5_194 : Cond.methodLink RX5 194 yX4_dropTruck ∈ lw_ok := lw_at 590 (by decide +kernel) rfl
theorem ml_RL_47 : Cond.methodLink RL 47 yX5_need ∈ lw_ok := lw_at 594 (by decide +kernel) rfl
theorem ml_RX5_198 : Cond.methodLink RX5 198 yX4_isPoured ∈ lw_ok := lw_at 598 (by decide +kernel) rfl
theorem ml_RL_51 : Cond.methodLink RL 51 yX5_bound ∈ lw_ok := lw_at 599 (by decide +kernel) rfl
theorem ml_RX5_201 : Cond.methodLink RX5 201 yX4_swapBound ∈ lw_ok := lw_at 603 (by decide +kernel) rfl
theorem ml_RL_55 : Cond.methodLink RL 55 yX5_pour ∈ lw_ok := lw_at 607 (by decide +kernel) rfl
theorem ml_RL_59 : Cond.methodLink RL 59 yX5_rest ∈ lw_ok := lw_at 611 (by decide +kernel) rfl
theorem ml_RL_63 : Cond.methodLink RL 63 yX5_follow ∈ lw_ok := lw_at 615 (by decide +kernel) rfl
theorem ml_RX5_207 : Cond.methodLink RX5 207 yX3_cellAt ∈ lw_ok := lw_at 619 (by decide +kernel) rfl
theorem ml_RL_68 : Cond.methodLink RL 68 yX5_drift ∈ lw_ok := lw_at 623 (by decide +kernel) rfl
theorem ml_RX5_210 : Cond.methodLink RX5 210 yX5_driftOnce ∈ lw_ok := lw_at 627 (by decide +kernel) rfl
theorem ml_RX5_285 : Cond.methodLink RX5 285 yX5_draw ∈ lw_ok := lw_at 631 (by decide +kernel) rfl
theorem ml_RX5_291 : Cond.methodLink RX5 291 yJ9_max_7cf53 ∈ lw_ok := lw_at 639 (by decide +kernel) rfl
theorem ml_RL_72 : Cond.methodLink RL 72 yX5_undo ∈ lw_ok := lw_at 640 (by decide +kernel) rfl
theorem ml_RX5_213 : Cond.methodLink RX5 213 yX1_takeBack ∈ lw_ok := lw_at 644 (by decide +kernel) rfl
theorem ml_RL_76 : Cond.methodLink RL 76 yX5_best ∈ lw_ok := lw_at 648 (by decide +kernel) rfl
theorem ml_RL_80 : Cond.methodLink RL 80 yX5_stop ∈ lw_ok := lw_at 652 (by decide +kernel) rfl
theorem ml_RL_84 : Cond.methodLink RL 84 yX5_write ∈ lw_ok := lw_at 656 (by decide +kernel) rfl
theorem ml_RX5_229 : Cond.methodLink RX5 229 yX0_hasRoom ∈ lw_ok := lw_at 660 (by decide +kernel) rfl
theorem ml_RX5_232 : Cond.methodLink RX5 232 yX0_enter ∈ lw_ok := lw_at 664 (by decide +kernel) rfl
theorem ml_RX0_23 : Cond.methodLink RX0 23 yX0_hasRoom ∈ lw_ok := lw_at 668 (by decide +kernel) rfl
theorem ml_RL_89 : Cond.methodLink RL 89 yX5_tear ∈ lw_ok := lw_at 669 (by decide +kernel) rfl
theorem ml_RL_93 : Cond.methodLink RL 93 yX5_seed ∈ lw_ok := lw_at 673 (by decide +kernel) rfl
theorem ml_RL_97 : Cond.methodLink RL 97 yX5_keep ∈ lw_ok := lw_at 677 (by decide +kernel) rfl
theorem ml_RX5_239 : Cond.methodLink RX5 239 yX5_imageAt ∈ lw_ok := lw_at 681 (by decide +kernel) rfl
theorem ml_RX5_252 : Cond.methodLink RX5 252 yX1_forget ∈ lw_ok := lw_at 685 (by decide +kernel) rfl
theorem ml_RL_101 : Cond.methodLink RL 101 yX5_goBack ∈ lw_ok := lw_at 689 (by decide +kernel) rfl
theorem ml_RL_12 : Cond.methodLink RL 12 yX6_init ∈ lw_ok := lw_at 695 (by decide +kernel) rfl
theorem ml_RX6_1 : Cond.methodLink RX6 1 objectInit ∈ lw_ok := lw_at 698 (by decide +kernel) rfl
theorem ml_RX6_35 : Cond.methodLink RX6 35 yX6_builds ∈ lw_ok := lw_at 699 (by decide +kernel) rfl
theorem ml_RL_17 : Cond.methodLink RL 17 yX6_told ∈ lw_ok := lw_at 746 (by decide +kernel) rfl
theorem ml_RX6_62 : Cond.methodLink RX6 62 yX6_brought ∈ lw_ok := lw_at 750 (by decide +kernel) rfl
theorem ml_RX6_58 : Cond.methodLink RX6 58 yX6_used ∈ lw_ok := lw_at 754 (by decide +kernel) rfl
theorem ml_RX6_54 : Cond.methodLink RX6 54 yX6_isPoured ∈ lw_ok := lw_at 758 (by decide +kernel) rfl
theorem ml_RX6_111 : Cond.methodLink RX6 111 yX6_poured ∈ lw_ok := lw_at 762 (by decide +kernel) rfl
theorem ml_RX6_46 : Cond.methodLink RX6 46 yX6_cells ∈ lw_ok := lw_at 766 (by decide +kernel) rfl
theorem ml_RX6_114 : Cond.methodLink RX6 114 yX6_can ∈ lw_ok := lw_at 770 (by decide +kernel) rfl
theorem ml_RX6_67 : Cond.methodLink RX6 67 yX6_beginOf ∈ lw_ok := lw_at 774 (by decide +kernel) rfl
theorem ml_RX6_117 : Cond.methodLink RX6 117 yX6_joints ∈ lw_ok := lw_at 779 (by decide +kernel) rfl
theorem ml_RX6_73 : Cond.methodLink RX6 73 yX6_isJoint ∈ lw_ok := lw_at 783 (by decide +kernel) rfl
theorem ml_RX6_70 : Cond.methodLink RX6 70 yX6_beyond ∈ lw_ok := lw_at 787 (by decide +kernel) rfl
theorem ml_RX6_50 : Cond.methodLink RX6 50 yX6_in ∈ lw_ok := lw_at 791 (by decide +kernel) rfl
theorem ml_RX6_82 : Cond.methodLink RX6 82 yX6_harm ∈ lw_ok := lw_at 794 (by decide +kernel) rfl
theorem ml_RX6_76 : Cond.methodLink RX6 76 yX6_isOpen ∈ lw_ok := lw_at 798 (by decide +kernel) rfl
theorem ml_RX6_120 : Cond.methodLink RX6 120 yX6_firstToSet ∈ lw_ok := lw_at 802 (by decide +kernel) rfl
theorem ml_RX6_79 : Cond.methodLink RX6 79 yX6_left ∈ lw_ok := lw_at 806 (by decide +kernel) rfl
theorem ml_RX6_123 : Cond.methodLink RX6 123 yX6_ofBest ∈ lw_ok := lw_at 810 (by decide +kernel) rfl
theorem ml_RX6_105 : Cond.methodLink RX6 105 yX6_finds ∈ lw_ok := lw_at 814 (by decide +kernel) rfl
theorem ml_RX6_43 : Cond.methodLink RX6 43 yX6_copy ∈ lw_ok := lw_at 818 (by decide +kernel) rfl
theorem ml_RX6_102 : Cond.methodLink RX6 102 yX6_seeks ∈ lw_ok := lw_at 822 (by decide +kernel) rfl
theorem ml_RX6_95 : Cond.methodLink RX6 95 yX6_weighs ∈ lw_ok := lw_at 826 (by decide +kernel) rfl
theorem ml_RX6_99 : Cond.methodLink RX6 99 yX6_pours ∈ lw_ok := lw_at 830 (by decide +kernel) rfl
theorem ml_RX6_126 : Cond.methodLink RX6 126 yX6_mayWait ∈ lw_ok := lw_at 834 (by decide +kernel) rfl
theorem ml_RX6_129 : Cond.methodLink RX6 129 yX6_wrong ∈ lw_ok := lw_at 838 (by decide +kernel) rfl
theorem ml_RL_22 : Cond.methodLink RL 22 yX6_cell ∈ lw_ok := lw_at 843 (by decide +kernel) rfl
theorem ml_RX6_133 : Cond.methodLink RX6 133 yX6_isCell ∈ lw_ok := lw_at 847 (by decide +kernel) rfl
theorem ml_RX6_138 : Cond.methodLink RX6 138 yX6_harmBehind ∈ lw_ok := lw_at 852 (by decide +kernel) rfl
theorem ml_RL_26 : Cond.methodLink RL 26 yX6_edge ∈ lw_ok := lw_at 856 (by decide +kernel) rfl
theorem ml_RL_30 : Cond.methodLink RL 30 yX6_truckAt ∈ lw_ok := lw_at 860 (by decide +kernel) rfl
theorem ml_RX6_141 : Cond.methodLink RX6 141 yX6_isTruck ∈ lw_ok := lw_at 864 (by decide +kernel) rfl
theorem ml_RX6_144 : Cond.methodLink RX6 144 yX6_mayBeLate ∈ lw_ok := lw_at 868 (by decide +kernel) rfl
theorem ml_RL_34 : Cond.methodLink RL 34 yX6_build ∈ lw_ok := lw_at 872 (by decide +kernel) rfl
theorem ml_RX6_149 : Cond.methodLink RX6 149 yX6_ones ∈ lw_ok := lw_at 877 (by decide +kernel) rfl
theorem ml_RX6_152 : Cond.methodLink RX6 152 yX6_minds ∈ lw_ok := lw_at 880 (by decide +kernel) rfl
theorem ml_RL_38 : Cond.methodLink RL 38 yX6_truck ∈ lw_ok := lw_at 884 (by decide +kernel) rfl
theorem ml_RX6_160 : Cond.methodLink RX6 160 yX6_comes ∈ lw_ok := lw_at 891 (by decide +kernel) rfl
theorem ml_RL_42 : Cond.methodLink RL 42 yX6_late ∈ lw_ok := lw_at 895 (by decide +kernel) rfl
theorem ml_RL_46 : Cond.methodLink RL 46 yX6_away ∈ lw_ok := lw_at 901 (by decide +kernel) rfl
theorem ml_RL_50 : Cond.methodLink RL 50 yX6_need ∈ lw_ok := lw_at 905 (by decide +kernel) rfl
theorem ml_RL_54 : Cond.methodLink RL 54 yX6_bound ∈ lw_ok := lw_at 909 (by decide +kernel) rfl
theorem ml_RL_58 : Cond.methodLink RL 58 yX6_pour ∈ lw_ok := lw_at 916 (by decide +kernel) rfl
theorem ml_RL_62 : Cond.methodLink RL 62 yX6_rest ∈ lw_ok := lw_at 920 (by decide +kernel) rfl
theorem ml_RL_67 : Cond.methodLink RL 67 yX6_follow ∈ lw_ok := lw_at 924 (by decide +kernel) rfl
theorem ml_RL_71 : Cond.methodLink RL 71 yX6_drift ∈ lw_ok := lw_at 928 (by decide +kernel) rfl
theorem ml_RX6_187 : Cond.methodLink RX6 187 yX6_draws ∈ lw_ok := lw_at 933 (by decide +kernel) rfl
theorem ml_RX6_182 : Cond.methodLink RX6 182 yX6_draw ∈ lw_ok := lw_at 937 (by decide +kernel) rfl
theorem ml_RL_75 : Cond.methodLink RL 75 yX6_undo ∈ lw_ok := lw_at 945 (by decide +kernel) rfl
theorem ml_RL_79 : Cond.methodLink RL 79 yX6_best ∈ lw_ok := lw_at 949 (by decide +kernel) rfl
theorem ml_RL_83 : Cond.methodLink RL 83 yX6_stop ∈ lw_ok := lw_at 953 (by decide +kernel) rfl
theorem ml_RL_88 : Cond.methodLink RL 88 yX6_write ∈ lw_ok := lw_at 957 (by decide +kernel) rfl
theorem ml_RL_92 : Cond.methodLink RL 92 yX6_tear ∈ lw_ok := lw_at 961 (by decide +kernel) rfl
theorem ml_RL_96 : Cond.methodLink RL 96 yX6_seed ∈ lw_ok := lw_at 965 (by decide +kernel) rfl
theorem ml_RL_100 : Cond.methodLink RL 100 yX6_keep ∈ lw_ok := lw_at 969 (by decide +kernel) rfl
theorem ml_RL_104 : Cond.methodLink RL 104 yX6_goBack ∈ lw_ok := lw_at 973 (by decide +kernel) rfl
