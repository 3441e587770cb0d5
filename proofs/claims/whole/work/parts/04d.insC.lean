theorem i_X8_init_0 : ins MX8_init 0 = some (.aload_n 0) := by decide +kernel
theorem i_X8_init_1 : ins MX8_init 1 = some (.invokespecial 1) := by decide +kernel
theorem i_X8_init_4 : ins MX8_init 4 = some (.aload_n 0) := by decide +kernel
theorem i_X8_init_5 : ins MX8_init 5 = some (.iconst 4) := by decide +kernel
theorem i_X8_init_6 : ins MX8_init 6 = some (.newarray .int) := by decide +kernel
theorem i_X8_init_8 : ins MX8_init 8 = some (.putfield 7) := by decide +kernel
theorem i_X8_init_11 : ins MX8_init 11 = some (.aload_n 0) := by decide +kernel
theorem i_X8_init_12 : ins MX8_init 12 = some (.sipush 256) := by decide +kernel
theorem i_X8_init_15 : ins MX8_init 15 = some (.newarray .int) := by decide +kernel
theorem i_X8_init_17 : ins MX8_init 17 = some (.putfield 13) := by decide +kernel
theorem i_X8_init_20 : ins MX8_init 20 = some (.aload_n 0) := by decide +kernel
theorem i_X8_init_21 : ins MX8_init 21 = some (.bipush 64) := by decide +kernel
theorem i_X8_init_23 : ins MX8_init 23 = some (.newarray .boolean) := by decide +kernel
theorem i_X8_init_25 : ins MX8_init 25 = some (.putfield 16) := by decide +kernel
theorem i_X8_init_28 : ins MX8_init 28 = some (.aload_n 0) := by decide +kernel
theorem i_X8_init_29 : ins MX8_init 29 = some (.bipush 100) := by decide +kernel
theorem i_X8_init_31 : ins MX8_init 31 = some (.newarray .int) := by decide +kernel
theorem i_X8_init_33 : ins MX8_init 33 = some (.putfield 20) := by decide +kernel
theorem i_X8_init_36 : ins MX8_init 36 = some (.aload_n 0) := by decide +kernel
theorem i_X8_init_37 : ins MX8_init 37 = some (.bipush 100) := by decide +kernel
theorem i_X8_init_39 : ins MX8_init 39 = some (.newarray .boolean) := by decide +kernel
theorem i_X8_init_41 : ins MX8_init 41 = some (.putfield 23) := by decide +kernel
theorem i_X8_init_44 : ins MX8_init 44 = some (.aload_n 0) := by decide +kernel
theorem i_X8_init_45 : ins MX8_init 45 = some (.sipush 400) := by decide +kernel
theorem i_X8_init_48 : ins MX8_init 48 = some (.newarray .int) := by decide +kernel
theorem i_X8_init_50 : ins MX8_init 50 = some (.putfield 26) := by decide +kernel
theorem i_X8_init_53 : ins MX8_init 53 = some (.aload_n 0) := by decide +kernel
theorem i_X8_init_54 : ins MX8_init 54 = some (.sipush 192) := by decide +kernel
theorem i_X8_init_57 : ins MX8_init 57 = some (.newarray .boolean) := by decide +kernel
theorem i_X8_init_59 : ins MX8_init 59 = some (.putfield 29) := by decide +kernel
theorem i_X8_init_62 : ins MX8_init 62 = some (.aload_n 0) := by decide +kernel
theorem i_X8_init_63 : ins MX8_init 63 = some (.sipush 768) := by decide +kernel
theorem i_X8_init_66 : ins MX8_init 66 = some (.newarray .int) := by decide +kernel
theorem i_X8_init_68 : ins MX8_init 68 = some (.putfield 32) := by decide +kernel
theorem i_X8_init_71 : ins MX8_init 71 = some (.aload_n 0) := by decide +kernel
theorem i_X8_init_72 : ins MX8_init 72 = some (.iconst 4) := by decide +kernel
theorem i_X8_init_73 : ins MX8_init 73 = some (.newarray .int) := by decide +kernel
theorem i_X8_init_75 : ins MX8_init 75 = some (.putfield 35) := by decide +kernel
theorem i_X8_init_78 : ins MX8_init 78 = some (.aload_n 0) := by decide +kernel
theorem i_X8_init_79 : ins MX8_init 79 = some (.iconst 4) := by decide +kernel
theorem i_X8_init_80 : ins MX8_init 80 = some (.newarray .int) := by decide +kernel
theorem i_X8_init_82 : ins MX8_init 82 = some (.putfield 38) := by decide +kernel
theorem i_X8_init_85 : ins MX8_init 85 = some (.aload_n 0) := by decide +kernel
theorem i_X8_init_86 : ins MX8_init 86 = some (.bipush 24) := by decide +kernel
theorem i_X8_init_88 : ins MX8_init 88 = some (.newarray .int) := by decide +kernel
theorem i_X8_init_90 : ins MX8_init 90 = some (.putfield 41) := by decide +kernel
theorem i_X8_init_93 : ins MX8_init 93 = some (.aload_n 0) := by decide +kernel
theorem i_X8_init_94 : ins MX8_init 94 = some (.iconst 4) := by decide +kernel
theorem i_X8_init_95 : ins MX8_init 95 = some (.newarray .int) := by decide +kernel
theorem i_X8_init_97 : ins MX8_init 97 = some (.putfield 44) := by decide +kernel
theorem i_X8_init_100 : ins MX8_init 100 = some (.aload_n 0) := by decide +kernel
theorem i_X8_init_101 : ins MX8_init 101 = some (.sipush 256) := by decide +kernel
theorem i_X8_init_104 : ins MX8_init 104 = some (.newarray .boolean) := by decide +kernel
theorem i_X8_init_106 : ins MX8_init 106 = some (.putfield 47) := by decide +kernel
theorem i_X8_init_109 : ins MX8_init 109 = some (.aload_n 0) := by decide +kernel
theorem i_X8_init_110 : ins MX8_init 110 = some (.bipush 6) := by decide +kernel
theorem i_X8_init_112 : ins MX8_init 112 = some (.newarray .int) := by decide +kernel
theorem i_X8_init_114 : ins MX8_init 114 = some (.putfield 50) := by decide +kernel
theorem i_X8_init_117 : ins MX8_init 117 = some (.aload_n 0) := by decide +kernel
theorem i_X8_init_118 : ins MX8_init 118 = some (.bipush 6) := by decide +kernel
theorem i_X8_init_120 : ins MX8_init 120 = some (.newarray .int) := by decide +kernel
theorem i_X8_init_122 : ins MX8_init 122 = some (.putfield 53) := by decide +kernel
theorem i_X8_init_125 : ins MX8_init 125 = some (.aload_n 0) := by decide +kernel
theorem i_X8_init_126 : ins MX8_init 126 = some (.bipush 60) := by decide +kernel
theorem i_X8_init_128 : ins MX8_init 128 = some (.newarray .int) := by decide +kernel
theorem i_X8_init_130 : ins MX8_init 130 = some (.putfield 56) := by decide +kernel
theorem i_X8_init_133 : ins MX8_init 133 = some (.aload_n 0) := by decide +kernel
theorem i_X8_init_134 : ins MX8_init 134 = some (.bipush 8) := by decide +kernel
theorem i_X8_init_136 : ins MX8_init 136 = some (.newarray .int) := by decide +kernel
theorem i_X8_init_138 : ins MX8_init 138 = some (.putfield 59) := by decide +kernel
theorem i_X8_init_141 : ins MX8_init 141 = some (.aload_n 0) := by decide +kernel
theorem i_X8_init_142 : ins MX8_init 142 = some (.sipush 480) := by decide +kernel
theorem i_X8_init_145 : ins MX8_init 145 = some (.newarray .int) := by decide +kernel
theorem i_X8_init_147 : ins MX8_init 147 = some (.putfield 62) := by decide +kernel
theorem i_X8_init_150 : ins MX8_init 150 = some (.aload_n 0) := by decide +kernel
theorem i_X8_init_151 : ins MX8_init 151 = some (.sipush 480) := by decide +kernel
theorem i_X8_init_154 : ins MX8_init 154 = some (.newarray .int) := by decide +kernel
theorem i_X8_init_156 : ins MX8_init 156 = some (.putfield 65) := by decide +kernel
theorem i_X8_init_159 : ins MX8_init 159 = some (.aload_n 0) := by decide +kernel
theorem i_X8_init_160 : ins MX8_init 160 = some (.bipush 60) := by decide +kernel
theorem i_X8_init_162 : ins MX8_init 162 = some (.newarray .int) := by decide +kernel
theorem i_X8_init_164 : ins MX8_init 164 = some (.putfield 68) := by decide +kernel
theorem i_X8_init_167 : ins MX8_init 167 = some (.aload_n 0) := by decide +kernel
theorem i_X8_init_168 : ins MX8_init 168 = some (.bipush 60) := by decide +kernel
theorem i_X8_init_170 : ins MX8_init 170 = some (.newarray .int) := by decide +kernel
theorem i_X8_init_172 : ins MX8_init 172 = some (.putfield 71) := by decide +kernel
theorem i_X8_init_175 : ins MX8_init 175 = some (.aload_n 0) := by decide +kernel
theorem i_X8_init_176 : ins MX8_init 176 = some (.bipush 60) := by decide +kernel
theorem i_X8_init_178 : ins MX8_init 178 = some (.newarray .int) := by decide +kernel
theorem i_X8_init_180 : ins MX8_init 180 = some (.putfield 74) := by decide +kernel
theorem i_X8_init_183 : ins MX8_init 183 = some (.aload_n 0) := by decide +kernel
theorem i_X8_init_184 : ins MX8_init 184 = some (.bipush 61) := by decide +kernel
theorem i_X8_init_186 : ins MX8_init 186 = some (.newarray .boolean) := by decide +kernel
theorem i_X8_init_188 : ins MX8_init 188 = some (.putfield 77) := by decide +kernel
theorem i_X8_init_191 : ins MX8_init 191 = some (.aload_n 0) := by decide +kernel
theorem i_X8_init_192 : ins MX8_init 192 = some (.bipush 64) := by decide +kernel
theorem i_X8_init_194 : ins MX8_init 194 = some (.newarray .int) := by decide +kernel
theorem i_X8_init_196 : ins MX8_init 196 = some (.putfield 80) := by decide +kernel
theorem i_X8_init_199 : ins MX8_init 199 = some (.aload_n 0) := by decide +kernel
theorem i_X8_init_200 : ins MX8_init 200 = some (.iconst 4) := by decide +kernel
theorem i_X8_init_201 : ins MX8_init 201 = some (.newarray .int) := by decide +kernel
theorem i_X8_init_203 : ins MX8_init 203 = some (.putfield 83) := by decide +kernel
theorem i_X8_init_206 : ins MX8_init 206 = some (.iconst 0) := by decide +kernel
theorem i_X8_init_207 : ins MX8_init 207 = some (.istore_n 1) := by decide +kernel
theorem i_X8_init_208 : ins MX8_init 208 = some (.iload_n 1) := by decide +kernel
theorem i_X8_init_209 : ins MX8_init 209 = some (.iconst 4) := by decide +kernel
theorem i_X8_init_210 : ins MX8_init 210 = some (.if_icmp .ge 35) := by decide +kernel
theorem i_X8_init_213 : ins MX8_init 213 = some (.aload_n 0) := by decide +kernel
theorem i_X8_init_214 : ins MX8_init 214 = some (.getfield 7) := by decide +kernel
theorem i_X8_init_217 : ins MX8_init 217 = some (.iload_n 1) := by decide +kernel
theorem i_X8_init_218 : ins MX8_init 218 = some (.bipush 16) := by decide +kernel
theorem i_X8_init_220 : ins MX8_init 220 = some (.iastore) := by decide +kernel
theorem i_X8_init_221 : ins MX8_init 221 = some (.aload_n 0) := by decide +kernel
theorem i_X8_init_222 : ins MX8_init 222 = some (.getfield 41) := by decide +kernel
theorem i_X8_init_225 : ins MX8_init 225 = some (.bipush 6) := by decide +kernel
theorem i_X8_init_227 : ins MX8_init 227 = some (.iload_n 1) := by decide +kernel
theorem i_X8_init_228 : ins MX8_init 228 = some (.imul) := by decide +kernel
theorem i_X8_init_229 : ins MX8_init 229 = some (.bipush 16) := by decide +kernel
theorem i_X8_init_231 : ins MX8_init 231 = some (.iastore) := by decide +kernel
theorem i_X8_init_232 : ins MX8_init 232 = some (.aload_n 0) := by decide +kernel
theorem i_X8_init_233 : ins MX8_init 233 = some (.getfield 44) := by decide +kernel
theorem i_X8_init_236 : ins MX8_init 236 = some (.iload_n 1) := by decide +kernel
theorem i_X8_init_237 : ins MX8_init 237 = some (.iconst 1) := by decide +kernel
theorem i_X8_init_238 : ins MX8_init 238 = some (.iastore) := by decide +kernel
theorem i_X8_init_239 : ins MX8_init 239 = some (.iinc 1 1) := by decide +kernel
theorem i_X8_init_242 : ins MX8_init 242 = some (.goto (-34)) := by decide +kernel
theorem i_X8_init_245 : ins MX8_init 245 = some (.return_) := by decide +kernel
theorem i_X8_in_0 : ins MX8_in 0 = some (.lload_n 0) := by decide +kernel
theorem i_X8_in_1 : ins MX8_in 1 = some (.lload_n 2) := by decide +kernel
theorem i_X8_in_2 : ins MX8_in 2 = some (.lcmp) := by decide +kernel
theorem i_X8_in_3 : ins MX8_in 3 = some (.ifCond .lt 14) := by decide +kernel
theorem i_X8_in_6 : ins MX8_in 6 = some (.lload_n 0) := by decide +kernel
theorem i_X8_in_7 : ins MX8_in 7 = some (.lload 4) := by decide +kernel
theorem i_X8_in_9 : ins MX8_in 9 = some (.lcmp) := by decide +kernel
theorem i_X8_in_10 : ins MX8_in 10 = some (.ifCond .gt 7) := by decide +kernel
theorem i_X8_in_13 : ins MX8_in 13 = some (.iconst 1) := by decide +kernel
theorem i_X8_in_14 : ins MX8_in 14 = some (.goto 4) := by decide +kernel
theorem i_X8_in_17 : ins MX8_in 17 = some (.iconst 0) := by decide +kernel
theorem i_X8_in_18 : ins MX8_in 18 = some (.ireturn) := by decide +kernel
theorem i_X8_isColumn_0 : ins MX8_isColumn 0 = some (.iload_n 0) := by decide +kernel
theorem i_X8_isColumn_1 : ins MX8_isColumn 1 = some (.i2l) := by decide +kernel
theorem i_X8_isColumn_2 : ins MX8_isColumn 2 = some (.lconst 0) := by decide +kernel
theorem i_X8_isColumn_3 : ins MX8_isColumn 3 = some (.ldc2_w 86) := by decide +kernel
theorem i_X8_isColumn_6 : ins MX8_isColumn 6 = some (.invokestatic 88) := by decide +kernel
theorem i_X8_isColumn_9 : ins MX8_isColumn 9 = some (.ireturn) := by decide +kernel
theorem i_X8_isRow_0 : ins MX8_isRow 0 = some (.iload_n 1) := by decide +kernel
theorem i_X8_isRow_1 : ins MX8_isRow 1 = some (.i2l) := by decide +kernel
theorem i_X8_isRow_2 : ins MX8_isRow 2 = some (.lconst 0) := by decide +kernel
theorem i_X8_isRow_3 : ins MX8_isRow 3 = some (.ldc2_w 92) := by decide +kernel
theorem i_X8_isRow_6 : ins MX8_isRow 6 = some (.invokestatic 88) := by decide +kernel
theorem i_X8_isRow_9 : ins MX8_isRow 9 = some (.ifCond .eq 16) := by decide +kernel
theorem i_X8_isRow_12 : ins MX8_isRow 12 = some (.aload_n 0) := by decide +kernel
theorem i_X8_isRow_13 : ins MX8_isRow 13 = some (.getfield 16) := by decide +kernel
theorem i_X8_isRow_16 : ins MX8_isRow 16 = some (.iload_n 1) := by decide +kernel
theorem i_X8_isRow_17 : ins MX8_isRow 17 = some (.baload) := by decide +kernel
theorem i_X8_isRow_18 : ins MX8_isRow 18 = some (.ifCond .eq 7) := by decide +kernel
theorem i_X8_isRow_21 : ins MX8_isRow 21 = some (.iconst 1) := by decide +kernel
theorem i_X8_isRow_22 : ins MX8_isRow 22 = some (.goto 4) := by decide +kernel
theorem i_X8_isRow_25 : ins MX8_isRow 25 = some (.iconst 0) := by decide +kernel
theorem i_X8_isRow_26 : ins MX8_isRow 26 = some (.ireturn) := by decide +kernel
theorem i_X8_rows_0 : ins MX8_rows 0 = some (.iconst 0) := by decide +kernel
theorem i_X8_rows_1 : ins MX8_rows 1 = some (.istore_n 1) := by decide +kernel
theorem i_X8_rows_2 : ins MX8_rows 2 = some (.iconst 0) := by decide +kernel
theorem i_X8_rows_3 : ins MX8_rows 3 = some (.istore_n 2) := by decide +kernel
theorem i_X8_rows_4 : ins MX8_rows 4 = some (.iload_n 2) := by decide +kernel
theorem i_X8_rows_5 : ins MX8_rows 5 = some (.bipush 64) := by decide +kernel
theorem i_X8_rows_7 : ins MX8_rows 7 = some (.if_icmp .ge 26) := by decide +kernel
theorem i_X8_rows_10 : ins MX8_rows 10 = some (.iload_n 1) := by decide +kernel
theorem i_X8_rows_11 : ins MX8_rows 11 = some (.aload_n 0) := by decide +kernel
theorem i_X8_rows_12 : ins MX8_rows 12 = some (.getfield 16) := by decide +kernel
theorem i_X8_rows_15 : ins MX8_rows 15 = some (.iload_n 2) := by decide +kernel
theorem i_X8_rows_16 : ins MX8_rows 16 = some (.baload) := by decide +kernel
theorem i_X8_rows_17 : ins MX8_rows 17 = some (.ifCond .eq 7) := by decide +kernel
theorem i_X8_rows_20 : ins MX8_rows 20 = some (.iconst 1) := by decide +kernel
theorem i_X8_rows_21 : ins MX8_rows 21 = some (.goto 4) := by decide +kernel
theorem i_X8_rows_24 : ins MX8_rows 24 = some (.iconst 0) := by decide +kernel
theorem i_X8_rows_25 : ins MX8_rows 25 = some (.iadd) := by decide +kernel
theorem i_X8_rows_26 : ins MX8_rows 26 = some (.istore_n 1) := by decide +kernel
theorem i_X8_rows_27 : ins MX8_rows 27 = some (.iinc 2 1) := by decide +kernel
theorem i_X8_rows_30 : ins MX8_rows 30 = some (.goto (-26)) := by decide +kernel
theorem i_X8_rows_33 : ins MX8_rows 33 = some (.iload_n 1) := by decide +kernel
theorem i_X8_rows_34 : ins MX8_rows 34 = some (.ireturn) := by decide +kernel
theorem i_X8_size_0 : ins MX8_size 0 = some (.iload_n 1) := by decide +kernel
theorem i_X8_size_1 : ins MX8_size 1 = some (.invokestatic 94) := by decide +kernel
theorem i_X8_size_4 : ins MX8_size 4 = some (.ifCond .ne 6) := by decide +kernel
theorem i_X8_size_7 : ins MX8_size 7 = some (.bipush (-101)) := by decide +kernel
theorem i_X8_size_9 : ins MX8_size 9 = some (.ireturn) := by decide +kernel
theorem i_X8_size_10 : ins MX8_size 10 = some (.iload_n 2) := by decide +kernel
theorem i_X8_size_11 : ins MX8_size 11 = some (.i2l) := by decide +kernel
theorem i_X8_size_12 : ins MX8_size 12 = some (.ldc2_w 98) := by decide +kernel
theorem i_X8_size_15 : ins MX8_size 15 = some (.ldc2_w 100) := by decide +kernel
theorem i_X8_size_18 : ins MX8_size 18 = some (.invokestatic 88) := by decide +kernel
theorem i_X8_size_21 : ins MX8_size 21 = some (.ifCond .ne 6) := by decide +kernel
theorem i_X8_size_24 : ins MX8_size 24 = some (.bipush (-102)) := by decide +kernel
theorem i_X8_size_26 : ins MX8_size 26 = some (.ireturn) := by decide +kernel
theorem i_X8_size_27 : ins MX8_size 27 = some (.aload_n 0) := by decide +kernel
theorem i_X8_size_28 : ins MX8_size 28 = some (.invokevirtual 102) := by decide +kernel
theorem i_X8_size_31 : ins MX8_size 31 = some (.ifCond .gt 10) := by decide +kernel
theorem i_X8_size_34 : ins MX8_size 34 = some (.aload_n 0) := by decide +kernel
theorem i_X8_size_35 : ins MX8_size 35 = some (.getfield 106) := by decide +kernel
theorem i_X8_size_38 : ins MX8_size 38 = some (.ifCond .le 6) := by decide +kernel
theorem i_X8_size_41 : ins MX8_size 41 = some (.bipush (-103)) := by decide +kernel
theorem i_X8_size_43 : ins MX8_size 43 = some (.ireturn) := by decide +kernel
theorem i_X8_size_44 : ins MX8_size 44 = some (.aload_n 0) := by decide +kernel
theorem i_X8_size_45 : ins MX8_size 45 = some (.getfield 7) := by decide +kernel
theorem i_X8_size_48 : ins MX8_size 48 = some (.iload_n 1) := by decide +kernel
theorem i_X8_size_49 : ins MX8_size 49 = some (.iaload) := by decide +kernel
theorem i_X8_size_50 : ins MX8_size 50 = some (.istore_n 3) := by decide +kernel
theorem i_X8_size_51 : ins MX8_size 51 = some (.aload_n 0) := by decide +kernel
theorem i_X8_size_52 : ins MX8_size 52 = some (.iconst 0) := by decide +kernel
theorem i_X8_size_53 : ins MX8_size 53 = some (.putfield 110) := by decide +kernel
theorem i_X8_size_56 : ins MX8_size 56 = some (.aload_n 0) := by decide +kernel
theorem i_X8_size_57 : ins MX8_size 57 = some (.getfield 7) := by decide +kernel
theorem i_X8_size_60 : ins MX8_size 60 = some (.iload_n 1) := by decide +kernel
theorem i_X8_size_61 : ins MX8_size 61 = some (.iload_n 2) := by decide +kernel
theorem i_X8_size_62 : ins MX8_size 62 = some (.iastore) := by decide +kernel
theorem i_X8_size_63 : ins MX8_size 63 = some (.aload_n 0) := by decide +kernel
theorem i_X8_size_64 : ins MX8_size 64 = some (.getfield 38) := by decide +kernel
theorem i_X8_size_67 : ins MX8_size 67 = some (.iload_n 1) := by decide +kernel
theorem i_X8_size_68 : ins MX8_size 68 = some (.iconst 0) := by decide +kernel
theorem i_X8_size_69 : ins MX8_size 69 = some (.iastore) := by decide +kernel
theorem i_X8_size_70 : ins MX8_size 70 = some (.aload_n 0) := by decide +kernel
theorem i_X8_size_71 : ins MX8_size 71 = some (.getfield 44) := by decide +kernel
theorem i_X8_size_74 : ins MX8_size 74 = some (.iload_n 1) := by decide +kernel
theorem i_X8_size_75 : ins MX8_size 75 = some (.iconst 1) := by decide +kernel
theorem i_X8_size_76 : ins MX8_size 76 = some (.iastore) := by decide +kernel
theorem i_X8_size_77 : ins MX8_size 77 = some (.aload_n 0) := by decide +kernel
theorem i_X8_size_78 : ins MX8_size 78 = some (.getfield 41) := by decide +kernel
theorem i_X8_size_81 : ins MX8_size 81 = some (.bipush 6) := by decide +kernel
theorem i_X8_size_83 : ins MX8_size 83 = some (.iload_n 1) := by decide +kernel
theorem i_X8_size_84 : ins MX8_size 84 = some (.imul) := by decide +kernel
theorem i_X8_size_85 : ins MX8_size 85 = some (.iload_n 2) := by decide +kernel
theorem i_X8_size_86 : ins MX8_size 86 = some (.iastore) := by decide +kernel
theorem i_X8_size_87 : ins MX8_size 87 = some (.aload_n 0) := by decide +kernel
theorem i_X8_size_88 : ins MX8_size 88 = some (.iload_n 1) := by decide +kernel
theorem i_X8_size_89 : ins MX8_size 89 = some (.invokevirtual 113) := by decide +kernel
theorem i_X8_size_92 : ins MX8_size 92 = some (.iload_n 3) := by decide +kernel
theorem i_X8_size_93 : ins MX8_size 93 = some (.ireturn) := by decide +kernel
theorem i_X8_keep_0 : ins MX8_keep 0 = some (.aload_n 0) := by decide +kernel
theorem i_X8_keep_1 : ins MX8_keep 1 = some (.getfield 110) := by decide +kernel
theorem i_X8_keep_4 : ins MX8_keep 4 = some (.bipush 100) := by decide +kernel
theorem i_X8_keep_6 : ins MX8_keep 6 = some (.if_icmp .ne 84) := by decide +kernel
theorem i_X8_keep_9 : ins MX8_keep 9 = some (.iconst 1) := by decide +kernel
theorem i_X8_keep_10 : ins MX8_keep 10 = some (.istore_n 2) := by decide +kernel
theorem i_X8_keep_11 : ins MX8_keep 11 = some (.iload_n 2) := by decide +kernel
theorem i_X8_keep_12 : ins MX8_keep 12 = some (.bipush 100) := by decide +kernel
theorem i_X8_keep_14 : ins MX8_keep 14 = some (.if_icmp .ge 37) := by decide +kernel
theorem i_X8_keep_17 : ins MX8_keep 17 = some (.aload_n 0) := by decide +kernel
theorem i_X8_keep_18 : ins MX8_keep 18 = some (.getfield 20) := by decide +kernel
theorem i_X8_keep_21 : ins MX8_keep 21 = some (.iload_n 2) := by decide +kernel
theorem i_X8_keep_22 : ins MX8_keep 22 = some (.iconst 1) := by decide +kernel
theorem i_X8_keep_23 : ins MX8_keep 23 = some (.isub) := by decide +kernel
theorem i_X8_keep_24 : ins MX8_keep 24 = some (.aload_n 0) := by decide +kernel
theorem i_X8_keep_25 : ins MX8_keep 25 = some (.getfield 20) := by decide +kernel
theorem i_X8_keep_28 : ins MX8_keep 28 = some (.iload_n 2) := by decide +kernel
theorem i_X8_keep_29 : ins MX8_keep 29 = some (.iaload) := by decide +kernel
theorem i_X8_keep_30 : ins MX8_keep 30 = some (.iastore) := by decide +kernel
theorem i_X8_keep_31 : ins MX8_keep 31 = some (.aload_n 0) := by decide +kernel
theorem i_X8_keep_32 : ins MX8_keep 32 = some (.getfield 23) := by decide +kernel
theorem i_X8_keep_35 : ins MX8_keep 35 = some (.iload_n 2) := by decide +kernel
theorem i_X8_keep_36 : ins MX8_keep 36 = some (.iconst 1) := by decide +kernel
theorem i_X8_keep_37 : ins MX8_keep 37 = some (.isub) := by decide +kernel
theorem i_X8_keep_38 : ins MX8_keep 38 = some (.aload_n 0) := by decide +kernel
theorem i_X8_keep_39 : ins MX8_keep 39 = some (.getfield 23) := by decide +kernel
theorem i_X8_keep_42 : ins MX8_keep 42 = some (.iload_n 2) := by decide +kernel
theorem i_X8_keep_43 : ins MX8_keep 43 = some (.baload) := by decide +kernel
theorem i_X8_keep_44 : ins MX8_keep 44 = some (.bastore) := by decide +kernel
theorem i_X8_keep_45 : ins MX8_keep 45 = some (.iinc 2 1) := by decide +kernel
theorem i_X8_keep_48 : ins MX8_keep 48 = some (.goto (-37)) := by decide +kernel
theorem i_X8_keep_51 : ins MX8_keep 51 = some (.iconst 4) := by decide +kernel
theorem i_X8_keep_52 : ins MX8_keep 52 = some (.istore_n 2) := by decide +kernel
theorem i_X8_keep_53 : ins MX8_keep 53 = some (.iload_n 2) := by decide +kernel
theorem i_X8_keep_54 : ins MX8_keep 54 = some (.sipush 400) := by decide +kernel
theorem i_X8_keep_57 : ins MX8_keep 57 = some (.if_icmp .ge 23) := by decide +kernel
theorem i_X8_keep_60 : ins MX8_keep 60 = some (.aload_n 0) := by decide +kernel
theorem i_X8_keep_61 : ins MX8_keep 61 = some (.getfield 26) := by decide +kernel
theorem i_X8_keep_64 : ins MX8_keep 64 = some (.iload_n 2) := by decide +kernel
theorem i_X8_keep_65 : ins MX8_keep 65 = some (.iconst 4) := by decide +kernel
theorem i_X8_keep_66 : ins MX8_keep 66 = some (.isub) := by decide +kernel
theorem i_X8_keep_67 : ins MX8_keep 67 = some (.aload_n 0) := by decide +kernel
theorem i_X8_keep_68 : ins MX8_keep 68 = some (.getfield 26) := by decide +kernel
theorem i_X8_keep_71 : ins MX8_keep 71 = some (.iload_n 2) := by decide +kernel
theorem i_X8_keep_72 : ins MX8_keep 72 = some (.iaload) := by decide +kernel
theorem i_X8_keep_73 : ins MX8_keep 73 = some (.iastore) := by decide +kernel
theorem i_X8_keep_74 : ins MX8_keep 74 = some (.iinc 2 1) := by decide +kernel
theorem i_X8_keep_77 : ins MX8_keep 77 = some (.goto (-24)) := by decide +kernel
theorem i_X8_keep_80 : ins MX8_keep 80 = some (.aload_n 0) := by decide +kernel
theorem i_X8_keep_81 : ins MX8_keep 81 = some (.dup) := by decide +kernel
theorem i_X8_keep_82 : ins MX8_keep 82 = some (.getfield 110) := by decide +kernel
theorem i_X8_keep_85 : ins MX8_keep 85 = some (.iconst 1) := by decide +kernel
theorem i_X8_keep_86 : ins MX8_keep 86 = some (.isub) := by decide +kernel
theorem i_X8_keep_87 : ins MX8_keep 87 = some (.putfield 110) := by decide +kernel
theorem i_X8_keep_90 : ins MX8_keep 90 = some (.aload_n 0) := by decide +kernel
theorem i_X8_keep_91 : ins MX8_keep 91 = some (.getfield 20) := by decide +kernel
theorem i_X8_keep_94 : ins MX8_keep 94 = some (.aload_n 0) := by decide +kernel
theorem i_X8_keep_95 : ins MX8_keep 95 = some (.getfield 110) := by decide +kernel
theorem i_X8_keep_98 : ins MX8_keep 98 = some (.iload_n 1) := by decide +kernel
theorem i_X8_keep_99 : ins MX8_keep 99 = some (.iastore) := by decide +kernel
theorem i_X8_keep_100 : ins MX8_keep 100 = some (.aload_n 0) := by decide +kernel
theorem i_X8_keep_101 : ins MX8_keep 101 = some (.getfield 23) := by decide +kernel
theorem i_X8_keep_104 : ins MX8_keep 104 = some (.aload_n 0) := by decide +kernel
theorem i_X8_keep_105 : ins MX8_keep 105 = some (.getfield 110) := by decide +kernel
theorem i_X8_keep_108 : ins MX8_keep 108 = some (.aload_n 0) := by decide +kernel
theorem i_X8_keep_109 : ins MX8_keep 109 = some (.getfield 16) := by decide +kernel
theorem i_X8_keep_112 : ins MX8_keep 112 = some (.iload_n 1) := by decide +kernel
theorem i_X8_keep_113 : ins MX8_keep 113 = some (.baload) := by decide +kernel
theorem i_X8_keep_114 : ins MX8_keep 114 = some (.bastore) := by decide +kernel
theorem i_X8_keep_115 : ins MX8_keep 115 = some (.iconst 0) := by decide +kernel
theorem i_X8_keep_116 : ins MX8_keep 116 = some (.istore_n 2) := by decide +kernel
theorem i_X8_keep_117 : ins MX8_keep 117 = some (.iload_n 2) := by decide +kernel
theorem i_X8_keep_118 : ins MX8_keep 118 = some (.iconst 4) := by decide +kernel
theorem i_X8_keep_119 : ins MX8_keep 119 = some (.if_icmp .ge 32) := by decide +kernel
theorem i_X8_keep_122 : ins MX8_keep 122 = some (.aload_n 0) := by decide +kernel
theorem i_X8_keep_123 : ins MX8_keep 123 = some (.getfield 26) := by decide +kernel
theorem i_X8_keep_126 : ins MX8_keep 126 = some (.iconst 4) := by decide +kernel
theorem i_X8_keep_127 : ins MX8_keep 127 = some (.aload_n 0) := by decide +kernel
theorem i_X8_keep_128 : ins MX8_keep 128 = some (.getfield 110) := by decide +kernel
theorem i_X8_keep_131 : ins MX8_keep 131 = some (.imul) := by decide +kernel
theorem i_X8_keep_132 : ins MX8_keep 132 = some (.iload_n 2) := by decide +kernel
theorem i_X8_keep_133 : ins MX8_keep 133 = some (.iadd) := by decide +kernel
theorem i_X8_keep_134 : ins MX8_keep 134 = some (.aload_n 0) := by decide +kernel
theorem i_X8_keep_135 : ins MX8_keep 135 = some (.getfield 13) := by decide +kernel
theorem i_X8_keep_138 : ins MX8_keep 138 = some (.iconst 4) := by decide +kernel
theorem i_X8_keep_139 : ins MX8_keep 139 = some (.iload_n 1) := by decide +kernel
theorem i_X8_keep_140 : ins MX8_keep 140 = some (.imul) := by decide +kernel
theorem i_X8_keep_141 : ins MX8_keep 141 = some (.iload_n 2) := by decide +kernel
theorem i_X8_keep_142 : ins MX8_keep 142 = some (.iadd) := by decide +kernel
theorem i_X8_keep_143 : ins MX8_keep 143 = some (.iaload) := by decide +kernel
theorem i_X8_keep_144 : ins MX8_keep 144 = some (.iastore) := by decide +kernel
theorem i_X8_keep_145 : ins MX8_keep 145 = some (.iinc 2 1) := by decide +kernel
theorem i_X8_keep_148 : ins MX8_keep 148 = some (.goto (-31)) := by decide +kernel
theorem i_X8_keep_151 : ins MX8_keep 151 = some (.aload_n 0) := by decide +kernel
theorem i_X8_keep_152 : ins MX8_keep 152 = some (.dup) := by decide +kernel
theorem i_X8_keep_153 : ins MX8_keep 153 = some (.getfield 110) := by decide +kernel
theorem i_X8_keep_156 : ins MX8_keep 156 = some (.iconst 1) := by decide +kernel
theorem i_X8_keep_157 : ins MX8_keep 157 = some (.iadd) := by decide +kernel
theorem i_X8_keep_158 : ins MX8_keep 158 = some (.putfield 110) := by decide +kernel
theorem i_X8_keep_161 : ins MX8_keep 161 = some (.return_) := by decide +kernel
theorem i_X8_emptyLine_0 : ins MX8_emptyLine 0 = some (.iconst 0) := by decide +kernel
theorem i_X8_emptyLine_1 : ins MX8_emptyLine 1 = some (.istore_n 1) := by decide +kernel
theorem i_X8_emptyLine_2 : ins MX8_emptyLine 2 = some (.iload_n 1) := by decide +kernel
theorem i_X8_emptyLine_3 : ins MX8_emptyLine 3 = some (.bipush 64) := by decide +kernel
theorem i_X8_emptyLine_5 : ins MX8_emptyLine 5 = some (.if_icmp .ge 18) := by decide +kernel
theorem i_X8_emptyLine_8 : ins MX8_emptyLine 8 = some (.aload_n 0) := by decide +kernel
theorem i_X8_emptyLine_9 : ins MX8_emptyLine 9 = some (.getfield 16) := by decide +kernel
theorem i_X8_emptyLine_12 : ins MX8_emptyLine 12 = some (.iload_n 1) := by decide +kernel
theorem i_X8_emptyLine_13 : ins MX8_emptyLine 13 = some (.baload) := by decide +kernel
theorem i_X8_emptyLine_14 : ins MX8_emptyLine 14 = some (.ifCond .eq 9) := by decide +kernel
theorem i_X8_emptyLine_17 : ins MX8_emptyLine 17 = some (.iinc 1 1) := by decide +kernel
theorem i_X8_emptyLine_20 : ins MX8_emptyLine 20 = some (.goto (-18)) := by decide +kernel
theorem i_X8_emptyLine_23 : ins MX8_emptyLine 23 = some (.iload_n 1) := by decide +kernel
theorem i_X8_emptyLine_24 : ins MX8_emptyLine 24 = some (.ireturn) := by decide +kernel
theorem i_X8_come_0 : ins MX8_come 0 = some (.aload_n 0) := by decide +kernel
theorem i_X8_come_1 : ins MX8_come 1 = some (.invokevirtual 117) := by decide +kernel
theorem i_X8_come_4 : ins MX8_come 4 = some (.istore 5) := by decide +kernel
theorem i_X8_come_6 : ins MX8_come 6 = some (.aload_n 0) := by decide +kernel
theorem i_X8_come_7 : ins MX8_come 7 = some (.iload 5) := by decide +kernel
theorem i_X8_come_9 : ins MX8_come 9 = some (.invokevirtual 120) := by decide +kernel
theorem i_X8_come_12 : ins MX8_come 12 = some (.aload_n 0) := by decide +kernel
theorem i_X8_come_13 : ins MX8_come 13 = some (.getfield 16) := by decide +kernel
theorem i_X8_come_16 : ins MX8_come 16 = some (.iload 5) := by decide +kernel
theorem i_X8_come_18 : ins MX8_come 18 = some (.iconst 1) := by decide +kernel
theorem i_X8_come_19 : ins MX8_come 19 = some (.bastore) := by decide +kernel
theorem i_X8_come_20 : ins MX8_come 20 = some (.aload_n 0) := by decide +kernel
theorem i_X8_come_21 : ins MX8_come 21 = some (.getfield 13) := by decide +kernel
theorem i_X8_come_24 : ins MX8_come 24 = some (.iconst 4) := by decide +kernel
theorem i_X8_come_25 : ins MX8_come 25 = some (.iload 5) := by decide +kernel
theorem i_X8_come_27 : ins MX8_come 27 = some (.imul) := by decide +kernel
theorem i_X8_come_28 : ins MX8_come 28 = some (.iload_n 1) := by decide +kernel
theorem i_X8_come_29 : ins MX8_come 29 = some (.iastore) := by decide +kernel
theorem i_X8_come_30 : ins MX8_come 30 = some (.aload_n 0) := by decide +kernel
theorem i_X8_come_31 : ins MX8_come 31 = some (.getfield 13) := by decide +kernel
theorem i_X8_come_34 : ins MX8_come 34 = some (.iconst 4) := by decide +kernel
theorem i_X8_come_35 : ins MX8_come 35 = some (.iload 5) := by decide +kernel
theorem i_X8_come_37 : ins MX8_come 37 = some (.imul) := by decide +kernel
theorem i_X8_come_38 : ins MX8_come 38 = some (.iconst 1) := by decide +kernel
theorem i_X8_come_39 : ins MX8_come 39 = some (.iadd) := by decide +kernel
theorem i_X8_come_40 : ins MX8_come 40 = some (.iload_n 2) := by decide +kernel
theorem i_X8_come_41 : ins MX8_come 41 = some (.iastore) := by decide +kernel
theorem i_X8_come_42 : ins MX8_come 42 = some (.aload_n 0) := by decide +kernel
theorem i_X8_come_43 : ins MX8_come 43 = some (.getfield 13) := by decide +kernel
theorem i_X8_come_46 : ins MX8_come 46 = some (.iconst 4) := by decide +kernel
theorem i_X8_come_47 : ins MX8_come 47 = some (.iload 5) := by decide +kernel
theorem i_X8_come_49 : ins MX8_come 49 = some (.imul) := by decide +kernel
theorem i_X8_come_50 : ins MX8_come 50 = some (.iconst 2) := by decide +kernel
theorem i_X8_come_51 : ins MX8_come 51 = some (.iadd) := by decide +kernel
theorem i_X8_come_52 : ins MX8_come 52 = some (.iload_n 3) := by decide +kernel
theorem i_X8_come_53 : ins MX8_come 53 = some (.iastore) := by decide +kernel
theorem i_X8_come_54 : ins MX8_come 54 = some (.aload_n 0) := by decide +kernel
theorem i_X8_come_55 : ins MX8_come 55 = some (.getfield 13) := by decide +kernel
theorem i_X8_come_58 : ins MX8_come 58 = some (.iconst 4) := by decide +kernel
theorem i_X8_come_59 : ins MX8_come 59 = some (.iload 5) := by decide +kernel
theorem i_X8_come_61 : ins MX8_come 61 = some (.imul) := by decide +kernel
theorem i_X8_come_62 : ins MX8_come 62 = some (.iconst 3) := by decide +kernel
theorem i_X8_come_63 : ins MX8_come 63 = some (.iadd) := by decide +kernel
theorem i_X8_come_64 : ins MX8_come 64 = some (.iload 4) := by decide +kernel
theorem i_X8_come_66 : ins MX8_come 66 = some (.iastore) := by decide +kernel
theorem i_X8_come_67 : ins MX8_come 67 = some (.iload 5) := by decide +kernel
theorem i_X8_come_69 : ins MX8_come 69 = some (.ireturn) := by decide +kernel
theorem i_X8_row_0 : ins MX8_row 0 = some (.iload_n 1) := by decide +kernel
theorem i_X8_row_1 : ins MX8_row 1 = some (.i2l) := by decide +kernel
theorem i_X8_row_2 : ins MX8_row 2 = some (.lconst 0) := by decide +kernel
theorem i_X8_row_3 : ins MX8_row 3 = some (.aload_n 0) := by decide +kernel
theorem i_X8_row_4 : ins MX8_row 4 = some (.getfield 7) := by decide +kernel
theorem i_X8_row_7 : ins MX8_row 7 = some (.iconst 0) := by decide +kernel
theorem i_X8_row_8 : ins MX8_row 8 = some (.iaload) := by decide +kernel
theorem i_X8_row_9 : ins MX8_row 9 = some (.iconst 1) := by decide +kernel
theorem i_X8_row_10 : ins MX8_row 10 = some (.isub) := by decide +kernel
theorem i_X8_row_11 : ins MX8_row 11 = some (.i2l) := by decide +kernel
theorem i_X8_row_12 : ins MX8_row 12 = some (.invokestatic 88) := by decide +kernel
theorem i_X8_row_15 : ins MX8_row 15 = some (.ifCond .eq 58) := by decide +kernel
theorem i_X8_row_18 : ins MX8_row 18 = some (.iload_n 2) := by decide +kernel
theorem i_X8_row_19 : ins MX8_row 19 = some (.i2l) := by decide +kernel
theorem i_X8_row_20 : ins MX8_row 20 = some (.lconst 0) := by decide +kernel
theorem i_X8_row_21 : ins MX8_row 21 = some (.aload_n 0) := by decide +kernel
theorem i_X8_row_22 : ins MX8_row 22 = some (.getfield 7) := by decide +kernel
theorem i_X8_row_25 : ins MX8_row 25 = some (.iconst 1) := by decide +kernel
theorem i_X8_row_26 : ins MX8_row 26 = some (.iaload) := by decide +kernel
theorem i_X8_row_27 : ins MX8_row 27 = some (.iconst 1) := by decide +kernel
theorem i_X8_row_28 : ins MX8_row 28 = some (.isub) := by decide +kernel
theorem i_X8_row_29 : ins MX8_row 29 = some (.i2l) := by decide +kernel
theorem i_X8_row_30 : ins MX8_row 30 = some (.invokestatic 88) := by decide +kernel
theorem i_X8_row_33 : ins MX8_row 33 = some (.ifCond .eq 40) := by decide +kernel
theorem i_X8_row_36 : ins MX8_row 36 = some (.iload_n 3) := by decide +kernel
theorem i_X8_row_37 : ins MX8_row 37 = some (.i2l) := by decide +kernel
theorem i_X8_row_38 : ins MX8_row 38 = some (.lconst 0) := by decide +kernel
theorem i_X8_row_39 : ins MX8_row 39 = some (.aload_n 0) := by decide +kernel
theorem i_X8_row_40 : ins MX8_row 40 = some (.getfield 7) := by decide +kernel
theorem i_X8_row_43 : ins MX8_row 43 = some (.iconst 2) := by decide +kernel
theorem i_X8_row_44 : ins MX8_row 44 = some (.iaload) := by decide +kernel
theorem i_X8_row_45 : ins MX8_row 45 = some (.iconst 1) := by decide +kernel
theorem i_X8_row_46 : ins MX8_row 46 = some (.isub) := by decide +kernel
theorem i_X8_row_47 : ins MX8_row 47 = some (.i2l) := by decide +kernel
theorem i_X8_row_48 : ins MX8_row 48 = some (.invokestatic 88) := by decide +kernel
theorem i_X8_row_51 : ins MX8_row 51 = some (.ifCond .eq 22) := by decide +kernel
theorem i_X8_row_54 : ins MX8_row 54 = some (.iload 4) := by decide +kernel
theorem i_X8_row_56 : ins MX8_row 56 = some (.i2l) := by decide +kernel
theorem i_X8_row_57 : ins MX8_row 57 = some (.lconst 0) := by decide +kernel
theorem i_X8_row_58 : ins MX8_row 58 = some (.aload_n 0) := by decide +kernel
theorem i_X8_row_59 : ins MX8_row 59 = some (.getfield 7) := by decide +kernel
theorem i_X8_row_62 : ins MX8_row 62 = some (.iconst 3) := by decide +kernel
theorem i_X8_row_63 : ins MX8_row 63 = some (.iaload) := by decide +kernel
theorem i_X8_row_64 : ins MX8_row 64 = some (.iconst 1) := by decide +kernel
theorem i_X8_row_65 : ins MX8_row 65 = some (.isub) := by decide +kernel
theorem i_X8_row_66 : ins MX8_row 66 = some (.i2l) := by decide +kernel
theorem i_X8_row_67 : ins MX8_row 67 = some (.invokestatic 88) := by decide +kernel
theorem i_X8_row_70 : ins MX8_row 70 = some (.ifCond .ne 6) := by decide +kernel
theorem i_X8_row_73 : ins MX8_row 73 = some (.bipush (-102)) := by decide +kernel
theorem i_X8_row_75 : ins MX8_row 75 = some (.ireturn) := by decide +kernel
theorem i_X8_row_76 : ins MX8_row 76 = some (.aload_n 0) := by decide +kernel
theorem i_X8_row_77 : ins MX8_row 77 = some (.invokevirtual 117) := by decide +kernel
theorem i_X8_row_80 : ins MX8_row 80 = some (.bipush 64) := by decide +kernel
theorem i_X8_row_82 : ins MX8_row 82 = some (.if_icmp .ne 8) := by decide +kernel
theorem i_X8_row_85 : ins MX8_row 85 = some (.bipush (-104)) := by decide +kernel
theorem i_X8_row_87 : ins MX8_row 87 = some (.goto 12) := by decide +kernel
theorem i_X8_row_90 : ins MX8_row 90 = some (.aload_n 0) := by decide +kernel
theorem i_X8_row_91 : ins MX8_row 91 = some (.iload_n 1) := by decide +kernel
theorem i_X8_row_92 : ins MX8_row 92 = some (.iload_n 2) := by decide +kernel
theorem i_X8_row_93 : ins MX8_row 93 = some (.iload_n 3) := by decide +kernel
theorem i_X8_row_94 : ins MX8_row 94 = some (.iload 4) := by decide +kernel
theorem i_X8_row_96 : ins MX8_row 96 = some (.invokevirtual 123) := by decide +kernel
theorem i_X8_row_99 : ins MX8_row 99 = some (.ireturn) := by decide +kernel
theorem i_X8_fill_0 : ins MX8_fill 0 = some (.iload_n 1) := by decide +kernel
theorem i_X8_fill_1 : ins MX8_fill 1 = some (.ifCond .lt 15) := by decide +kernel
theorem i_X8_fill_4 : ins MX8_fill 4 = some (.iload_n 2) := by decide +kernel
theorem i_X8_fill_5 : ins MX8_fill 5 = some (.i2l) := by decide +kernel
theorem i_X8_fill_6 : ins MX8_fill 6 = some (.lconst 1) := by decide +kernel
theorem i_X8_fill_7 : ins MX8_fill 7 = some (.ldc2_w 127) := by decide +kernel
theorem i_X8_fill_10 : ins MX8_fill 10 = some (.invokestatic 88) := by decide +kernel
theorem i_X8_fill_13 : ins MX8_fill 13 = some (.ifCond .ne 6) := by decide +kernel
theorem i_X8_fill_16 : ins MX8_fill 16 = some (.bipush (-102)) := by decide +kernel
theorem i_X8_fill_18 : ins MX8_fill 18 = some (.ireturn) := by decide +kernel
theorem i_X8_fill_19 : ins MX8_fill 19 = some (.iload_n 1) := by decide +kernel
theorem i_X8_fill_20 : ins MX8_fill 20 = some (.i2l) := by decide +kernel
theorem i_X8_fill_21 : ins MX8_fill 21 = some (.lstore_n 3) := by decide +kernel
theorem i_X8_fill_22 : ins MX8_fill 22 = some (.iconst 0) := by decide +kernel
theorem i_X8_fill_23 : ins MX8_fill 23 = some (.istore 5) := by decide +kernel
theorem i_X8_fill_25 : ins MX8_fill 25 = some (.iload 5) := by decide +kernel
theorem i_X8_fill_27 : ins MX8_fill 27 = some (.iload_n 2) := by decide +kernel
theorem i_X8_fill_28 : ins MX8_fill 28 = some (.if_icmp .ge 98) := by decide +kernel
theorem i_X8_fill_31 : ins MX8_fill 31 = some (.aload_n 0) := by decide +kernel
theorem i_X8_fill_32 : ins MX8_fill 32 = some (.invokevirtual 117) := by decide +kernel
theorem i_X8_fill_35 : ins MX8_fill 35 = some (.bipush 64) := by decide +kernel
theorem i_X8_fill_37 : ins MX8_fill 37 = some (.if_icmp .ge 89) := by decide +kernel
theorem i_X8_fill_40 : ins MX8_fill 40 = some (.iconst 0) := by decide +kernel
theorem i_X8_fill_41 : ins MX8_fill 41 = some (.istore 6) := by decide +kernel
theorem i_X8_fill_43 : ins MX8_fill 43 = some (.iload 6) := by decide +kernel
theorem i_X8_fill_45 : ins MX8_fill 45 = some (.iconst 4) := by decide +kernel
theorem i_X8_fill_46 : ins MX8_fill 46 = some (.if_icmp .ge 45) := by decide +kernel
theorem i_X8_fill_49 : ins MX8_fill 49 = some (.ldc2_w 129) := by decide +kernel
theorem i_X8_fill_52 : ins MX8_fill 52 = some (.lload_n 3) := by decide +kernel
theorem i_X8_fill_53 : ins MX8_fill 53 = some (.lmul) := by decide +kernel
theorem i_X8_fill_54 : ins MX8_fill 54 = some (.ldc2_w 131) := by decide +kernel
theorem i_X8_fill_57 : ins MX8_fill 57 = some (.ladd) := by decide +kernel
theorem i_X8_fill_58 : ins MX8_fill 58 = some (.ldc2_w 133) := by decide +kernel
theorem i_X8_fill_61 : ins MX8_fill 61 = some (.land) := by decide +kernel
theorem i_X8_fill_62 : ins MX8_fill 62 = some (.lstore_n 3) := by decide +kernel
theorem i_X8_fill_63 : ins MX8_fill 63 = some (.aload_n 0) := by decide +kernel
theorem i_X8_fill_64 : ins MX8_fill 64 = some (.getfield 35) := by decide +kernel
theorem i_X8_fill_67 : ins MX8_fill 67 = some (.iload 6) := by decide +kernel
theorem i_X8_fill_69 : ins MX8_fill 69 = some (.lload_n 3) := by decide +kernel
theorem i_X8_fill_70 : ins MX8_fill 70 = some (.ldc2_w 135) := by decide +kernel
theorem i_X8_fill_73 : ins MX8_fill 73 = some (.ldiv) := by decide +kernel
theorem i_X8_fill_74 : ins MX8_fill 74 = some (.aload_n 0) := by decide +kernel
theorem i_X8_fill_75 : ins MX8_fill 75 = some (.getfield 7) := by decide +kernel
theorem i_X8_fill_78 : ins MX8_fill 78 = some (.iload 6) := by decide +kernel
theorem i_X8_fill_80 : ins MX8_fill 80 = some (.iaload) := by decide +kernel
theorem i_X8_fill_81 : ins MX8_fill 81 = some (.i2l) := by decide +kernel
theorem i_X8_fill_82 : ins MX8_fill 82 = some (.lrem) := by decide +kernel
theorem i_X8_fill_83 : ins MX8_fill 83 = some (.l2i) := by decide +kernel
theorem i_X8_fill_84 : ins MX8_fill 84 = some (.iastore) := by decide +kernel
theorem i_X8_fill_85 : ins MX8_fill 85 = some (.iinc 6 1) := by decide +kernel
theorem i_X8_fill_88 : ins MX8_fill 88 = some (.goto (-45)) := by decide +kernel
theorem i_X8_fill_91 : ins MX8_fill 91 = some (.aload_n 0) := by decide +kernel
theorem i_X8_fill_92 : ins MX8_fill 92 = some (.aload_n 0) := by decide +kernel
theorem i_X8_fill_93 : ins MX8_fill 93 = some (.getfield 35) := by decide +kernel
theorem i_X8_fill_96 : ins MX8_fill 96 = some (.iconst 0) := by decide +kernel
theorem i_X8_fill_97 : ins MX8_fill 97 = some (.iaload) := by decide +kernel
theorem i_X8_fill_98 : ins MX8_fill 98 = some (.aload_n 0) := by decide +kernel
theorem i_X8_fill_99 : ins MX8_fill 99 = some (.getfield 35) := by decide +kernel
theorem i_X8_fill_102 : ins MX8_fill 102 = some (.iconst 1) := by decide +kernel
theorem i_X8_fill_103 : ins MX8_fill 103 = some (.iaload) := by decide +kernel
theorem i_X8_fill_104 : ins MX8_fill 104 = some (.aload_n 0) := by decide +kernel
theorem i_X8_fill_105 : ins MX8_fill 105 = some (.getfield 35) := by decide +kernel
theorem i_X8_fill_108 : ins MX8_fill 108 = some (.iconst 2) := by decide +kernel
theorem i_X8_fill_109 : ins MX8_fill 109 = some (.iaload) := by decide +kernel
theorem i_X8_fill_110 : ins MX8_fill 110 = some (.aload_n 0) := by decide +kernel
theorem i_X8_fill_111 : ins MX8_fill 111 = some (.getfield 35) := by decide +kernel
theorem i_X8_fill_114 : ins MX8_fill 114 = some (.iconst 3) := by decide +kernel
theorem i_X8_fill_115 : ins MX8_fill 115 = some (.iaload) := by decide +kernel
theorem i_X8_fill_116 : ins MX8_fill 116 = some (.invokevirtual 123) := by decide +kernel
theorem i_X8_fill_119 : ins MX8_fill 119 = some (.pop) := by decide +kernel
theorem i_X8_fill_120 : ins MX8_fill 120 = some (.iinc 5 1) := by decide +kernel
theorem i_X8_fill_123 : ins MX8_fill 123 = some (.goto (-98)) := by decide +kernel
theorem i_X8_fill_126 : ins MX8_fill 126 = some (.iload 5) := by decide +kernel
theorem i_X8_fill_128 : ins MX8_fill 128 = some (.ireturn) := by decide +kernel
theorem i_X8_set_0 : ins MX8_set 0 = some (.aload_n 0) := by decide +kernel
theorem i_X8_set_1 : ins MX8_set 1 = some (.iload_n 1) := by decide +kernel
theorem i_X8_set_2 : ins MX8_set 2 = some (.invokevirtual 137) := by decide +kernel
theorem i_X8_set_5 : ins MX8_set 5 = some (.ifCond .eq 10) := by decide +kernel
theorem i_X8_set_8 : ins MX8_set 8 = some (.iload_n 2) := by decide +kernel
theorem i_X8_set_9 : ins MX8_set 9 = some (.invokestatic 94) := by decide +kernel
theorem i_X8_set_12 : ins MX8_set 12 = some (.ifCond .ne 6) := by decide +kernel
theorem i_X8_set_15 : ins MX8_set 15 = some (.bipush (-101)) := by decide +kernel
theorem i_X8_set_17 : ins MX8_set 17 = some (.ireturn) := by decide +kernel
theorem i_X8_set_18 : ins MX8_set 18 = some (.iload_n 3) := by decide +kernel
theorem i_X8_set_19 : ins MX8_set 19 = some (.i2l) := by decide +kernel
theorem i_X8_set_20 : ins MX8_set 20 = some (.lconst 0) := by decide +kernel
theorem i_X8_set_21 : ins MX8_set 21 = some (.aload_n 0) := by decide +kernel
theorem i_X8_set_22 : ins MX8_set 22 = some (.getfield 7) := by decide +kernel
theorem i_X8_set_25 : ins MX8_set 25 = some (.iload_n 2) := by decide +kernel
theorem i_X8_set_26 : ins MX8_set 26 = some (.iaload) := by decide +kernel
theorem i_X8_set_27 : ins MX8_set 27 = some (.iconst 1) := by decide +kernel
theorem i_X8_set_28 : ins MX8_set 28 = some (.isub) := by decide +kernel
theorem i_X8_set_29 : ins MX8_set 29 = some (.i2l) := by decide +kernel
theorem i_X8_set_30 : ins MX8_set 30 = some (.invokestatic 88) := by decide +kernel
theorem i_X8_set_33 : ins MX8_set 33 = some (.ifCond .ne 6) := by decide +kernel
theorem i_X8_set_36 : ins MX8_set 36 = some (.bipush (-102)) := by decide +kernel
theorem i_X8_set_38 : ins MX8_set 38 = some (.ireturn) := by decide +kernel
theorem i_X8_set_39 : ins MX8_set 39 = some (.aload_n 0) := by decide +kernel
theorem i_X8_set_40 : ins MX8_set 40 = some (.getfield 13) := by decide +kernel
theorem i_X8_set_43 : ins MX8_set 43 = some (.iconst 4) := by decide +kernel
theorem i_X8_set_44 : ins MX8_set 44 = some (.iload_n 1) := by decide +kernel
theorem i_X8_set_45 : ins MX8_set 45 = some (.imul) := by decide +kernel
theorem i_X8_set_46 : ins MX8_set 46 = some (.iload_n 2) := by decide +kernel
theorem i_X8_set_47 : ins MX8_set 47 = some (.iadd) := by decide +kernel
theorem i_X8_set_48 : ins MX8_set 48 = some (.iaload) := by decide +kernel
theorem i_X8_set_49 : ins MX8_set 49 = some (.istore 4) := by decide +kernel
theorem i_X8_set_51 : ins MX8_set 51 = some (.aload_n 0) := by decide +kernel
theorem i_X8_set_52 : ins MX8_set 52 = some (.iload_n 1) := by decide +kernel
theorem i_X8_set_53 : ins MX8_set 53 = some (.invokevirtual 120) := by decide +kernel
theorem i_X8_set_56 : ins MX8_set 56 = some (.aload_n 0) := by decide +kernel
theorem i_X8_set_57 : ins MX8_set 57 = some (.getfield 13) := by decide +kernel
theorem i_X8_set_60 : ins MX8_set 60 = some (.iconst 4) := by decide +kernel
theorem i_X8_set_61 : ins MX8_set 61 = some (.iload_n 1) := by decide +kernel
theorem i_X8_set_62 : ins MX8_set 62 = some (.imul) := by decide +kernel
theorem i_X8_set_63 : ins MX8_set 63 = some (.iload_n 2) := by decide +kernel
theorem i_X8_set_64 : ins MX8_set 64 = some (.iadd) := by decide +kernel
theorem i_X8_set_65 : ins MX8_set 65 = some (.iload_n 3) := by decide +kernel
theorem i_X8_set_66 : ins MX8_set 66 = some (.iastore) := by decide +kernel
theorem i_X8_set_67 : ins MX8_set 67 = some (.iload 4) := by decide +kernel
theorem i_X8_set_69 : ins MX8_set 69 = some (.ireturn) := by decide +kernel
theorem i_X8_drop_0 : ins MX8_drop 0 = some (.aload_n 0) := by decide +kernel
theorem i_X8_drop_1 : ins MX8_drop 1 = some (.iload_n 1) := by decide +kernel
theorem i_X8_drop_2 : ins MX8_drop 2 = some (.invokevirtual 137) := by decide +kernel
theorem i_X8_drop_5 : ins MX8_drop 5 = some (.ifCond .ne 6) := by decide +kernel
theorem i_X8_drop_8 : ins MX8_drop 8 = some (.bipush (-101)) := by decide +kernel
theorem i_X8_drop_10 : ins MX8_drop 10 = some (.ireturn) := by decide +kernel
theorem i_X8_drop_11 : ins MX8_drop 11 = some (.aload_n 0) := by decide +kernel
theorem i_X8_drop_12 : ins MX8_drop 12 = some (.iload_n 1) := by decide +kernel
theorem i_X8_drop_13 : ins MX8_drop 13 = some (.invokevirtual 120) := by decide +kernel
theorem i_X8_drop_16 : ins MX8_drop 16 = some (.aload_n 0) := by decide +kernel
theorem i_X8_drop_17 : ins MX8_drop 17 = some (.getfield 16) := by decide +kernel
theorem i_X8_drop_20 : ins MX8_drop 20 = some (.iload_n 1) := by decide +kernel
theorem i_X8_drop_21 : ins MX8_drop 21 = some (.iconst 0) := by decide +kernel
theorem i_X8_drop_22 : ins MX8_drop 22 = some (.bastore) := by decide +kernel
theorem i_X8_drop_23 : ins MX8_drop 23 = some (.aload_n 0) := by decide +kernel
theorem i_X8_drop_24 : ins MX8_drop 24 = some (.invokevirtual 102) := by decide +kernel
theorem i_X8_drop_27 : ins MX8_drop 27 = some (.ireturn) := by decide +kernel
theorem i_X8_getOf_0 : ins MX8_getOf 0 = some (.aload_n 0) := by decide +kernel
theorem i_X8_getOf_1 : ins MX8_getOf 1 = some (.getfield 16) := by decide +kernel
theorem i_X8_getOf_4 : ins MX8_getOf 4 = some (.iload_n 1) := by decide +kernel
theorem i_X8_getOf_5 : ins MX8_getOf 5 = some (.baload) := by decide +kernel
theorem i_X8_getOf_6 : ins MX8_getOf 6 = some (.ifCond .eq 16) := by decide +kernel
theorem i_X8_getOf_9 : ins MX8_getOf 9 = some (.aload_n 0) := by decide +kernel
theorem i_X8_getOf_10 : ins MX8_getOf 10 = some (.getfield 13) := by decide +kernel
theorem i_X8_getOf_13 : ins MX8_getOf 13 = some (.iconst 4) := by decide +kernel
theorem i_X8_getOf_14 : ins MX8_getOf 14 = some (.iload_n 1) := by decide +kernel
theorem i_X8_getOf_15 : ins MX8_getOf 15 = some (.imul) := by decide +kernel
theorem i_X8_getOf_16 : ins MX8_getOf 16 = some (.iload_n 2) := by decide +kernel
theorem i_X8_getOf_17 : ins MX8_getOf 17 = some (.iadd) := by decide +kernel
theorem i_X8_getOf_18 : ins MX8_getOf 18 = some (.iaload) := by decide +kernel
theorem i_X8_getOf_19 : ins MX8_getOf 19 = some (.goto 4) := by decide +kernel
theorem i_X8_getOf_22 : ins MX8_getOf 22 = some (.iconst (-1)) := by decide +kernel
theorem i_X8_getOf_23 : ins MX8_getOf 23 = some (.ireturn) := by decide +kernel
theorem i_X8_get_0 : ins MX8_get 0 = some (.iload_n 1) := by decide +kernel
theorem i_X8_get_1 : ins MX8_get 1 = some (.i2l) := by decide +kernel
theorem i_X8_get_2 : ins MX8_get 2 = some (.lconst 0) := by decide +kernel
theorem i_X8_get_3 : ins MX8_get 3 = some (.ldc2_w 92) := by decide +kernel
theorem i_X8_get_6 : ins MX8_get 6 = some (.invokestatic 88) := by decide +kernel
theorem i_X8_get_9 : ins MX8_get 9 = some (.ifCond .eq 19) := by decide +kernel
theorem i_X8_get_12 : ins MX8_get 12 = some (.iload_n 2) := by decide +kernel
theorem i_X8_get_13 : ins MX8_get 13 = some (.invokestatic 94) := by decide +kernel
theorem i_X8_get_16 : ins MX8_get 16 = some (.ifCond .eq 12) := by decide +kernel
theorem i_X8_get_19 : ins MX8_get 19 = some (.aload_n 0) := by decide +kernel
theorem i_X8_get_20 : ins MX8_get 20 = some (.iload_n 1) := by decide +kernel
theorem i_X8_get_21 : ins MX8_get 21 = some (.iload_n 2) := by decide +kernel
theorem i_X8_get_22 : ins MX8_get 22 = some (.invokevirtual 140) := by decide +kernel
theorem i_X8_get_25 : ins MX8_get 25 = some (.goto 5) := by decide +kernel
theorem i_X8_get_28 : ins MX8_get 28 = some (.bipush (-101)) := by decide +kernel
theorem i_X8_get_30 : ins MX8_get 30 = some (.ireturn) := by decide +kernel
theorem i_X8_untear_0 : ins MX8_untear 0 = some (.iconst 0) := by decide +kernel
theorem i_X8_untear_1 : ins MX8_untear 1 = some (.istore_n 2) := by decide +kernel
theorem i_X8_untear_2 : ins MX8_untear 2 = some (.iload_n 2) := by decide +kernel
theorem i_X8_untear_3 : ins MX8_untear 3 = some (.bipush 64) := by decide +kernel
theorem i_X8_untear_5 : ins MX8_untear 5 = some (.if_icmp .ge 21) := by decide +kernel
theorem i_X8_untear_8 : ins MX8_untear 8 = some (.aload_n 0) := by decide +kernel
theorem i_X8_untear_9 : ins MX8_untear 9 = some (.getfield 47) := by decide +kernel
theorem i_X8_untear_12 : ins MX8_untear 12 = some (.bipush 64) := by decide +kernel
theorem i_X8_untear_14 : ins MX8_untear 14 = some (.iload_n 1) := by decide +kernel
theorem i_X8_untear_15 : ins MX8_untear 15 = some (.imul) := by decide +kernel
theorem i_X8_untear_16 : ins MX8_untear 16 = some (.iload_n 2) := by decide +kernel
theorem i_X8_untear_17 : ins MX8_untear 17 = some (.iadd) := by decide +kernel
theorem i_X8_untear_18 : ins MX8_untear 18 = some (.iconst 0) := by decide +kernel
theorem i_X8_untear_19 : ins MX8_untear 19 = some (.bastore) := by decide +kernel
theorem i_X8_untear_20 : ins MX8_untear 20 = some (.iinc 2 1) := by decide +kernel
theorem i_X8_untear_23 : ins MX8_untear 23 = some (.goto (-21)) := by decide +kernel
theorem i_X8_untear_26 : ins MX8_untear 26 = some (.return_) := by decide +kernel
theorem i_X8_vectorsOf_0 : ins MX8_vectorsOf 0 = some (.iload_n 0) := by decide +kernel
theorem i_X8_vectorsOf_1 : ins MX8_vectorsOf 1 = some (.iconst 1) := by decide +kernel
theorem i_X8_vectorsOf_2 : ins MX8_vectorsOf 2 = some (.if_icmp .ne 9) := by decide +kernel
theorem i_X8_vectorsOf_5 : ins MX8_vectorsOf 5 = some (.iload_n 1) := by decide +kernel
theorem i_X8_vectorsOf_6 : ins MX8_vectorsOf 6 = some (.iconst 1) := by decide +kernel
theorem i_X8_vectorsOf_7 : ins MX8_vectorsOf 7 = some (.isub) := by decide +kernel
theorem i_X8_vectorsOf_8 : ins MX8_vectorsOf 8 = some (.goto 13) := by decide +kernel
theorem i_X8_vectorsOf_11 : ins MX8_vectorsOf 11 = some (.iload_n 1) := by decide +kernel
theorem i_X8_vectorsOf_12 : ins MX8_vectorsOf 12 = some (.iconst 2) := by decide +kernel
theorem i_X8_vectorsOf_13 : ins MX8_vectorsOf 13 = some (.if_icmp .ne 7) := by decide +kernel
theorem i_X8_vectorsOf_16 : ins MX8_vectorsOf 16 = some (.iconst 1) := by decide +kernel
theorem i_X8_vectorsOf_17 : ins MX8_vectorsOf 17 = some (.goto 4) := by decide +kernel
theorem i_X8_vectorsOf_20 : ins MX8_vectorsOf 20 = some (.iload_n 1) := by decide +kernel
theorem i_X8_vectorsOf_21 : ins MX8_vectorsOf 21 = some (.ireturn) := by decide +kernel
theorem i_X8_roomOf_0 : ins MX8_roomOf 0 = some (.iconst 0) := by decide +kernel
theorem i_X8_roomOf_1 : ins MX8_roomOf 1 = some (.istore_n 2) := by decide +kernel
theorem i_X8_roomOf_2 : ins MX8_roomOf 2 = some (.iconst 0) := by decide +kernel
theorem i_X8_roomOf_3 : ins MX8_roomOf 3 = some (.istore_n 3) := by decide +kernel
theorem i_X8_roomOf_4 : ins MX8_roomOf 4 = some (.iload_n 3) := by decide +kernel
theorem i_X8_roomOf_5 : ins MX8_roomOf 5 = some (.aload_n 0) := by decide +kernel
theorem i_X8_roomOf_6 : ins MX8_roomOf 6 = some (.getfield 44) := by decide +kernel
theorem i_X8_roomOf_9 : ins MX8_roomOf 9 = some (.iload_n 1) := by decide +kernel
theorem i_X8_roomOf_10 : ins MX8_roomOf 10 = some (.iaload) := by decide +kernel
theorem i_X8_roomOf_11 : ins MX8_roomOf 11 = some (.if_icmp .ge 32) := by decide +kernel
theorem i_X8_roomOf_14 : ins MX8_roomOf 14 = some (.iload_n 2) := by decide +kernel
theorem i_X8_roomOf_15 : ins MX8_roomOf 15 = some (.aload_n 0) := by decide +kernel
theorem i_X8_roomOf_16 : ins MX8_roomOf 16 = some (.getfield 38) := by decide +kernel
theorem i_X8_roomOf_19 : ins MX8_roomOf 19 = some (.iload_n 1) := by decide +kernel
theorem i_X8_roomOf_20 : ins MX8_roomOf 20 = some (.iaload) := by decide +kernel
theorem i_X8_roomOf_21 : ins MX8_roomOf 21 = some (.aload_n 0) := by decide +kernel
theorem i_X8_roomOf_22 : ins MX8_roomOf 22 = some (.getfield 41) := by decide +kernel
theorem i_X8_roomOf_25 : ins MX8_roomOf 25 = some (.bipush 6) := by decide +kernel
theorem i_X8_roomOf_27 : ins MX8_roomOf 27 = some (.iload_n 1) := by decide +kernel
theorem i_X8_roomOf_28 : ins MX8_roomOf 28 = some (.imul) := by decide +kernel
theorem i_X8_roomOf_29 : ins MX8_roomOf 29 = some (.iload_n 3) := by decide +kernel
theorem i_X8_roomOf_30 : ins MX8_roomOf 30 = some (.iadd) := by decide +kernel
theorem i_X8_roomOf_31 : ins MX8_roomOf 31 = some (.iaload) := by decide +kernel
theorem i_X8_roomOf_32 : ins MX8_roomOf 32 = some (.invokestatic 144) := by decide +kernel
theorem i_X8_roomOf_35 : ins MX8_roomOf 35 = some (.iadd) := by decide +kernel
theorem i_X8_roomOf_36 : ins MX8_roomOf 36 = some (.istore_n 2) := by decide +kernel
theorem i_X8_roomOf_37 : ins MX8_roomOf 37 = some (.iinc 3 1) := by decide +kernel
theorem i_X8_roomOf_40 : ins MX8_roomOf 40 = some (.goto (-36)) := by decide +kernel
theorem i_X8_roomOf_43 : ins MX8_roomOf 43 = some (.iload_n 2) := by decide +kernel
theorem i_X8_roomOf_44 : ins MX8_roomOf 44 = some (.ireturn) := by decide +kernel
theorem i_X8_isDesign_0 : ins MX8_isDesign 0 = some (.lconst 1) := by decide +kernel
theorem i_X8_isDesign_1 : ins MX8_isDesign 1 = some (.lstore_n 3) := by decide +kernel
theorem i_X8_isDesign_2 : ins MX8_isDesign 2 = some (.iconst 0) := by decide +kernel
theorem i_X8_isDesign_3 : ins MX8_isDesign 3 = some (.istore 5) := by decide +kernel
theorem i_X8_isDesign_5 : ins MX8_isDesign 5 = some (.iconst 0) := by decide +kernel
theorem i_X8_isDesign_6 : ins MX8_isDesign 6 = some (.istore 6) := by decide +kernel
theorem i_X8_isDesign_8 : ins MX8_isDesign 8 = some (.iload 6) := by decide +kernel
theorem i_X8_isDesign_10 : ins MX8_isDesign 10 = some (.aload_n 0) := by decide +kernel
theorem i_X8_isDesign_11 : ins MX8_isDesign 11 = some (.getfield 147) := by decide +kernel
theorem i_X8_isDesign_14 : ins MX8_isDesign 14 = some (.if_icmp .ge 36) := by decide +kernel
theorem i_X8_isDesign_17 : ins MX8_isDesign 17 = some (.lload_n 3) := by decide +kernel
theorem i_X8_isDesign_18 : ins MX8_isDesign 18 = some (.aload_n 0) := by decide +kernel
theorem i_X8_isDesign_19 : ins MX8_isDesign 19 = some (.getfield 50) := by decide +kernel
theorem i_X8_isDesign_22 : ins MX8_isDesign 22 = some (.iload 6) := by decide +kernel
theorem i_X8_isDesign_24 : ins MX8_isDesign 24 = some (.iaload) := by decide +kernel
theorem i_X8_isDesign_25 : ins MX8_isDesign 25 = some (.i2l) := by decide +kernel
theorem i_X8_isDesign_26 : ins MX8_isDesign 26 = some (.lmul) := by decide +kernel
theorem i_X8_isDesign_27 : ins MX8_isDesign 27 = some (.lstore_n 3) := by decide +kernel
theorem i_X8_isDesign_28 : ins MX8_isDesign 28 = some (.iload 5) := by decide +kernel
theorem i_X8_isDesign_30 : ins MX8_isDesign 30 = some (.iload_n 1) := by decide +kernel
theorem i_X8_isDesign_31 : ins MX8_isDesign 31 = some (.aload_n 0) := by decide +kernel
theorem i_X8_isDesign_32 : ins MX8_isDesign 32 = some (.getfield 50) := by decide +kernel
theorem i_X8_isDesign_35 : ins MX8_isDesign 35 = some (.iload 6) := by decide +kernel
theorem i_X8_isDesign_37 : ins MX8_isDesign 37 = some (.iaload) := by decide +kernel
theorem i_X8_isDesign_38 : ins MX8_isDesign 38 = some (.invokestatic 144) := by decide +kernel
theorem i_X8_isDesign_41 : ins MX8_isDesign 41 = some (.iadd) := by decide +kernel
theorem i_X8_isDesign_42 : ins MX8_isDesign 42 = some (.istore 5) := by decide +kernel
theorem i_X8_isDesign_44 : ins MX8_isDesign 44 = some (.iinc 6 1) := by decide +kernel
theorem i_X8_isDesign_47 : ins MX8_isDesign 47 = some (.goto (-39)) := by decide +kernel
theorem i_X8_isDesign_50 : ins MX8_isDesign 50 = some (.aload_n 0) := by decide +kernel
theorem i_X8_isDesign_51 : ins MX8_isDesign 51 = some (.getfield 147) := by decide +kernel
theorem i_X8_isDesign_54 : ins MX8_isDesign 54 = some (.ifCond .le 21) := by decide +kernel
theorem i_X8_isDesign_57 : ins MX8_isDesign 57 = some (.lload_n 3) := by decide +kernel
theorem i_X8_isDesign_58 : ins MX8_isDesign 58 = some (.iload_n 2) := by decide +kernel
theorem i_X8_isDesign_59 : ins MX8_isDesign 59 = some (.i2l) := by decide +kernel
theorem i_X8_isDesign_60 : ins MX8_isDesign 60 = some (.lcmp) := by decide +kernel
theorem i_X8_isDesign_61 : ins MX8_isDesign 61 = some (.ifCond .lt 14) := by decide +kernel
theorem i_X8_isDesign_64 : ins MX8_isDesign 64 = some (.iload 5) := by decide +kernel
theorem i_X8_isDesign_66 : ins MX8_isDesign 66 = some (.bipush 64) := by decide +kernel
theorem i_X8_isDesign_68 : ins MX8_isDesign 68 = some (.if_icmp .gt 7) := by decide +kernel
theorem i_X8_isDesign_71 : ins MX8_isDesign 71 = some (.iconst 1) := by decide +kernel
theorem i_X8_isDesign_72 : ins MX8_isDesign 72 = some (.goto 4) := by decide +kernel
theorem i_X8_isDesign_75 : ins MX8_isDesign 75 = some (.iconst 0) := by decide +kernel
theorem i_X8_isDesign_76 : ins MX8_isDesign 76 = some (.istore 6) := by decide +kernel
theorem i_X8_isDesign_78 : ins MX8_isDesign 78 = some (.iconst 0) := by decide +kernel
theorem i_X8_isDesign_79 : ins MX8_isDesign 79 = some (.istore 7) := by decide +kernel
theorem i_X8_isDesign_81 : ins MX8_isDesign 81 = some (.iload 7) := by decide +kernel
theorem i_X8_isDesign_83 : ins MX8_isDesign 83 = some (.aload_n 0) := by decide +kernel
theorem i_X8_isDesign_84 : ins MX8_isDesign 84 = some (.getfield 147) := by decide +kernel
theorem i_X8_isDesign_87 : ins MX8_isDesign 87 = some (.if_icmp .ge 37) := by decide +kernel
theorem i_X8_isDesign_90 : ins MX8_isDesign 90 = some (.iload 6) := by decide +kernel
theorem i_X8_isDesign_92 : ins MX8_isDesign 92 = some (.ifCond .eq 23) := by decide +kernel
theorem i_X8_isDesign_95 : ins MX8_isDesign 95 = some (.lload_n 3) := by decide +kernel
theorem i_X8_isDesign_96 : ins MX8_isDesign 96 = some (.aload_n 0) := by decide +kernel
theorem i_X8_isDesign_97 : ins MX8_isDesign 97 = some (.getfield 50) := by decide +kernel
theorem i_X8_isDesign_100 : ins MX8_isDesign 100 = some (.iload 7) := by decide +kernel
theorem i_X8_isDesign_102 : ins MX8_isDesign 102 = some (.iaload) := by decide +kernel
theorem i_X8_isDesign_103 : ins MX8_isDesign 103 = some (.i2l) := by decide +kernel
theorem i_X8_isDesign_104 : ins MX8_isDesign 104 = some (.ldiv) := by decide +kernel
theorem i_X8_isDesign_105 : ins MX8_isDesign 105 = some (.iload_n 2) := by decide +kernel
theorem i_X8_isDesign_106 : ins MX8_isDesign 106 = some (.i2l) := by decide +kernel
theorem i_X8_isDesign_107 : ins MX8_isDesign 107 = some (.lcmp) := by decide +kernel
theorem i_X8_isDesign_108 : ins MX8_isDesign 108 = some (.ifCond .ge 7) := by decide +kernel
theorem i_X8_isDesign_111 : ins MX8_isDesign 111 = some (.iconst 1) := by decide +kernel
theorem i_X8_isDesign_112 : ins MX8_isDesign 112 = some (.goto 4) := by decide +kernel
theorem i_X8_isDesign_115 : ins MX8_isDesign 115 = some (.iconst 0) := by decide +kernel
theorem i_X8_isDesign_116 : ins MX8_isDesign 116 = some (.istore 6) := by decide +kernel
theorem i_X8_isDesign_118 : ins MX8_isDesign 118 = some (.iinc 7 1) := by decide +kernel
theorem i_X8_isDesign_121 : ins MX8_isDesign 121 = some (.goto (-40)) := by decide +kernel
theorem i_X8_isDesign_124 : ins MX8_isDesign 124 = some (.iload 6) := by decide +kernel
theorem i_X8_isDesign_126 : ins MX8_isDesign 126 = some (.ireturn) := by decide +kernel
theorem i_X8_design_0 : ins MX8_design 0 = some (.iload_n 1) := by decide +kernel
theorem i_X8_design_1 : ins MX8_design 1 = some (.invokestatic 94) := by decide +kernel
theorem i_X8_design_4 : ins MX8_design 4 = some (.ifCond .ne 6) := by decide +kernel
theorem i_X8_design_7 : ins MX8_design 7 = some (.bipush (-101)) := by decide +kernel
theorem i_X8_design_9 : ins MX8_design 9 = some (.ireturn) := by decide +kernel
theorem i_X8_design_10 : ins MX8_design 10 = some (.iload_n 2) := by decide +kernel
theorem i_X8_design_11 : ins MX8_design 11 = some (.i2l) := by decide +kernel
theorem i_X8_design_12 : ins MX8_design 12 = some (.lconst 0) := by decide +kernel
theorem i_X8_design_13 : ins MX8_design 13 = some (.lconst 1) := by decide +kernel
theorem i_X8_design_14 : ins MX8_design 14 = some (.invokestatic 88) := by decide +kernel
theorem i_X8_design_17 : ins MX8_design 17 = some (.ifCond .eq 13) := by decide +kernel
theorem i_X8_design_20 : ins MX8_design 20 = some (.lload_n 3) := by decide +kernel
theorem i_X8_design_21 : ins MX8_design 21 = some (.lconst 0) := by decide +kernel
theorem i_X8_design_22 : ins MX8_design 22 = some (.lcmp) := by decide +kernel
theorem i_X8_design_23 : ins MX8_design 23 = some (.ifCond .le 7) := by decide +kernel
theorem i_X8_design_26 : ins MX8_design 26 = some (.iconst 1) := by decide +kernel
theorem i_X8_design_27 : ins MX8_design 27 = some (.goto 4) := by decide +kernel
theorem i_X8_design_30 : ins MX8_design 30 = some (.iconst 0) := by decide +kernel
theorem i_X8_design_31 : ins MX8_design 31 = some (.istore 5) := by decide +kernel
theorem i_X8_design_33 : ins MX8_design 33 = some (.lload_n 3) := by decide +kernel
theorem i_X8_design_34 : ins MX8_design 34 = some (.lstore 6) := by decide +kernel
theorem i_X8_design_36 : ins MX8_design 36 = some (.aload_n 0) := by decide +kernel
theorem i_X8_design_37 : ins MX8_design 37 = some (.iconst 0) := by decide +kernel
theorem i_X8_design_38 : ins MX8_design 38 = some (.putfield 147) := by decide +kernel
theorem i_X8_design_41 : ins MX8_design 41 = some (.lload 6) := by decide +kernel
theorem i_X8_design_43 : ins MX8_design 43 = some (.lconst 0) := by decide +kernel
theorem i_X8_design_44 : ins MX8_design 44 = some (.lcmp) := by decide +kernel
theorem i_X8_design_45 : ins MX8_design 45 = some (.ifCond .le 84) := by decide +kernel
theorem i_X8_design_48 : ins MX8_design 48 = some (.iload 5) := by decide +kernel
theorem i_X8_design_50 : ins MX8_design 50 = some (.ifCond .eq 79) := by decide +kernel
theorem i_X8_design_53 : ins MX8_design 53 = some (.lload 6) := by decide +kernel
theorem i_X8_design_55 : ins MX8_design 55 = some (.ldc2_w 150) := by decide +kernel
theorem i_X8_design_58 : ins MX8_design 58 = some (.lrem) := by decide +kernel
theorem i_X8_design_59 : ins MX8_design 59 = some (.l2i) := by decide +kernel
theorem i_X8_design_60 : ins MX8_design 60 = some (.istore 8) := by decide +kernel
theorem i_X8_design_62 : ins MX8_design 62 = some (.lload 6) := by decide +kernel
theorem i_X8_design_64 : ins MX8_design 64 = some (.ldc2_w 150) := by decide +kernel
theorem i_X8_design_67 : ins MX8_design 67 = some (.ldiv) := by decide +kernel
theorem i_X8_design_68 : ins MX8_design 68 = some (.lstore 6) := by decide +kernel
theorem i_X8_design_70 : ins MX8_design 70 = some (.iload 8) := by decide +kernel
theorem i_X8_design_72 : ins MX8_design 72 = some (.i2l) := by decide +kernel
theorem i_X8_design_73 : ins MX8_design 73 = some (.ldc2_w 98) := by decide +kernel
theorem i_X8_design_76 : ins MX8_design 76 = some (.ldc2_w 100) := by decide +kernel
theorem i_X8_design_79 : ins MX8_design 79 = some (.invokestatic 88) := by decide +kernel
theorem i_X8_design_82 : ins MX8_design 82 = some (.ifCond .eq 15) := by decide +kernel
theorem i_X8_design_85 : ins MX8_design 85 = some (.aload_n 0) := by decide +kernel
theorem i_X8_design_86 : ins MX8_design 86 = some (.getfield 147) := by decide +kernel
theorem i_X8_design_89 : ins MX8_design 89 = some (.iconst 5) := by decide +kernel
theorem i_X8_design_90 : ins MX8_design 90 = some (.if_icmp .ge 7) := by decide +kernel
theorem i_X8_design_93 : ins MX8_design 93 = some (.iconst 1) := by decide +kernel
theorem i_X8_design_94 : ins MX8_design 94 = some (.goto 4) := by decide +kernel
theorem i_X8_design_97 : ins MX8_design 97 = some (.iconst 0) := by decide +kernel
theorem i_X8_design_98 : ins MX8_design 98 = some (.istore 5) := by decide +kernel
theorem i_X8_design_100 : ins MX8_design 100 = some (.iload 5) := by decide +kernel
theorem i_X8_design_102 : ins MX8_design 102 = some (.ifCond .eq 24) := by decide +kernel
theorem i_X8_design_105 : ins MX8_design 105 = some (.aload_n 0) := by decide +kernel
theorem i_X8_design_106 : ins MX8_design 106 = some (.getfield 50) := by decide +kernel
theorem i_X8_design_109 : ins MX8_design 109 = some (.aload_n 0) := by decide +kernel
theorem i_X8_design_110 : ins MX8_design 110 = some (.getfield 147) := by decide +kernel
theorem i_X8_design_113 : ins MX8_design 113 = some (.iload 8) := by decide +kernel
theorem i_X8_design_115 : ins MX8_design 115 = some (.iastore) := by decide +kernel
theorem i_X8_design_116 : ins MX8_design 116 = some (.aload_n 0) := by decide +kernel
theorem i_X8_design_117 : ins MX8_design 117 = some (.dup) := by decide +kernel
theorem i_X8_design_118 : ins MX8_design 118 = some (.getfield 147) := by decide +kernel
theorem i_X8_design_121 : ins MX8_design 121 = some (.iconst 1) := by decide +kernel
theorem i_X8_design_122 : ins MX8_design 122 = some (.iadd) := by decide +kernel
theorem i_X8_design_123 : ins MX8_design 123 = some (.putfield 147) := by decide +kernel
theorem i_X8_design_126 : ins MX8_design 126 = some (.goto (-85)) := by decide +kernel
theorem i_X8_design_129 : ins MX8_design 129 = some (.iload 5) := by decide +kernel
theorem i_X8_design_131 : ins MX8_design 131 = some (.ifCond .eq 17) := by decide +kernel
theorem i_X8_design_134 : ins MX8_design 134 = some (.aload_n 0) := by decide +kernel
theorem i_X8_design_135 : ins MX8_design 135 = some (.iload_n 2) := by decide +kernel
theorem i_X8_design_136 : ins MX8_design 136 = some (.aload_n 0) := by decide +kernel
theorem i_X8_design_137 : ins MX8_design 137 = some (.getfield 7) := by decide +kernel
theorem i_X8_design_140 : ins MX8_design 140 = some (.iload_n 1) := by decide +kernel
theorem i_X8_design_141 : ins MX8_design 141 = some (.iaload) := by decide +kernel
theorem i_X8_design_142 : ins MX8_design 142 = some (.invokevirtual 152) := by decide +kernel
theorem i_X8_design_145 : ins MX8_design 145 = some (.ifCond .ne 6) := by decide +kernel
theorem i_X8_design_148 : ins MX8_design 148 = some (.bipush (-102)) := by decide +kernel
theorem i_X8_design_150 : ins MX8_design 150 = some (.ireturn) := by decide +kernel
theorem i_X8_design_151 : ins MX8_design 151 = some (.aload_n 0) := by decide +kernel
theorem i_X8_design_152 : ins MX8_design 152 = some (.getfield 38) := by decide +kernel
theorem i_X8_design_155 : ins MX8_design 155 = some (.iload_n 1) := by decide +kernel
theorem i_X8_design_156 : ins MX8_design 156 = some (.iload_n 2) := by decide +kernel
theorem i_X8_design_157 : ins MX8_design 157 = some (.iastore) := by decide +kernel
theorem i_X8_design_158 : ins MX8_design 158 = some (.aload_n 0) := by decide +kernel
theorem i_X8_design_159 : ins MX8_design 159 = some (.getfield 44) := by decide +kernel
theorem i_X8_design_162 : ins MX8_design 162 = some (.iload_n 1) := by decide +kernel
theorem i_X8_design_163 : ins MX8_design 163 = some (.aload_n 0) := by decide +kernel
theorem i_X8_design_164 : ins MX8_design 164 = some (.getfield 147) := by decide +kernel
theorem i_X8_design_167 : ins MX8_design 167 = some (.iastore) := by decide +kernel
theorem i_X8_design_168 : ins MX8_design 168 = some (.iconst 0) := by decide +kernel
theorem i_X8_design_169 : ins MX8_design 169 = some (.istore 8) := by decide +kernel
theorem i_X8_design_171 : ins MX8_design 171 = some (.iload 8) := by decide +kernel
theorem i_X8_design_173 : ins MX8_design 173 = some (.aload_n 0) := by decide +kernel
theorem i_X8_design_174 : ins MX8_design 174 = some (.getfield 147) := by decide +kernel
theorem i_X8_design_177 : ins MX8_design 177 = some (.if_icmp .ge 28) := by decide +kernel
theorem i_X8_design_180 : ins MX8_design 180 = some (.aload_n 0) := by decide +kernel
theorem i_X8_design_181 : ins MX8_design 181 = some (.getfield 41) := by decide +kernel
theorem i_X8_design_184 : ins MX8_design 184 = some (.bipush 6) := by decide +kernel
theorem i_X8_design_186 : ins MX8_design 186 = some (.iload_n 1) := by decide +kernel
theorem i_X8_design_187 : ins MX8_design 187 = some (.imul) := by decide +kernel
theorem i_X8_design_188 : ins MX8_design 188 = some (.iload 8) := by decide +kernel
theorem i_X8_design_190 : ins MX8_design 190 = some (.iadd) := by decide +kernel
theorem i_X8_design_191 : ins MX8_design 191 = some (.aload_n 0) := by decide +kernel
theorem i_X8_design_192 : ins MX8_design 192 = some (.getfield 50) := by decide +kernel
theorem i_X8_design_195 : ins MX8_design 195 = some (.iload 8) := by decide +kernel
theorem i_X8_design_197 : ins MX8_design 197 = some (.iaload) := by decide +kernel
theorem i_X8_design_198 : ins MX8_design 198 = some (.iastore) := by decide +kernel
theorem i_X8_design_199 : ins MX8_design 199 = some (.iinc 8 1) := by decide +kernel
theorem i_X8_design_202 : ins MX8_design 202 = some (.goto (-31)) := by decide +kernel
theorem i_X8_design_205 : ins MX8_design 205 = some (.aload_n 0) := by decide +kernel
theorem i_X8_design_206 : ins MX8_design 206 = some (.iload_n 1) := by decide +kernel
theorem i_X8_design_207 : ins MX8_design 207 = some (.invokevirtual 113) := by decide +kernel
theorem i_X8_design_210 : ins MX8_design 210 = some (.aload_n 0) := by decide +kernel
theorem i_X8_design_211 : ins MX8_design 211 = some (.iload_n 1) := by decide +kernel
theorem i_X8_design_212 : ins MX8_design 212 = some (.invokevirtual 156) := by decide +kernel
theorem i_X8_design_215 : ins MX8_design 215 = some (.ireturn) := by decide +kernel
theorem i_X8_tornOf_0 : ins MX8_tornOf 0 = some (.iconst 0) := by decide +kernel
theorem i_X8_tornOf_1 : ins MX8_tornOf 1 = some (.istore_n 2) := by decide +kernel
theorem i_X8_tornOf_2 : ins MX8_tornOf 2 = some (.iconst 0) := by decide +kernel
theorem i_X8_tornOf_3 : ins MX8_tornOf 3 = some (.istore_n 3) := by decide +kernel
theorem i_X8_tornOf_4 : ins MX8_tornOf 4 = some (.iload_n 3) := by decide +kernel
theorem i_X8_tornOf_5 : ins MX8_tornOf 5 = some (.bipush 64) := by decide +kernel
theorem i_X8_tornOf_7 : ins MX8_tornOf 7 = some (.if_icmp .ge 31) := by decide +kernel
theorem i_X8_tornOf_10 : ins MX8_tornOf 10 = some (.iload_n 2) := by decide +kernel
theorem i_X8_tornOf_11 : ins MX8_tornOf 11 = some (.aload_n 0) := by decide +kernel
theorem i_X8_tornOf_12 : ins MX8_tornOf 12 = some (.getfield 47) := by decide +kernel
theorem i_X8_tornOf_15 : ins MX8_tornOf 15 = some (.bipush 64) := by decide +kernel
theorem i_X8_tornOf_17 : ins MX8_tornOf 17 = some (.iload_n 1) := by decide +kernel
theorem i_X8_tornOf_18 : ins MX8_tornOf 18 = some (.imul) := by decide +kernel
theorem i_X8_tornOf_19 : ins MX8_tornOf 19 = some (.iload_n 3) := by decide +kernel
theorem i_X8_tornOf_20 : ins MX8_tornOf 20 = some (.iadd) := by decide +kernel
theorem i_X8_tornOf_21 : ins MX8_tornOf 21 = some (.baload) := by decide +kernel
theorem i_X8_tornOf_22 : ins MX8_tornOf 22 = some (.ifCond .eq 7) := by decide +kernel
theorem i_X8_tornOf_25 : ins MX8_tornOf 25 = some (.iconst 1) := by decide +kernel
theorem i_X8_tornOf_26 : ins MX8_tornOf 26 = some (.goto 4) := by decide +kernel
theorem i_X8_tornOf_29 : ins MX8_tornOf 29 = some (.iconst 0) := by decide +kernel
theorem i_X8_tornOf_30 : ins MX8_tornOf 30 = some (.iadd) := by decide +kernel
theorem i_X8_tornOf_31 : ins MX8_tornOf 31 = some (.istore_n 2) := by decide +kernel
theorem i_X8_tornOf_32 : ins MX8_tornOf 32 = some (.iinc 3 1) := by decide +kernel
theorem i_X8_tornOf_35 : ins MX8_tornOf 35 = some (.goto (-31)) := by decide +kernel
theorem i_X8_tornOf_38 : ins MX8_tornOf 38 = some (.iload_n 2) := by decide +kernel
theorem i_X8_tornOf_39 : ins MX8_tornOf 39 = some (.ireturn) := by decide +kernel
theorem i_X8_aboutOf_0 : ins MX8_aboutOf 0 = some (.iload_n 2) := by decide +kernel
theorem i_X8_aboutOf_1 : ins MX8_aboutOf 1 = some (.tableswitch 68 0 4 #[35, 42, 49, 56, 62]) := by decide +kernel
theorem i_X8_aboutOf_36 : ins MX8_aboutOf 36 = some (.aload_n 0) := by decide +kernel
theorem i_X8_aboutOf_37 : ins MX8_aboutOf 37 = some (.getfield 7) := by decide +kernel
theorem i_X8_aboutOf_40 : ins MX8_aboutOf 40 = some (.iload_n 1) := by decide +kernel
theorem i_X8_aboutOf_41 : ins MX8_aboutOf 41 = some (.iaload) := by decide +kernel
theorem i_X8_aboutOf_42 : ins MX8_aboutOf 42 = some (.ireturn) := by decide +kernel
theorem i_X8_aboutOf_43 : ins MX8_aboutOf 43 = some (.aload_n 0) := by decide +kernel
theorem i_X8_aboutOf_44 : ins MX8_aboutOf 44 = some (.getfield 38) := by decide +kernel
theorem i_X8_aboutOf_47 : ins MX8_aboutOf 47 = some (.iload_n 1) := by decide +kernel
theorem i_X8_aboutOf_48 : ins MX8_aboutOf 48 = some (.iaload) := by decide +kernel
theorem i_X8_aboutOf_49 : ins MX8_aboutOf 49 = some (.ireturn) := by decide +kernel
theorem i_X8_aboutOf_50 : ins MX8_aboutOf 50 = some (.aload_n 0) := by decide +kernel
theorem i_X8_aboutOf_51 : ins MX8_aboutOf 51 = some (.getfield 44) := by decide +kernel
theorem i_X8_aboutOf_54 : ins MX8_aboutOf 54 = some (.iload_n 1) := by decide +kernel
theorem i_X8_aboutOf_55 : ins MX8_aboutOf 55 = some (.iaload) := by decide +kernel
theorem i_X8_aboutOf_56 : ins MX8_aboutOf 56 = some (.ireturn) := by decide +kernel
theorem i_X8_aboutOf_57 : ins MX8_aboutOf 57 = some (.aload_n 0) := by decide +kernel
theorem i_X8_aboutOf_58 : ins MX8_aboutOf 58 = some (.iload_n 1) := by decide +kernel
theorem i_X8_aboutOf_59 : ins MX8_aboutOf 59 = some (.invokevirtual 156) := by decide +kernel
theorem i_X8_aboutOf_62 : ins MX8_aboutOf 62 = some (.ireturn) := by decide +kernel
theorem i_X8_aboutOf_63 : ins MX8_aboutOf 63 = some (.aload_n 0) := by decide +kernel
theorem i_X8_aboutOf_64 : ins MX8_aboutOf 64 = some (.iload_n 1) := by decide +kernel
theorem i_X8_aboutOf_65 : ins MX8_aboutOf 65 = some (.invokevirtual 160) := by decide +kernel
theorem i_X8_aboutOf_68 : ins MX8_aboutOf 68 = some (.ireturn) := by decide +kernel
theorem i_X8_aboutOf_69 : ins MX8_aboutOf 69 = some (.iload_n 2) := by decide +kernel
theorem i_X8_aboutOf_70 : ins MX8_aboutOf 70 = some (.bipush 10) := by decide +kernel
theorem i_X8_aboutOf_72 : ins MX8_aboutOf 72 = some (.isub) := by decide +kernel
theorem i_X8_aboutOf_73 : ins MX8_aboutOf 73 = some (.aload_n 0) := by decide +kernel
theorem i_X8_aboutOf_74 : ins MX8_aboutOf 74 = some (.getfield 44) := by decide +kernel
theorem i_X8_aboutOf_77 : ins MX8_aboutOf 77 = some (.iload_n 1) := by decide +kernel
theorem i_X8_aboutOf_78 : ins MX8_aboutOf 78 = some (.iaload) := by decide +kernel
theorem i_X8_aboutOf_79 : ins MX8_aboutOf 79 = some (.if_icmp .ge 20) := by decide +kernel
theorem i_X8_aboutOf_82 : ins MX8_aboutOf 82 = some (.aload_n 0) := by decide +kernel
theorem i_X8_aboutOf_83 : ins MX8_aboutOf 83 = some (.getfield 41) := by decide +kernel
theorem i_X8_aboutOf_86 : ins MX8_aboutOf 86 = some (.bipush 6) := by decide +kernel
theorem i_X8_aboutOf_88 : ins MX8_aboutOf 88 = some (.iload_n 1) := by decide +kernel
theorem i_X8_aboutOf_89 : ins MX8_aboutOf 89 = some (.imul) := by decide +kernel
theorem i_X8_aboutOf_90 : ins MX8_aboutOf 90 = some (.iload_n 2) := by decide +kernel
theorem i_X8_aboutOf_91 : ins MX8_aboutOf 91 = some (.iadd) := by decide +kernel
theorem i_X8_aboutOf_92 : ins MX8_aboutOf 92 = some (.bipush 10) := by decide +kernel
theorem i_X8_aboutOf_94 : ins MX8_aboutOf 94 = some (.isub) := by decide +kernel
theorem i_X8_aboutOf_95 : ins MX8_aboutOf 95 = some (.iaload) := by decide +kernel
theorem i_X8_aboutOf_96 : ins MX8_aboutOf 96 = some (.goto 4) := by decide +kernel
theorem i_X8_aboutOf_99 : ins MX8_aboutOf 99 = some (.iconst (-1)) := by decide +kernel
theorem i_X8_aboutOf_100 : ins MX8_aboutOf 100 = some (.ireturn) := by decide +kernel
theorem i_X8_about_0 : ins MX8_about 0 = some (.iload_n 1) := by decide +kernel
theorem i_X8_about_1 : ins MX8_about 1 = some (.invokestatic 94) := by decide +kernel
theorem i_X8_about_4 : ins MX8_about 4 = some (.ifCond .ne 6) := by decide +kernel
theorem i_X8_about_7 : ins MX8_about 7 = some (.bipush (-101)) := by decide +kernel
theorem i_X8_about_9 : ins MX8_about 9 = some (.ireturn) := by decide +kernel
theorem i_X8_about_10 : ins MX8_about 10 = some (.iload_n 2) := by decide +kernel
theorem i_X8_about_11 : ins MX8_about 11 = some (.i2l) := by decide +kernel
theorem i_X8_about_12 : ins MX8_about 12 = some (.lconst 0) := by decide +kernel
theorem i_X8_about_13 : ins MX8_about 13 = some (.ldc2_w 163) := by decide +kernel
theorem i_X8_about_16 : ins MX8_about 16 = some (.invokestatic 88) := by decide +kernel
theorem i_X8_about_19 : ins MX8_about 19 = some (.ifCond .ne 17) := by decide +kernel
theorem i_X8_about_22 : ins MX8_about 22 = some (.iload_n 2) := by decide +kernel
theorem i_X8_about_23 : ins MX8_about 23 = some (.i2l) := by decide +kernel
theorem i_X8_about_24 : ins MX8_about 24 = some (.ldc2_w 165) := by decide +kernel
theorem i_X8_about_27 : ins MX8_about 27 = some (.ldc2_w 167) := by decide +kernel
theorem i_X8_about_30 : ins MX8_about 30 = some (.invokestatic 88) := by decide +kernel
theorem i_X8_about_33 : ins MX8_about 33 = some (.ifCond .eq 12) := by decide +kernel
theorem i_X8_about_36 : ins MX8_about 36 = some (.aload_n 0) := by decide +kernel
theorem i_X8_about_37 : ins MX8_about 37 = some (.iload_n 1) := by decide +kernel
theorem i_X8_about_38 : ins MX8_about 38 = some (.iload_n 2) := by decide +kernel
theorem i_X8_about_39 : ins MX8_about 39 = some (.invokevirtual 169) := by decide +kernel
theorem i_X8_about_42 : ins MX8_about 42 = some (.goto 5) := by decide +kernel
theorem i_X8_about_45 : ins MX8_about 45 = some (.bipush (-102)) := by decide +kernel
theorem i_X8_about_47 : ins MX8_about 47 = some (.ireturn) := by decide +kernel
theorem i_X8_findVector_0 : ins MX8_findVector 0 = some (.aload_n 0) := by decide +kernel
theorem i_X8_findVector_1 : ins MX8_findVector 1 = some (.iconst 0) := by decide +kernel
theorem i_X8_findVector_2 : ins MX8_findVector 2 = some (.putfield 172) := by decide +kernel
theorem i_X8_findVector_5 : ins MX8_findVector 5 = some (.aload_n 0) := by decide +kernel
theorem i_X8_findVector_6 : ins MX8_findVector 6 = some (.iload_n 2) := by decide +kernel
theorem i_X8_findVector_7 : ins MX8_findVector 7 = some (.putfield 175) := by decide +kernel
theorem i_X8_findVector_10 : ins MX8_findVector 10 = some (.aload_n 0) := by decide +kernel
theorem i_X8_findVector_11 : ins MX8_findVector 11 = some (.getfield 175) := by decide +kernel
theorem i_X8_findVector_14 : ins MX8_findVector 14 = some (.aload_n 0) := by decide +kernel
theorem i_X8_findVector_15 : ins MX8_findVector 15 = some (.getfield 38) := by decide +kernel
theorem i_X8_findVector_18 : ins MX8_findVector 18 = some (.iload_n 1) := by decide +kernel
theorem i_X8_findVector_19 : ins MX8_findVector 19 = some (.iaload) := by decide +kernel
theorem i_X8_findVector_20 : ins MX8_findVector 20 = some (.aload_n 0) := by decide +kernel
theorem i_X8_findVector_21 : ins MX8_findVector 21 = some (.getfield 41) := by decide +kernel
theorem i_X8_findVector_24 : ins MX8_findVector 24 = some (.bipush 6) := by decide +kernel
theorem i_X8_findVector_26 : ins MX8_findVector 26 = some (.iload_n 1) := by decide +kernel
theorem i_X8_findVector_27 : ins MX8_findVector 27 = some (.imul) := by decide +kernel
theorem i_X8_findVector_28 : ins MX8_findVector 28 = some (.aload_n 0) := by decide +kernel
theorem i_X8_findVector_29 : ins MX8_findVector 29 = some (.getfield 172) := by decide +kernel
theorem i_X8_findVector_32 : ins MX8_findVector 32 = some (.iadd) := by decide +kernel
theorem i_X8_findVector_33 : ins MX8_findVector 33 = some (.iaload) := by decide +kernel
theorem i_X8_findVector_34 : ins MX8_findVector 34 = some (.invokestatic 144) := by decide +kernel
theorem i_X8_findVector_37 : ins MX8_findVector 37 = some (.if_icmp .lt 48) := by decide +kernel
theorem i_X8_findVector_40 : ins MX8_findVector 40 = some (.aload_n 0) := by decide +kernel
theorem i_X8_findVector_41 : ins MX8_findVector 41 = some (.dup) := by decide +kernel
theorem i_X8_findVector_42 : ins MX8_findVector 42 = some (.getfield 175) := by decide +kernel
theorem i_X8_findVector_45 : ins MX8_findVector 45 = some (.aload_n 0) := by decide +kernel
theorem i_X8_findVector_46 : ins MX8_findVector 46 = some (.getfield 38) := by decide +kernel
theorem i_X8_findVector_49 : ins MX8_findVector 49 = some (.iload_n 1) := by decide +kernel
theorem i_X8_findVector_50 : ins MX8_findVector 50 = some (.iaload) := by decide +kernel
theorem i_X8_findVector_51 : ins MX8_findVector 51 = some (.aload_n 0) := by decide +kernel
theorem i_X8_findVector_52 : ins MX8_findVector 52 = some (.getfield 41) := by decide +kernel
theorem i_X8_findVector_55 : ins MX8_findVector 55 = some (.bipush 6) := by decide +kernel
theorem i_X8_findVector_57 : ins MX8_findVector 57 = some (.iload_n 1) := by decide +kernel
theorem i_X8_findVector_58 : ins MX8_findVector 58 = some (.imul) := by decide +kernel
theorem i_X8_findVector_59 : ins MX8_findVector 59 = some (.aload_n 0) := by decide +kernel
theorem i_X8_findVector_60 : ins MX8_findVector 60 = some (.getfield 172) := by decide +kernel
theorem i_X8_findVector_63 : ins MX8_findVector 63 = some (.iadd) := by decide +kernel
theorem i_X8_findVector_64 : ins MX8_findVector 64 = some (.iaload) := by decide +kernel
theorem i_X8_findVector_65 : ins MX8_findVector 65 = some (.invokestatic 144) := by decide +kernel
theorem i_X8_findVector_68 : ins MX8_findVector 68 = some (.isub) := by decide +kernel
theorem i_X8_findVector_69 : ins MX8_findVector 69 = some (.putfield 175) := by decide +kernel
theorem i_X8_findVector_72 : ins MX8_findVector 72 = some (.aload_n 0) := by decide +kernel
theorem i_X8_findVector_73 : ins MX8_findVector 73 = some (.dup) := by decide +kernel
theorem i_X8_findVector_74 : ins MX8_findVector 74 = some (.getfield 172) := by decide +kernel
theorem i_X8_findVector_77 : ins MX8_findVector 77 = some (.iconst 1) := by decide +kernel
theorem i_X8_findVector_78 : ins MX8_findVector 78 = some (.iadd) := by decide +kernel
theorem i_X8_findVector_79 : ins MX8_findVector 79 = some (.putfield 172) := by decide +kernel
theorem i_X8_findVector_82 : ins MX8_findVector 82 = some (.goto (-72)) := by decide +kernel
theorem i_X8_findVector_85 : ins MX8_findVector 85 = some (.return_) := by decide +kernel
theorem i_X8_figure_0 : ins MX8_figure 0 = some (.iload_n 3) := by decide +kernel
theorem i_X8_figure_1 : ins MX8_figure 1 = some (.istore 4) := by decide +kernel
theorem i_X8_figure_3 : ins MX8_figure 3 = some (.iconst 0) := by decide +kernel
theorem i_X8_figure_4 : ins MX8_figure 4 = some (.istore 5) := by decide +kernel
theorem i_X8_figure_6 : ins MX8_figure 6 = some (.iload 5) := by decide +kernel
theorem i_X8_figure_8 : ins MX8_figure 8 = some (.iload_n 2) := by decide +kernel
theorem i_X8_figure_9 : ins MX8_figure 9 = some (.if_icmp .ge 26) := by decide +kernel
theorem i_X8_figure_12 : ins MX8_figure 12 = some (.iload 4) := by decide +kernel
theorem i_X8_figure_14 : ins MX8_figure 14 = some (.aload_n 0) := by decide +kernel
theorem i_X8_figure_15 : ins MX8_figure 15 = some (.getfield 41) := by decide +kernel
theorem i_X8_figure_18 : ins MX8_figure 18 = some (.bipush 6) := by decide +kernel
theorem i_X8_figure_20 : ins MX8_figure 20 = some (.iload_n 1) := by decide +kernel
theorem i_X8_figure_21 : ins MX8_figure 21 = some (.imul) := by decide +kernel
theorem i_X8_figure_22 : ins MX8_figure 22 = some (.iload 5) := by decide +kernel
theorem i_X8_figure_24 : ins MX8_figure 24 = some (.iadd) := by decide +kernel
theorem i_X8_figure_25 : ins MX8_figure 25 = some (.iaload) := by decide +kernel
theorem i_X8_figure_26 : ins MX8_figure 26 = some (.idiv) := by decide +kernel
theorem i_X8_figure_27 : ins MX8_figure 27 = some (.istore 4) := by decide +kernel
theorem i_X8_figure_29 : ins MX8_figure 29 = some (.iinc 5 1) := by decide +kernel
theorem i_X8_figure_32 : ins MX8_figure 32 = some (.goto (-26)) := by decide +kernel
theorem i_X8_figure_35 : ins MX8_figure 35 = some (.iload 4) := by decide +kernel
theorem i_X8_figure_37 : ins MX8_figure 37 = some (.aload_n 0) := by decide +kernel
theorem i_X8_figure_38 : ins MX8_figure 38 = some (.getfield 41) := by decide +kernel
theorem i_X8_figure_41 : ins MX8_figure 41 = some (.bipush 6) := by decide +kernel
theorem i_X8_figure_43 : ins MX8_figure 43 = some (.iload_n 1) := by decide +kernel
theorem i_X8_figure_44 : ins MX8_figure 44 = some (.imul) := by decide +kernel
theorem i_X8_figure_45 : ins MX8_figure 45 = some (.iload_n 2) := by decide +kernel
theorem i_X8_figure_46 : ins MX8_figure 46 = some (.iadd) := by decide +kernel
theorem i_X8_figure_47 : ins MX8_figure 47 = some (.iaload) := by decide +kernel
theorem i_X8_figure_48 : ins MX8_figure 48 = some (.irem) := by decide +kernel
theorem i_X8_figure_49 : ins MX8_figure 49 = some (.ireturn) := by decide +kernel
theorem i_X8_bit_0 : ins MX8_bit 0 = some (.aload_n 0) := by decide +kernel
theorem i_X8_bit_1 : ins MX8_bit 1 = some (.iload_n 1) := by decide +kernel
theorem i_X8_bit_2 : ins MX8_bit 2 = some (.aload_n 0) := by decide +kernel
theorem i_X8_bit_3 : ins MX8_bit 3 = some (.getfield 172) := by decide +kernel
theorem i_X8_bit_6 : ins MX8_bit 6 = some (.aload_n 0) := by decide +kernel
theorem i_X8_bit_7 : ins MX8_bit 7 = some (.getfield 13) := by decide +kernel
theorem i_X8_bit_10 : ins MX8_bit 10 = some (.iconst 4) := by decide +kernel
theorem i_X8_bit_11 : ins MX8_bit 11 = some (.iload_n 2) := by decide +kernel
theorem i_X8_bit_12 : ins MX8_bit 12 = some (.imul) := by decide +kernel
theorem i_X8_bit_13 : ins MX8_bit 13 = some (.iload_n 1) := by decide +kernel
theorem i_X8_bit_14 : ins MX8_bit 14 = some (.iadd) := by decide +kernel
theorem i_X8_bit_15 : ins MX8_bit 15 = some (.iaload) := by decide +kernel
theorem i_X8_bit_16 : ins MX8_bit 16 = some (.invokevirtual 178) := by decide +kernel
theorem i_X8_bit_19 : ins MX8_bit 19 = some (.istore_n 3) := by decide +kernel
theorem i_X8_bit_20 : ins MX8_bit 20 = some (.aload_n 0) := by decide +kernel
theorem i_X8_bit_21 : ins MX8_bit 21 = some (.getfield 38) := by decide +kernel
theorem i_X8_bit_24 : ins MX8_bit 24 = some (.iload_n 1) := by decide +kernel
theorem i_X8_bit_25 : ins MX8_bit 25 = some (.iaload) := by decide +kernel
theorem i_X8_bit_26 : ins MX8_bit 26 = some (.ifCond .ne 25) := by decide +kernel
theorem i_X8_bit_29 : ins MX8_bit 29 = some (.aload_n 0) := by decide +kernel
theorem i_X8_bit_30 : ins MX8_bit 30 = some (.getfield 41) := by decide +kernel
theorem i_X8_bit_33 : ins MX8_bit 33 = some (.bipush 6) := by decide +kernel
theorem i_X8_bit_35 : ins MX8_bit 35 = some (.iload_n 1) := by decide +kernel
theorem i_X8_bit_36 : ins MX8_bit 36 = some (.imul) := by decide +kernel
theorem i_X8_bit_37 : ins MX8_bit 37 = some (.aload_n 0) := by decide +kernel
theorem i_X8_bit_38 : ins MX8_bit 38 = some (.getfield 172) := by decide +kernel
theorem i_X8_bit_41 : ins MX8_bit 41 = some (.iadd) := by decide +kernel
theorem i_X8_bit_42 : ins MX8_bit 42 = some (.iaload) := by decide +kernel
theorem i_X8_bit_43 : ins MX8_bit 43 = some (.iconst 2) := by decide +kernel
theorem i_X8_bit_44 : ins MX8_bit 44 = some (.if_icmp .ne 7) := by decide +kernel
theorem i_X8_bit_47 : ins MX8_bit 47 = some (.iconst 1) := by decide +kernel
theorem i_X8_bit_48 : ins MX8_bit 48 = some (.goto 4) := by decide +kernel
theorem i_X8_bit_51 : ins MX8_bit 51 = some (.iconst 0) := by decide +kernel
theorem i_X8_bit_52 : ins MX8_bit 52 = some (.istore 4) := by decide +kernel
theorem i_X8_bit_54 : ins MX8_bit 54 = some (.aload_n 0) := by decide +kernel
theorem i_X8_bit_55 : ins MX8_bit 55 = some (.getfield 38) := by decide +kernel
theorem i_X8_bit_58 : ins MX8_bit 58 = some (.iload_n 1) := by decide +kernel
theorem i_X8_bit_59 : ins MX8_bit 59 = some (.iaload) := by decide +kernel
theorem i_X8_bit_60 : ins MX8_bit 60 = some (.iconst 1) := by decide +kernel
theorem i_X8_bit_61 : ins MX8_bit 61 = some (.if_icmp .ne 19) := by decide +kernel
theorem i_X8_bit_64 : ins MX8_bit 64 = some (.iload_n 3) := by decide +kernel
theorem i_X8_bit_65 : ins MX8_bit 65 = some (.aload_n 0) := by decide +kernel
theorem i_X8_bit_66 : ins MX8_bit 66 = some (.getfield 175) := by decide +kernel
theorem i_X8_bit_69 : ins MX8_bit 69 = some (.if_icmp .gt 7) := by decide +kernel
theorem i_X8_bit_72 : ins MX8_bit 72 = some (.iconst 1) := by decide +kernel
theorem i_X8_bit_73 : ins MX8_bit 73 = some (.goto 38) := by decide +kernel
theorem i_X8_bit_76 : ins MX8_bit 76 = some (.iconst 0) := by decide +kernel
theorem i_X8_bit_77 : ins MX8_bit 77 = some (.goto 34) := by decide +kernel
theorem i_X8_bit_80 : ins MX8_bit 80 = some (.iload 4) := by decide +kernel
theorem i_X8_bit_82 : ins MX8_bit 82 = some (.ifCond .eq 16) := by decide +kernel
theorem i_X8_bit_85 : ins MX8_bit 85 = some (.iload_n 3) := by decide +kernel
theorem i_X8_bit_86 : ins MX8_bit 86 = some (.iconst 1) := by decide +kernel
theorem i_X8_bit_87 : ins MX8_bit 87 = some (.if_icmp .ne 7) := by decide +kernel
theorem i_X8_bit_90 : ins MX8_bit 90 = some (.iconst 1) := by decide +kernel
theorem i_X8_bit_91 : ins MX8_bit 91 = some (.goto 20) := by decide +kernel
theorem i_X8_bit_94 : ins MX8_bit 94 = some (.iconst 0) := by decide +kernel
theorem i_X8_bit_95 : ins MX8_bit 95 = some (.goto 16) := by decide +kernel
theorem i_X8_bit_98 : ins MX8_bit 98 = some (.iload_n 3) := by decide +kernel
theorem i_X8_bit_99 : ins MX8_bit 99 = some (.aload_n 0) := by decide +kernel
theorem i_X8_bit_100 : ins MX8_bit 100 = some (.getfield 175) := by decide +kernel
theorem i_X8_bit_103 : ins MX8_bit 103 = some (.if_icmp .ne 7) := by decide +kernel
theorem i_X8_bit_106 : ins MX8_bit 106 = some (.iconst 1) := by decide +kernel
theorem i_X8_bit_107 : ins MX8_bit 107 = some (.goto 4) := by decide +kernel
theorem i_X8_bit_110 : ins MX8_bit 110 = some (.iconst 0) := by decide +kernel
theorem i_X8_bit_111 : ins MX8_bit 111 = some (.istore 5) := by decide +kernel
theorem i_X8_bit_113 : ins MX8_bit 113 = some (.aload_n 0) := by decide +kernel
theorem i_X8_bit_114 : ins MX8_bit 114 = some (.getfield 16) := by decide +kernel
theorem i_X8_bit_117 : ins MX8_bit 117 = some (.iload_n 2) := by decide +kernel
theorem i_X8_bit_118 : ins MX8_bit 118 = some (.baload) := by decide +kernel
theorem i_X8_bit_119 : ins MX8_bit 119 = some (.ifCond .eq 12) := by decide +kernel
theorem i_X8_bit_122 : ins MX8_bit 122 = some (.iload 5) := by decide +kernel
theorem i_X8_bit_124 : ins MX8_bit 124 = some (.ifCond .eq 7) := by decide +kernel
theorem i_X8_bit_127 : ins MX8_bit 127 = some (.iconst 1) := by decide +kernel
theorem i_X8_bit_128 : ins MX8_bit 128 = some (.goto 4) := by decide +kernel
theorem i_X8_bit_131 : ins MX8_bit 131 = some (.iconst 0) := by decide +kernel
theorem i_X8_bit_132 : ins MX8_bit 132 = some (.ireturn) := by decide +kernel
theorem i_X8_vectorBits_0 : ins MX8_vectorBits 0 = some (.aload_n 0) := by decide +kernel
theorem i_X8_vectorBits_1 : ins MX8_vectorBits 1 = some (.iload_n 1) := by decide +kernel
theorem i_X8_vectorBits_2 : ins MX8_vectorBits 2 = some (.iload_n 2) := by decide +kernel
theorem i_X8_vectorBits_3 : ins MX8_vectorBits 3 = some (.invokevirtual 182) := by decide +kernel
theorem i_X8_vectorBits_6 : ins MX8_vectorBits 6 = some (.lconst 0) := by decide +kernel
theorem i_X8_vectorBits_7 : ins MX8_vectorBits 7 = some (.lstore_n 3) := by decide +kernel
theorem i_X8_vectorBits_8 : ins MX8_vectorBits 8 = some (.iconst 0) := by decide +kernel
theorem i_X8_vectorBits_9 : ins MX8_vectorBits 9 = some (.istore 5) := by decide +kernel
theorem i_X8_vectorBits_11 : ins MX8_vectorBits 11 = some (.iload 5) := by decide +kernel
theorem i_X8_vectorBits_13 : ins MX8_vectorBits 13 = some (.bipush 64) := by decide +kernel
theorem i_X8_vectorBits_15 : ins MX8_vectorBits 15 = some (.if_icmp .ge 30) := by decide +kernel
theorem i_X8_vectorBits_18 : ins MX8_vectorBits 18 = some (.lload_n 3) := by decide +kernel
theorem i_X8_vectorBits_19 : ins MX8_vectorBits 19 = some (.aload_n 0) := by decide +kernel
theorem i_X8_vectorBits_20 : ins MX8_vectorBits 20 = some (.iload_n 1) := by decide +kernel
theorem i_X8_vectorBits_21 : ins MX8_vectorBits 21 = some (.iload 5) := by decide +kernel
theorem i_X8_vectorBits_23 : ins MX8_vectorBits 23 = some (.invokevirtual 186) := by decide +kernel
theorem i_X8_vectorBits_26 : ins MX8_vectorBits 26 = some (.ifCond .eq 10) := by decide +kernel
theorem i_X8_vectorBits_29 : ins MX8_vectorBits 29 = some (.lconst 1) := by decide +kernel
theorem i_X8_vectorBits_30 : ins MX8_vectorBits 30 = some (.iload 5) := by decide +kernel
theorem i_X8_vectorBits_32 : ins MX8_vectorBits 32 = some (.lshl) := by decide +kernel
theorem i_X8_vectorBits_33 : ins MX8_vectorBits 33 = some (.goto 4) := by decide +kernel
theorem i_X8_vectorBits_36 : ins MX8_vectorBits 36 = some (.lconst 0) := by decide +kernel
theorem i_X8_vectorBits_37 : ins MX8_vectorBits 37 = some (.lor) := by decide +kernel
theorem i_X8_vectorBits_38 : ins MX8_vectorBits 38 = some (.lstore_n 3) := by decide +kernel
theorem i_X8_vectorBits_39 : ins MX8_vectorBits 39 = some (.iinc 5 1) := by decide +kernel
theorem i_X8_vectorBits_42 : ins MX8_vectorBits 42 = some (.goto (-31)) := by decide +kernel
theorem i_X8_vectorBits_45 : ins MX8_vectorBits 45 = some (.lload_n 3) := by decide +kernel
theorem i_X8_vectorBits_46 : ins MX8_vectorBits 46 = some (.lreturn) := by decide +kernel
theorem i_X8_isVector_0 : ins MX8_isVector 0 = some (.iload_n 1) := by decide +kernel
theorem i_X8_isVector_1 : ins MX8_isVector 1 = some (.invokestatic 94) := by decide +kernel
theorem i_X8_isVector_4 : ins MX8_isVector 4 = some (.ifCond .eq 24) := by decide +kernel
theorem i_X8_isVector_7 : ins MX8_isVector 7 = some (.iload_n 2) := by decide +kernel
theorem i_X8_isVector_8 : ins MX8_isVector 8 = some (.i2l) := by decide +kernel
theorem i_X8_isVector_9 : ins MX8_isVector 9 = some (.lconst 0) := by decide +kernel
theorem i_X8_isVector_10 : ins MX8_isVector 10 = some (.aload_n 0) := by decide +kernel
theorem i_X8_isVector_11 : ins MX8_isVector 11 = some (.iload_n 1) := by decide +kernel
theorem i_X8_isVector_12 : ins MX8_isVector 12 = some (.invokevirtual 156) := by decide +kernel
theorem i_X8_isVector_15 : ins MX8_isVector 15 = some (.iconst 1) := by decide +kernel
theorem i_X8_isVector_16 : ins MX8_isVector 16 = some (.isub) := by decide +kernel
theorem i_X8_isVector_17 : ins MX8_isVector 17 = some (.i2l) := by decide +kernel
theorem i_X8_isVector_18 : ins MX8_isVector 18 = some (.invokestatic 88) := by decide +kernel
theorem i_X8_isVector_21 : ins MX8_isVector 21 = some (.ifCond .eq 7) := by decide +kernel
theorem i_X8_isVector_24 : ins MX8_isVector 24 = some (.iconst 1) := by decide +kernel
theorem i_X8_isVector_25 : ins MX8_isVector 25 = some (.goto 4) := by decide +kernel
theorem i_X8_isVector_28 : ins MX8_isVector 28 = some (.iconst 0) := by decide +kernel
theorem i_X8_isVector_29 : ins MX8_isVector 29 = some (.ireturn) := by decide +kernel
theorem i_X8_vector_0 : ins MX8_vector 0 = some (.aload_n 0) := by decide +kernel
theorem i_X8_vector_1 : ins MX8_vector 1 = some (.iload_n 1) := by decide +kernel
theorem i_X8_vector_2 : ins MX8_vector 2 = some (.iload_n 2) := by decide +kernel
theorem i_X8_vector_3 : ins MX8_vector 3 = some (.invokevirtual 189) := by decide +kernel
theorem i_X8_vector_6 : ins MX8_vector 6 = some (.ifCond .eq 26) := by decide +kernel
theorem i_X8_vector_9 : ins MX8_vector 9 = some (.aload_n 0) := by decide +kernel
theorem i_X8_vector_10 : ins MX8_vector 10 = some (.getfield 47) := by decide +kernel
theorem i_X8_vector_13 : ins MX8_vector 13 = some (.bipush 64) := by decide +kernel
theorem i_X8_vector_15 : ins MX8_vector 15 = some (.iload_n 1) := by decide +kernel
theorem i_X8_vector_16 : ins MX8_vector 16 = some (.imul) := by decide +kernel
theorem i_X8_vector_17 : ins MX8_vector 17 = some (.iload_n 2) := by decide +kernel
theorem i_X8_vector_18 : ins MX8_vector 18 = some (.iadd) := by decide +kernel
theorem i_X8_vector_19 : ins MX8_vector 19 = some (.baload) := by decide +kernel
theorem i_X8_vector_20 : ins MX8_vector 20 = some (.ifCond .ne 12) := by decide +kernel
theorem i_X8_vector_23 : ins MX8_vector 23 = some (.aload_n 0) := by decide +kernel
theorem i_X8_vector_24 : ins MX8_vector 24 = some (.iload_n 1) := by decide +kernel
theorem i_X8_vector_25 : ins MX8_vector 25 = some (.iload_n 2) := by decide +kernel
theorem i_X8_vector_26 : ins MX8_vector 26 = some (.invokevirtual 192) := by decide +kernel
theorem i_X8_vector_29 : ins MX8_vector 29 = some (.goto 4) := by decide +kernel
theorem i_X8_vector_32 : ins MX8_vector 32 = some (.lconst 0) := by decide +kernel
theorem i_X8_vector_33 : ins MX8_vector 33 = some (.lreturn) := by decide +kernel
theorem i_X8_span_0 : ins MX8_span 0 = some (.lconst 0) := by decide +kernel
theorem i_X8_span_1 : ins MX8_span 1 = some (.lstore_n 2) := by decide +kernel
theorem i_X8_span_2 : ins MX8_span 2 = some (.iload_n 0) := by decide +kernel
theorem i_X8_span_3 : ins MX8_span 3 = some (.istore 4) := by decide +kernel
theorem i_X8_span_5 : ins MX8_span 5 = some (.iload 4) := by decide +kernel
theorem i_X8_span_7 : ins MX8_span 7 = some (.iload_n 1) := by decide +kernel
theorem i_X8_span_8 : ins MX8_span 8 = some (.if_icmp .gt 16) := by decide +kernel
theorem i_X8_span_11 : ins MX8_span 11 = some (.lload_n 2) := by decide +kernel
theorem i_X8_span_12 : ins MX8_span 12 = some (.lconst 1) := by decide +kernel
theorem i_X8_span_13 : ins MX8_span 13 = some (.iload 4) := by decide +kernel
theorem i_X8_span_15 : ins MX8_span 15 = some (.lshl) := by decide +kernel
theorem i_X8_span_16 : ins MX8_span 16 = some (.lor) := by decide +kernel
theorem i_X8_span_17 : ins MX8_span 17 = some (.lstore_n 2) := by decide +kernel
theorem i_X8_span_18 : ins MX8_span 18 = some (.iinc 4 1) := by decide +kernel
theorem i_X8_span_21 : ins MX8_span 21 = some (.goto (-16)) := by decide +kernel
theorem i_X8_span_24 : ins MX8_span 24 = some (.lload_n 2) := by decide +kernel
theorem i_X8_span_25 : ins MX8_span 25 = some (.lreturn) := by decide +kernel
theorem i_X8_equalReads_0 : ins MX8_equalReads 0 = some (.iload_n 0) := by decide +kernel
theorem i_X8_equalReads_1 : ins MX8_equalReads 1 = some (.ifCond .ne 16) := by decide +kernel
theorem i_X8_equalReads_4 : ins MX8_equalReads 4 = some (.iload_n 1) := by decide +kernel
theorem i_X8_equalReads_5 : ins MX8_equalReads 5 = some (.iconst 2) := by decide +kernel
theorem i_X8_equalReads_6 : ins MX8_equalReads 6 = some (.if_icmp .ne 7) := by decide +kernel
theorem i_X8_equalReads_9 : ins MX8_equalReads 9 = some (.lconst 1) := by decide +kernel
theorem i_X8_equalReads_10 : ins MX8_equalReads 10 = some (.goto 6) := by decide +kernel
theorem i_X8_equalReads_13 : ins MX8_equalReads 13 = some (.lconst 1) := by decide +kernel
theorem i_X8_equalReads_14 : ins MX8_equalReads 14 = some (.iload_n 2) := by decide +kernel
theorem i_X8_equalReads_15 : ins MX8_equalReads 15 = some (.lshl) := by decide +kernel
theorem i_X8_equalReads_16 : ins MX8_equalReads 16 = some (.lreturn) := by decide +kernel
theorem i_X8_equalReads_17 : ins MX8_equalReads 17 = some (.iload_n 2) := by decide +kernel
theorem i_X8_equalReads_18 : ins MX8_equalReads 18 = some (.ifCond .ne 7) := by decide +kernel
theorem i_X8_equalReads_21 : ins MX8_equalReads 21 = some (.lconst 1) := by decide +kernel
theorem i_X8_equalReads_22 : ins MX8_equalReads 22 = some (.goto 25) := by decide +kernel
theorem i_X8_equalReads_25 : ins MX8_equalReads 25 = some (.iload_n 2) := by decide +kernel
theorem i_X8_equalReads_26 : ins MX8_equalReads 26 = some (.iload_n 1) := by decide +kernel
theorem i_X8_equalReads_27 : ins MX8_equalReads 27 = some (.iconst 1) := by decide +kernel
theorem i_X8_equalReads_28 : ins MX8_equalReads 28 = some (.isub) := by decide +kernel
theorem i_X8_equalReads_29 : ins MX8_equalReads 29 = some (.if_icmp .ne 11) := by decide +kernel
theorem i_X8_equalReads_32 : ins MX8_equalReads 32 = some (.lconst 1) := by decide +kernel
theorem i_X8_equalReads_33 : ins MX8_equalReads 33 = some (.iload_n 2) := by decide +kernel
theorem i_X8_equalReads_34 : ins MX8_equalReads 34 = some (.iconst 1) := by decide +kernel
theorem i_X8_equalReads_35 : ins MX8_equalReads 35 = some (.isub) := by decide +kernel
theorem i_X8_equalReads_36 : ins MX8_equalReads 36 = some (.lshl) := by decide +kernel
theorem i_X8_equalReads_37 : ins MX8_equalReads 37 = some (.goto 10) := by decide +kernel
theorem i_X8_equalReads_40 : ins MX8_equalReads 40 = some (.iload_n 2) := by decide +kernel
theorem i_X8_equalReads_41 : ins MX8_equalReads 41 = some (.iconst 1) := by decide +kernel
theorem i_X8_equalReads_42 : ins MX8_equalReads 42 = some (.isub) := by decide +kernel
theorem i_X8_equalReads_43 : ins MX8_equalReads 43 = some (.iload_n 2) := by decide +kernel
theorem i_X8_equalReads_44 : ins MX8_equalReads 44 = some (.invokestatic 196) := by decide +kernel
theorem i_X8_equalReads_47 : ins MX8_equalReads 47 = some (.lreturn) := by decide +kernel
theorem i_X8_lessReads_0 : ins MX8_lessReads 0 = some (.iload_n 0) := by decide +kernel
theorem i_X8_lessReads_1 : ins MX8_lessReads 1 = some (.iconst 1) := by decide +kernel
theorem i_X8_lessReads_2 : ins MX8_lessReads 2 = some (.if_icmp .ne 9) := by decide +kernel
theorem i_X8_lessReads_5 : ins MX8_lessReads 5 = some (.lconst 1) := by decide +kernel
theorem i_X8_lessReads_6 : ins MX8_lessReads 6 = some (.iload_n 2) := by decide +kernel
theorem i_X8_lessReads_7 : ins MX8_lessReads 7 = some (.iconst 1) := by decide +kernel
theorem i_X8_lessReads_8 : ins MX8_lessReads 8 = some (.isub) := by decide +kernel
theorem i_X8_lessReads_9 : ins MX8_lessReads 9 = some (.lshl) := by decide +kernel
theorem i_X8_lessReads_10 : ins MX8_lessReads 10 = some (.lreturn) := by decide +kernel
theorem i_X8_lessReads_11 : ins MX8_lessReads 11 = some (.iload_n 1) := by decide +kernel
theorem i_X8_lessReads_12 : ins MX8_lessReads 12 = some (.iconst 2) := by decide +kernel
theorem i_X8_lessReads_13 : ins MX8_lessReads 13 = some (.if_icmp .ne 7) := by decide +kernel
theorem i_X8_lessReads_16 : ins MX8_lessReads 16 = some (.lconst 1) := by decide +kernel
theorem i_X8_lessReads_17 : ins MX8_lessReads 17 = some (.goto 27) := by decide +kernel
theorem i_X8_lessReads_20 : ins MX8_lessReads 20 = some (.iconst 2) := by decide +kernel
theorem i_X8_lessReads_21 : ins MX8_lessReads 21 = some (.iload_n 2) := by decide +kernel
theorem i_X8_lessReads_22 : ins MX8_lessReads 22 = some (.imul) := by decide +kernel
theorem i_X8_lessReads_23 : ins MX8_lessReads 23 = some (.iload_n 1) := by decide +kernel
theorem i_X8_lessReads_24 : ins MX8_lessReads 24 = some (.if_icmp .le 13) := by decide +kernel
theorem i_X8_lessReads_27 : ins MX8_lessReads 27 = some (.iload_n 2) := by decide +kernel
theorem i_X8_lessReads_28 : ins MX8_lessReads 28 = some (.iload_n 1) := by decide +kernel
theorem i_X8_lessReads_29 : ins MX8_lessReads 29 = some (.iconst 1) := by decide +kernel
theorem i_X8_lessReads_30 : ins MX8_lessReads 30 = some (.isub) := by decide +kernel
theorem i_X8_lessReads_31 : ins MX8_lessReads 31 = some (.invokestatic 196) := by decide +kernel
theorem i_X8_lessReads_34 : ins MX8_lessReads 34 = some (.goto 10) := by decide +kernel
theorem i_X8_lessReads_37 : ins MX8_lessReads 37 = some (.iconst 0) := by decide +kernel
theorem i_X8_lessReads_38 : ins MX8_lessReads 38 = some (.iload_n 2) := by decide +kernel
theorem i_X8_lessReads_39 : ins MX8_lessReads 39 = some (.iconst 1) := by decide +kernel
theorem i_X8_lessReads_40 : ins MX8_lessReads 40 = some (.isub) := by decide +kernel
theorem i_X8_lessReads_41 : ins MX8_lessReads 41 = some (.invokestatic 196) := by decide +kernel
theorem i_X8_lessReads_44 : ins MX8_lessReads 44 = some (.lreturn) := by decide +kernel
theorem i_X8_readBy_0 : ins MX8_readBy 0 = some (.iload_n 3) := by decide +kernel
theorem i_X8_readBy_1 : ins MX8_readBy 1 = some (.ifCond .eq 17) := by decide +kernel
theorem i_X8_readBy_4 : ins MX8_readBy 4 = some (.iload 4) := by decide +kernel
theorem i_X8_readBy_6 : ins MX8_readBy 6 = some (.ifCond .eq 18) := by decide +kernel
theorem i_X8_readBy_9 : ins MX8_readBy 9 = some (.iload 4) := by decide +kernel
theorem i_X8_readBy_11 : ins MX8_readBy 11 = some (.iload_n 2) := by decide +kernel
theorem i_X8_readBy_12 : ins MX8_readBy 12 = some (.if_icmp .lt 14) := by decide +kernel
theorem i_X8_readBy_15 : ins MX8_readBy 15 = some (.goto 9) := by decide +kernel
theorem i_X8_readBy_18 : ins MX8_readBy 18 = some (.iload 4) := by decide +kernel
theorem i_X8_readBy_20 : ins MX8_readBy 20 = some (.iload_n 2) := by decide +kernel
theorem i_X8_readBy_21 : ins MX8_readBy 21 = some (.if_icmp .lt 5) := by decide +kernel
theorem i_X8_readBy_24 : ins MX8_readBy 24 = some (.lconst 0) := by decide +kernel
theorem i_X8_readBy_25 : ins MX8_readBy 25 = some (.lreturn) := by decide +kernel
theorem i_X8_readBy_26 : ins MX8_readBy 26 = some (.lconst 0) := by decide +kernel
theorem i_X8_readBy_27 : ins MX8_readBy 27 = some (.lstore 5) := by decide +kernel
theorem i_X8_readBy_29 : ins MX8_readBy 29 = some (.iload 4) := by decide +kernel
theorem i_X8_readBy_31 : ins MX8_readBy 31 = some (.istore 7) := by decide +kernel
theorem i_X8_readBy_33 : ins MX8_readBy 33 = some (.iconst 0) := by decide +kernel
theorem i_X8_readBy_34 : ins MX8_readBy 34 = some (.istore 8) := by decide +kernel
theorem i_X8_readBy_36 : ins MX8_readBy 36 = some (.iconst 0) := by decide +kernel
theorem i_X8_readBy_37 : ins MX8_readBy 37 = some (.istore 9) := by decide +kernel
theorem i_X8_readBy_39 : ins MX8_readBy 39 = some (.iload 9) := by decide +kernel
theorem i_X8_readBy_41 : ins MX8_readBy 41 = some (.aload_n 0) := by decide +kernel
theorem i_X8_readBy_42 : ins MX8_readBy 42 = some (.getfield 147) := by decide +kernel
theorem i_X8_readBy_45 : ins MX8_readBy 45 = some (.if_icmp .ge 132) := by decide +kernel
theorem i_X8_readBy_48 : ins MX8_readBy 48 = some (.iload 7) := by decide +kernel
theorem i_X8_readBy_50 : ins MX8_readBy 50 = some (.aload_n 0) := by decide +kernel
theorem i_X8_readBy_51 : ins MX8_readBy 51 = some (.getfield 50) := by decide +kernel
theorem i_X8_readBy_54 : ins MX8_readBy 54 = some (.iload 9) := by decide +kernel
theorem i_X8_readBy_56 : ins MX8_readBy 56 = some (.iaload) := by decide +kernel
theorem i_X8_readBy_57 : ins MX8_readBy 57 = some (.irem) := by decide +kernel
theorem i_X8_readBy_58 : ins MX8_readBy 58 = some (.istore 10) := by decide +kernel
theorem i_X8_readBy_60 : ins MX8_readBy 60 = some (.iload 7) := by decide +kernel
theorem i_X8_readBy_62 : ins MX8_readBy 62 = some (.aload_n 0) := by decide +kernel
theorem i_X8_readBy_63 : ins MX8_readBy 63 = some (.getfield 50) := by decide +kernel
theorem i_X8_readBy_66 : ins MX8_readBy 66 = some (.iload 9) := by decide +kernel
theorem i_X8_readBy_68 : ins MX8_readBy 68 = some (.iaload) := by decide +kernel
theorem i_X8_readBy_69 : ins MX8_readBy 69 = some (.idiv) := by decide +kernel
theorem i_X8_readBy_70 : ins MX8_readBy 70 = some (.istore 7) := by decide +kernel
theorem i_X8_readBy_72 : ins MX8_readBy 72 = some (.iload_n 3) := by decide +kernel
theorem i_X8_readBy_73 : ins MX8_readBy 73 = some (.ifCond .eq 28) := by decide +kernel
theorem i_X8_readBy_76 : ins MX8_readBy 76 = some (.iload 10) := by decide +kernel
theorem i_X8_readBy_78 : ins MX8_readBy 78 = some (.ifCond .le 19) := by decide +kernel
theorem i_X8_readBy_81 : ins MX8_readBy 81 = some (.iload_n 1) := by decide +kernel
theorem i_X8_readBy_82 : ins MX8_readBy 82 = some (.aload_n 0) := by decide +kernel
theorem i_X8_readBy_83 : ins MX8_readBy 83 = some (.getfield 50) := by decide +kernel
theorem i_X8_readBy_86 : ins MX8_readBy 86 = some (.iload 9) := by decide +kernel
theorem i_X8_readBy_88 : ins MX8_readBy 88 = some (.iaload) := by decide +kernel
theorem i_X8_readBy_89 : ins MX8_readBy 89 = some (.iload 10) := by decide +kernel
theorem i_X8_readBy_91 : ins MX8_readBy 91 = some (.invokestatic 199) := by decide +kernel
theorem i_X8_readBy_94 : ins MX8_readBy 94 = some (.goto 20) := by decide +kernel
theorem i_X8_readBy_97 : ins MX8_readBy 97 = some (.lconst 0) := by decide +kernel
theorem i_X8_readBy_98 : ins MX8_readBy 98 = some (.goto 16) := by decide +kernel
theorem i_X8_readBy_101 : ins MX8_readBy 101 = some (.iload_n 1) := by decide +kernel
theorem i_X8_readBy_102 : ins MX8_readBy 102 = some (.aload_n 0) := by decide +kernel
theorem i_X8_readBy_103 : ins MX8_readBy 103 = some (.getfield 50) := by decide +kernel
theorem i_X8_readBy_106 : ins MX8_readBy 106 = some (.iload 9) := by decide +kernel
theorem i_X8_readBy_108 : ins MX8_readBy 108 = some (.iaload) := by decide +kernel
theorem i_X8_readBy_109 : ins MX8_readBy 109 = some (.iload 10) := by decide +kernel
theorem i_X8_readBy_111 : ins MX8_readBy 111 = some (.invokestatic 203) := by decide +kernel
theorem i_X8_readBy_114 : ins MX8_readBy 114 = some (.lstore 11) := by decide +kernel
theorem i_X8_readBy_116 : ins MX8_readBy 116 = some (.iload_n 3) := by decide +kernel
theorem i_X8_readBy_117 : ins MX8_readBy 117 = some (.ifCond .eq 28) := by decide +kernel
theorem i_X8_readBy_120 : ins MX8_readBy 120 = some (.lload 5) := by decide +kernel
theorem i_X8_readBy_122 : ins MX8_readBy 122 = some (.lconst 0) := by decide +kernel
theorem i_X8_readBy_123 : ins MX8_readBy 123 = some (.lcmp) := by decide +kernel
theorem i_X8_readBy_124 : ins MX8_readBy 124 = some (.ifCond .eq 21) := by decide +kernel
theorem i_X8_readBy_127 : ins MX8_readBy 127 = some (.lload 11) := by decide +kernel
theorem i_X8_readBy_129 : ins MX8_readBy 129 = some (.iload_n 1) := by decide +kernel
theorem i_X8_readBy_130 : ins MX8_readBy 130 = some (.aload_n 0) := by decide +kernel
theorem i_X8_readBy_131 : ins MX8_readBy 131 = some (.getfield 50) := by decide +kernel
theorem i_X8_readBy_134 : ins MX8_readBy 134 = some (.iload 9) := by decide +kernel
theorem i_X8_readBy_136 : ins MX8_readBy 136 = some (.iaload) := by decide +kernel
theorem i_X8_readBy_137 : ins MX8_readBy 137 = some (.iload 10) := by decide +kernel
theorem i_X8_readBy_139 : ins MX8_readBy 139 = some (.invokestatic 203) := by decide +kernel
theorem i_X8_readBy_142 : ins MX8_readBy 142 = some (.lor) := by decide +kernel
theorem i_X8_readBy_143 : ins MX8_readBy 143 = some (.lstore 11) := by decide +kernel
theorem i_X8_readBy_145 : ins MX8_readBy 145 = some (.lload 5) := by decide +kernel
theorem i_X8_readBy_147 : ins MX8_readBy 147 = some (.lload 11) := by decide +kernel
theorem i_X8_readBy_149 : ins MX8_readBy 149 = some (.iload 8) := by decide +kernel
theorem i_X8_readBy_151 : ins MX8_readBy 151 = some (.lshl) := by decide +kernel
theorem i_X8_readBy_152 : ins MX8_readBy 152 = some (.lor) := by decide +kernel
theorem i_X8_readBy_153 : ins MX8_readBy 153 = some (.lstore 5) := by decide +kernel
theorem i_X8_readBy_155 : ins MX8_readBy 155 = some (.iload 8) := by decide +kernel
theorem i_X8_readBy_157 : ins MX8_readBy 157 = some (.iload_n 1) := by decide +kernel
theorem i_X8_readBy_158 : ins MX8_readBy 158 = some (.aload_n 0) := by decide +kernel
theorem i_X8_readBy_159 : ins MX8_readBy 159 = some (.getfield 50) := by decide +kernel
theorem i_X8_readBy_162 : ins MX8_readBy 162 = some (.iload 9) := by decide +kernel
theorem i_X8_readBy_164 : ins MX8_readBy 164 = some (.iaload) := by decide +kernel
theorem i_X8_readBy_165 : ins MX8_readBy 165 = some (.invokestatic 144) := by decide +kernel
theorem i_X8_readBy_168 : ins MX8_readBy 168 = some (.iadd) := by decide +kernel
theorem i_X8_readBy_169 : ins MX8_readBy 169 = some (.istore 8) := by decide +kernel
theorem i_X8_readBy_171 : ins MX8_readBy 171 = some (.iinc 9 1) := by decide +kernel
theorem i_X8_readBy_174 : ins MX8_readBy 174 = some (.goto (-135)) := by decide +kernel
theorem i_X8_readBy_177 : ins MX8_readBy 177 = some (.lload 5) := by decide +kernel
theorem i_X8_readBy_179 : ins MX8_readBy 179 = some (.lreturn) := by decide +kernel
theorem i_X8_takeBases_0 : ins MX8_takeBases 0 = some (.aload_n 0) := by decide +kernel
theorem i_X8_takeBases_1 : ins MX8_takeBases 1 = some (.aload_n 0) := by decide +kernel
theorem i_X8_takeBases_2 : ins MX8_takeBases 2 = some (.getfield 44) := by decide +kernel
theorem i_X8_takeBases_5 : ins MX8_takeBases 5 = some (.iload_n 1) := by decide +kernel
theorem i_X8_takeBases_6 : ins MX8_takeBases 6 = some (.iaload) := by decide +kernel
theorem i_X8_takeBases_7 : ins MX8_takeBases 7 = some (.putfield 147) := by decide +kernel
theorem i_X8_takeBases_10 : ins MX8_takeBases 10 = some (.iconst 0) := by decide +kernel
theorem i_X8_takeBases_11 : ins MX8_takeBases 11 = some (.istore_n 2) := by decide +kernel
theorem i_X8_takeBases_12 : ins MX8_takeBases 12 = some (.iload_n 2) := by decide +kernel
theorem i_X8_takeBases_13 : ins MX8_takeBases 13 = some (.aload_n 0) := by decide +kernel
theorem i_X8_takeBases_14 : ins MX8_takeBases 14 = some (.getfield 147) := by decide +kernel
theorem i_X8_takeBases_17 : ins MX8_takeBases 17 = some (.if_icmp .ge 26) := by decide +kernel
theorem i_X8_takeBases_20 : ins MX8_takeBases 20 = some (.aload_n 0) := by decide +kernel
theorem i_X8_takeBases_21 : ins MX8_takeBases 21 = some (.getfield 50) := by decide +kernel
theorem i_X8_takeBases_24 : ins MX8_takeBases 24 = some (.iload_n 2) := by decide +kernel
theorem i_X8_takeBases_25 : ins MX8_takeBases 25 = some (.aload_n 0) := by decide +kernel
theorem i_X8_takeBases_26 : ins MX8_takeBases 26 = some (.getfield 41) := by decide +kernel
theorem i_X8_takeBases_29 : ins MX8_takeBases 29 = some (.bipush 6) := by decide +kernel
theorem i_X8_takeBases_31 : ins MX8_takeBases 31 = some (.iload_n 1) := by decide +kernel
theorem i_X8_takeBases_32 : ins MX8_takeBases 32 = some (.imul) := by decide +kernel
theorem i_X8_takeBases_33 : ins MX8_takeBases 33 = some (.iload_n 2) := by decide +kernel
theorem i_X8_takeBases_34 : ins MX8_takeBases 34 = some (.iadd) := by decide +kernel
theorem i_X8_takeBases_35 : ins MX8_takeBases 35 = some (.iaload) := by decide +kernel
theorem i_X8_takeBases_36 : ins MX8_takeBases 36 = some (.iastore) := by decide +kernel
theorem i_X8_takeBases_37 : ins MX8_takeBases 37 = some (.iinc 2 1) := by decide +kernel
theorem i_X8_takeBases_40 : ins MX8_takeBases 40 = some (.goto (-28)) := by decide +kernel
theorem i_X8_takeBases_43 : ins MX8_takeBases 43 = some (.return_) := by decide +kernel
theorem i_X8_readsOf_0 : ins MX8_readsOf 0 = some (.aload_n 0) := by decide +kernel
theorem i_X8_readsOf_1 : ins MX8_readsOf 1 = some (.iload_n 1) := by decide +kernel
theorem i_X8_readsOf_2 : ins MX8_readsOf 2 = some (.invokevirtual 206) := by decide +kernel
theorem i_X8_readsOf_5 : ins MX8_readsOf 5 = some (.aload_n 0) := by decide +kernel
theorem i_X8_readsOf_6 : ins MX8_readsOf 6 = some (.aload_n 0) := by decide +kernel
theorem i_X8_readsOf_7 : ins MX8_readsOf 7 = some (.getfield 38) := by decide +kernel
theorem i_X8_readsOf_10 : ins MX8_readsOf 10 = some (.iload_n 1) := by decide +kernel
theorem i_X8_readsOf_11 : ins MX8_readsOf 11 = some (.iaload) := by decide +kernel
theorem i_X8_readsOf_12 : ins MX8_readsOf 12 = some (.aload_n 0) := by decide +kernel
theorem i_X8_readsOf_13 : ins MX8_readsOf 13 = some (.getfield 7) := by decide +kernel
theorem i_X8_readsOf_16 : ins MX8_readsOf 16 = some (.iload_n 1) := by decide +kernel
theorem i_X8_readsOf_17 : ins MX8_readsOf 17 = some (.iaload) := by decide +kernel
theorem i_X8_readsOf_18 : ins MX8_readsOf 18 = some (.iload_n 2) := by decide +kernel
theorem i_X8_readsOf_19 : ins MX8_readsOf 19 = some (.iload_n 3) := by decide +kernel
theorem i_X8_readsOf_20 : ins MX8_readsOf 20 = some (.invokevirtual 209) := by decide +kernel
theorem i_X8_readsOf_23 : ins MX8_readsOf 23 = some (.lreturn) := by decide +kernel
theorem i_X8_reads_0 : ins MX8_reads 0 = some (.iload_n 1) := by decide +kernel
theorem i_X8_reads_1 : ins MX8_reads 1 = some (.invokestatic 94) := by decide +kernel
theorem i_X8_reads_4 : ins MX8_reads 4 = some (.ifCond .eq 44) := by decide +kernel
theorem i_X8_reads_7 : ins MX8_reads 7 = some (.iload_n 2) := by decide +kernel
theorem i_X8_reads_8 : ins MX8_reads 8 = some (.i2l) := by decide +kernel
theorem i_X8_reads_9 : ins MX8_reads 9 = some (.lconst 0) := by decide +kernel
theorem i_X8_reads_10 : ins MX8_reads 10 = some (.lconst 1) := by decide +kernel
theorem i_X8_reads_11 : ins MX8_reads 11 = some (.invokestatic 88) := by decide +kernel
theorem i_X8_reads_14 : ins MX8_reads 14 = some (.ifCond .eq 34) := by decide +kernel
theorem i_X8_reads_17 : ins MX8_reads 17 = some (.iload_n 3) := by decide +kernel
theorem i_X8_reads_18 : ins MX8_reads 18 = some (.i2l) := by decide +kernel
theorem i_X8_reads_19 : ins MX8_reads 19 = some (.lconst 0) := by decide +kernel
theorem i_X8_reads_20 : ins MX8_reads 20 = some (.ldc2_w 213) := by decide +kernel
theorem i_X8_reads_23 : ins MX8_reads 23 = some (.invokestatic 88) := by decide +kernel
theorem i_X8_reads_26 : ins MX8_reads 26 = some (.ifCond .eq 22) := by decide +kernel
theorem i_X8_reads_29 : ins MX8_reads 29 = some (.aload_n 0) := by decide +kernel
theorem i_X8_reads_30 : ins MX8_reads 30 = some (.iload_n 1) := by decide +kernel
theorem i_X8_reads_31 : ins MX8_reads 31 = some (.iload_n 2) := by decide +kernel
theorem i_X8_reads_32 : ins MX8_reads 32 = some (.iconst 1) := by decide +kernel
theorem i_X8_reads_33 : ins MX8_reads 33 = some (.if_icmp .ne 7) := by decide +kernel
theorem i_X8_reads_36 : ins MX8_reads 36 = some (.iconst 1) := by decide +kernel
theorem i_X8_reads_37 : ins MX8_reads 37 = some (.goto 4) := by decide +kernel
theorem i_X8_reads_40 : ins MX8_reads 40 = some (.iconst 0) := by decide +kernel
theorem i_X8_reads_41 : ins MX8_reads 41 = some (.iload_n 3) := by decide +kernel
theorem i_X8_reads_42 : ins MX8_reads 42 = some (.invokevirtual 215) := by decide +kernel
theorem i_X8_reads_45 : ins MX8_reads 45 = some (.goto 4) := by decide +kernel
theorem i_X8_reads_48 : ins MX8_reads 48 = some (.lconst 0) := by decide +kernel
theorem i_X8_reads_49 : ins MX8_reads 49 = some (.lreturn) := by decide +kernel
theorem i_X8_bitsOf_0 : ins MX8_bitsOf 0 = some (.iconst 0) := by decide +kernel
theorem i_X8_bitsOf_1 : ins MX8_bitsOf 1 = some (.istore_n 2) := by decide +kernel
theorem i_X8_bitsOf_2 : ins MX8_bitsOf 2 = some (.lload_n 0) := by decide +kernel
theorem i_X8_bitsOf_3 : ins MX8_bitsOf 3 = some (.lstore_n 3) := by decide +kernel
theorem i_X8_bitsOf_4 : ins MX8_bitsOf 4 = some (.lload_n 3) := by decide +kernel
theorem i_X8_bitsOf_5 : ins MX8_bitsOf 5 = some (.lconst 0) := by decide +kernel
theorem i_X8_bitsOf_6 : ins MX8_bitsOf 6 = some (.lcmp) := by decide +kernel
theorem i_X8_bitsOf_7 : ins MX8_bitsOf 7 = some (.ifCond .eq 15) := by decide +kernel
theorem i_X8_bitsOf_10 : ins MX8_bitsOf 10 = some (.lload_n 3) := by decide +kernel
theorem i_X8_bitsOf_11 : ins MX8_bitsOf 11 = some (.lload_n 3) := by decide +kernel
theorem i_X8_bitsOf_12 : ins MX8_bitsOf 12 = some (.lconst 1) := by decide +kernel
theorem i_X8_bitsOf_13 : ins MX8_bitsOf 13 = some (.lsub) := by decide +kernel
theorem i_X8_bitsOf_14 : ins MX8_bitsOf 14 = some (.land) := by decide +kernel
theorem i_X8_bitsOf_15 : ins MX8_bitsOf 15 = some (.lstore_n 3) := by decide +kernel
theorem i_X8_bitsOf_16 : ins MX8_bitsOf 16 = some (.iinc 2 1) := by decide +kernel
theorem i_X8_bitsOf_19 : ins MX8_bitsOf 19 = some (.goto (-15)) := by decide +kernel
theorem i_X8_bitsOf_22 : ins MX8_bitsOf 22 = some (.iload_n 2) := by decide +kernel
theorem i_X8_bitsOf_23 : ins MX8_bitsOf 23 = some (.ireturn) := by decide +kernel
theorem i_X8_costBy_0 : ins MX8_costBy 0 = some (.iconst 0) := by decide +kernel
theorem i_X8_costBy_1 : ins MX8_costBy 1 = some (.istore 5) := by decide +kernel
theorem i_X8_costBy_3 : ins MX8_costBy 3 = some (.iconst 0) := by decide +kernel
theorem i_X8_costBy_4 : ins MX8_costBy 4 = some (.istore 6) := by decide +kernel
theorem i_X8_costBy_6 : ins MX8_costBy 6 = some (.iload 6) := by decide +kernel
theorem i_X8_costBy_8 : ins MX8_costBy 8 = some (.iload_n 2) := by decide +kernel
theorem i_X8_costBy_9 : ins MX8_costBy 9 = some (.if_icmp .ge 70) := by decide +kernel
theorem i_X8_costBy_12 : ins MX8_costBy 12 = some (.iload 5) := by decide +kernel
theorem i_X8_costBy_14 : ins MX8_costBy 14 = some (.iload_n 3) := by decide +kernel
theorem i_X8_costBy_15 : ins MX8_costBy 15 = some (.ifCond .ne 7) := by decide +kernel
theorem i_X8_costBy_18 : ins MX8_costBy 18 = some (.iconst 0) := by decide +kernel
theorem i_X8_costBy_19 : ins MX8_costBy 19 = some (.goto 17) := by decide +kernel
theorem i_X8_costBy_22 : ins MX8_costBy 22 = some (.iload_n 3) := by decide +kernel
theorem i_X8_costBy_23 : ins MX8_costBy 23 = some (.aload_n 0) := by decide +kernel
theorem i_X8_costBy_24 : ins MX8_costBy 24 = some (.iload_n 1) := by decide +kernel
theorem i_X8_costBy_25 : ins MX8_costBy 25 = some (.iload_n 2) := by decide +kernel
theorem i_X8_costBy_26 : ins MX8_costBy 26 = some (.iconst 0) := by decide +kernel
theorem i_X8_costBy_27 : ins MX8_costBy 27 = some (.iload 6) := by decide +kernel
theorem i_X8_costBy_29 : ins MX8_costBy 29 = some (.invokevirtual 209) := by decide +kernel
theorem i_X8_costBy_32 : ins MX8_costBy 32 = some (.invokestatic 219) := by decide +kernel
theorem i_X8_costBy_35 : ins MX8_costBy 35 = some (.imul) := by decide +kernel
theorem i_X8_costBy_36 : ins MX8_costBy 36 = some (.iadd) := by decide +kernel
theorem i_X8_costBy_37 : ins MX8_costBy 37 = some (.istore 5) := by decide +kernel
theorem i_X8_costBy_39 : ins MX8_costBy 39 = some (.iload 5) := by decide +kernel
theorem i_X8_costBy_41 : ins MX8_costBy 41 = some (.iload 4) := by decide +kernel
theorem i_X8_costBy_43 : ins MX8_costBy 43 = some (.ifCond .eq 8) := by decide +kernel
theorem i_X8_costBy_46 : ins MX8_costBy 46 = some (.iload 6) := by decide +kernel
theorem i_X8_costBy_48 : ins MX8_costBy 48 = some (.ifCond .ne 7) := by decide +kernel
theorem i_X8_costBy_51 : ins MX8_costBy 51 = some (.iconst 0) := by decide +kernel
theorem i_X8_costBy_52 : ins MX8_costBy 52 = some (.goto 18) := by decide +kernel
theorem i_X8_costBy_55 : ins MX8_costBy 55 = some (.iload 4) := by decide +kernel
theorem i_X8_costBy_57 : ins MX8_costBy 57 = some (.aload_n 0) := by decide +kernel
theorem i_X8_costBy_58 : ins MX8_costBy 58 = some (.iload_n 1) := by decide +kernel
theorem i_X8_costBy_59 : ins MX8_costBy 59 = some (.iload_n 2) := by decide +kernel
theorem i_X8_costBy_60 : ins MX8_costBy 60 = some (.iconst 1) := by decide +kernel
theorem i_X8_costBy_61 : ins MX8_costBy 61 = some (.iload 6) := by decide +kernel
theorem i_X8_costBy_63 : ins MX8_costBy 63 = some (.invokevirtual 209) := by decide +kernel
theorem i_X8_costBy_66 : ins MX8_costBy 66 = some (.invokestatic 219) := by decide +kernel
theorem i_X8_costBy_69 : ins MX8_costBy 69 = some (.imul) := by decide +kernel
theorem i_X8_costBy_70 : ins MX8_costBy 70 = some (.iadd) := by decide +kernel
theorem i_X8_costBy_71 : ins MX8_costBy 71 = some (.istore 5) := by decide +kernel
theorem i_X8_costBy_73 : ins MX8_costBy 73 = some (.iinc 6 1) := by decide +kernel
theorem i_X8_costBy_76 : ins MX8_costBy 76 = some (.goto (-70)) := by decide +kernel
theorem i_X8_costBy_79 : ins MX8_costBy 79 = some (.iload 5) := by decide +kernel
theorem i_X8_costBy_81 : ins MX8_costBy 81 = some (.ireturn) := by decide +kernel
theorem i_X8_isWeight_0 : ins MX8_isWeight 0 = some (.iload_n 0) := by decide +kernel
theorem i_X8_isWeight_1 : ins MX8_isWeight 1 = some (.i2l) := by decide +kernel
theorem i_X8_isWeight_2 : ins MX8_isWeight 2 = some (.lconst 0) := by decide +kernel
theorem i_X8_isWeight_3 : ins MX8_isWeight 3 = some (.ldc2_w 223) := by decide +kernel
theorem i_X8_isWeight_6 : ins MX8_isWeight 6 = some (.invokestatic 88) := by decide +kernel
theorem i_X8_isWeight_9 : ins MX8_isWeight 9 = some (.ireturn) := by decide +kernel
theorem i_X8_cost_0 : ins MX8_cost 0 = some (.iload_n 1) := by decide +kernel
theorem i_X8_cost_1 : ins MX8_cost 1 = some (.invokestatic 94) := by decide +kernel
theorem i_X8_cost_4 : ins MX8_cost 4 = some (.ifCond .ne 6) := by decide +kernel
theorem i_X8_cost_7 : ins MX8_cost 7 = some (.bipush (-101)) := by decide +kernel
theorem i_X8_cost_9 : ins MX8_cost 9 = some (.ireturn) := by decide +kernel
theorem i_X8_cost_10 : ins MX8_cost 10 = some (.iload_n 2) := by decide +kernel
theorem i_X8_cost_11 : ins MX8_cost 11 = some (.invokestatic 225) := by decide +kernel
theorem i_X8_cost_14 : ins MX8_cost 14 = some (.ifCond .eq 10) := by decide +kernel
theorem i_X8_cost_17 : ins MX8_cost 17 = some (.iload_n 3) := by decide +kernel
theorem i_X8_cost_18 : ins MX8_cost 18 = some (.invokestatic 225) := by decide +kernel
theorem i_X8_cost_21 : ins MX8_cost 21 = some (.ifCond .ne 6) := by decide +kernel
theorem i_X8_cost_24 : ins MX8_cost 24 = some (.bipush (-102)) := by decide +kernel
theorem i_X8_cost_26 : ins MX8_cost 26 = some (.ireturn) := by decide +kernel
theorem i_X8_cost_27 : ins MX8_cost 27 = some (.aload_n 0) := by decide +kernel
theorem i_X8_cost_28 : ins MX8_cost 28 = some (.iload_n 1) := by decide +kernel
theorem i_X8_cost_29 : ins MX8_cost 29 = some (.invokevirtual 206) := by decide +kernel
theorem i_X8_cost_32 : ins MX8_cost 32 = some (.aload_n 0) := by decide +kernel
theorem i_X8_cost_33 : ins MX8_cost 33 = some (.aload_n 0) := by decide +kernel
theorem i_X8_cost_34 : ins MX8_cost 34 = some (.getfield 38) := by decide +kernel
theorem i_X8_cost_37 : ins MX8_cost 37 = some (.iload_n 1) := by decide +kernel
theorem i_X8_cost_38 : ins MX8_cost 38 = some (.iaload) := by decide +kernel
theorem i_X8_cost_39 : ins MX8_cost 39 = some (.aload_n 0) := by decide +kernel
theorem i_X8_cost_40 : ins MX8_cost 40 = some (.getfield 7) := by decide +kernel
theorem i_X8_cost_43 : ins MX8_cost 43 = some (.iload_n 1) := by decide +kernel
theorem i_X8_cost_44 : ins MX8_cost 44 = some (.iaload) := by decide +kernel
theorem i_X8_cost_45 : ins MX8_cost 45 = some (.iload_n 2) := by decide +kernel
theorem i_X8_cost_46 : ins MX8_cost 46 = some (.iload_n 3) := by decide +kernel
theorem i_X8_cost_47 : ins MX8_cost 47 = some (.invokevirtual 228) := by decide +kernel
theorem i_X8_cost_50 : ins MX8_cost 50 = some (.ireturn) := by decide +kernel
theorem i_X8_isEarlier_0 : ins MX8_isEarlier 0 = some (.iconst 0) := by decide +kernel
theorem i_X8_isEarlier_1 : ins MX8_isEarlier 1 = some (.istore_n 1) := by decide +kernel
theorem i_X8_isEarlier_2 : ins MX8_isEarlier 2 = some (.iload_n 1) := by decide +kernel
theorem i_X8_isEarlier_3 : ins MX8_isEarlier 3 = some (.aload_n 0) := by decide +kernel
theorem i_X8_isEarlier_4 : ins MX8_isEarlier 4 = some (.getfield 147) := by decide +kernel
theorem i_X8_isEarlier_7 : ins MX8_isEarlier 7 = some (.if_icmp .ge 45) := by decide +kernel
theorem i_X8_isEarlier_10 : ins MX8_isEarlier 10 = some (.aload_n 0) := by decide +kernel
theorem i_X8_isEarlier_11 : ins MX8_isEarlier 11 = some (.getfield 50) := by decide +kernel
theorem i_X8_isEarlier_14 : ins MX8_isEarlier 14 = some (.iload_n 1) := by decide +kernel
theorem i_X8_isEarlier_15 : ins MX8_isEarlier 15 = some (.iaload) := by decide +kernel
theorem i_X8_isEarlier_16 : ins MX8_isEarlier 16 = some (.aload_n 0) := by decide +kernel
theorem i_X8_isEarlier_17 : ins MX8_isEarlier 17 = some (.getfield 53) := by decide +kernel
theorem i_X8_isEarlier_20 : ins MX8_isEarlier 20 = some (.iload_n 1) := by decide +kernel
theorem i_X8_isEarlier_21 : ins MX8_isEarlier 21 = some (.iaload) := by decide +kernel
theorem i_X8_isEarlier_22 : ins MX8_isEarlier 22 = some (.if_icmp .eq 24) := by decide +kernel
theorem i_X8_isEarlier_25 : ins MX8_isEarlier 25 = some (.aload_n 0) := by decide +kernel
theorem i_X8_isEarlier_26 : ins MX8_isEarlier 26 = some (.getfield 50) := by decide +kernel
theorem i_X8_isEarlier_29 : ins MX8_isEarlier 29 = some (.iload_n 1) := by decide +kernel
theorem i_X8_isEarlier_30 : ins MX8_isEarlier 30 = some (.iaload) := by decide +kernel
theorem i_X8_isEarlier_31 : ins MX8_isEarlier 31 = some (.aload_n 0) := by decide +kernel
theorem i_X8_isEarlier_32 : ins MX8_isEarlier 32 = some (.getfield 53) := by decide +kernel
theorem i_X8_isEarlier_35 : ins MX8_isEarlier 35 = some (.iload_n 1) := by decide +kernel
theorem i_X8_isEarlier_36 : ins MX8_isEarlier 36 = some (.iaload) := by decide +kernel
theorem i_X8_isEarlier_37 : ins MX8_isEarlier 37 = some (.if_icmp .ge 7) := by decide +kernel
theorem i_X8_isEarlier_40 : ins MX8_isEarlier 40 = some (.iconst 1) := by decide +kernel
theorem i_X8_isEarlier_41 : ins MX8_isEarlier 41 = some (.goto 4) := by decide +kernel
theorem i_X8_isEarlier_44 : ins MX8_isEarlier 44 = some (.iconst 0) := by decide +kernel
theorem i_X8_isEarlier_45 : ins MX8_isEarlier 45 = some (.ireturn) := by decide +kernel
theorem i_X8_isEarlier_46 : ins MX8_isEarlier 46 = some (.iinc 1 1) := by decide +kernel
theorem i_X8_isEarlier_49 : ins MX8_isEarlier 49 = some (.goto (-47)) := by decide +kernel
theorem i_X8_isEarlier_52 : ins MX8_isEarlier 52 = some (.iconst 0) := by decide +kernel
theorem i_X8_isEarlier_53 : ins MX8_isEarlier 53 = some (.ireturn) := by decide +kernel
theorem i_X8_weigh_0 : ins MX8_weigh 0 = some (.iconst 0) := by decide +kernel
theorem i_X8_weigh_1 : ins MX8_weigh 1 = some (.istore 5) := by decide +kernel
theorem i_X8_weigh_3 : ins MX8_weigh 3 = some (.iload 5) := by decide +kernel
theorem i_X8_weigh_5 : ins MX8_weigh 5 = some (.iconst 2) := by decide +kernel
theorem i_X8_weigh_6 : ins MX8_weigh 6 = some (.if_icmp .ge 248) := by decide +kernel
theorem i_X8_weigh_9 : ins MX8_weigh 9 = some (.iconst 0) := by decide +kernel
theorem i_X8_weigh_10 : ins MX8_weigh 10 = some (.istore 6) := by decide +kernel
theorem i_X8_weigh_12 : ins MX8_weigh 12 = some (.iconst 0) := by decide +kernel
theorem i_X8_weigh_13 : ins MX8_weigh 13 = some (.istore 7) := by decide +kernel
theorem i_X8_weigh_15 : ins MX8_weigh 15 = some (.iload 7) := by decide +kernel
theorem i_X8_weigh_17 : ins MX8_weigh 17 = some (.aload_n 0) := by decide +kernel
theorem i_X8_weigh_18 : ins MX8_weigh 18 = some (.getfield 147) := by decide +kernel
theorem i_X8_weigh_21 : ins MX8_weigh 21 = some (.if_icmp .ge 26) := by decide +kernel
theorem i_X8_weigh_24 : ins MX8_weigh 24 = some (.iload 6) := by decide +kernel
theorem i_X8_weigh_26 : ins MX8_weigh 26 = some (.iload 5) := by decide +kernel
theorem i_X8_weigh_28 : ins MX8_weigh 28 = some (.aload_n 0) := by decide +kernel
theorem i_X8_weigh_29 : ins MX8_weigh 29 = some (.getfield 50) := by decide +kernel
theorem i_X8_weigh_32 : ins MX8_weigh 32 = some (.iload 7) := by decide +kernel
theorem i_X8_weigh_34 : ins MX8_weigh 34 = some (.iaload) := by decide +kernel
theorem i_X8_weigh_35 : ins MX8_weigh 35 = some (.invokestatic 144) := by decide +kernel
theorem i_X8_weigh_38 : ins MX8_weigh 38 = some (.iadd) := by decide +kernel
theorem i_X8_weigh_39 : ins MX8_weigh 39 = some (.istore 6) := by decide +kernel
theorem i_X8_weigh_41 : ins MX8_weigh 41 = some (.iinc 7 1) := by decide +kernel
theorem i_X8_weigh_44 : ins MX8_weigh 44 = some (.goto (-29)) := by decide +kernel
theorem i_X8_weigh_47 : ins MX8_weigh 47 = some (.iload 6) := by decide +kernel
theorem i_X8_weigh_49 : ins MX8_weigh 49 = some (.iload_n 2) := by decide +kernel
theorem i_X8_weigh_50 : ins MX8_weigh 50 = some (.if_icmp .gt 198) := by decide +kernel
theorem i_X8_weigh_53 : ins MX8_weigh 53 = some (.aload_n 0) := by decide +kernel
theorem i_X8_weigh_54 : ins MX8_weigh 54 = some (.iload 5) := by decide +kernel
theorem i_X8_weigh_56 : ins MX8_weigh 56 = some (.iload_n 1) := by decide +kernel
theorem i_X8_weigh_57 : ins MX8_weigh 57 = some (.invokevirtual 152) := by decide +kernel
theorem i_X8_weigh_60 : ins MX8_weigh 60 = some (.ifCond .eq 188) := by decide +kernel
theorem i_X8_weigh_63 : ins MX8_weigh 63 = some (.aload_n 0) := by decide +kernel
theorem i_X8_weigh_64 : ins MX8_weigh 64 = some (.iload 5) := by decide +kernel
theorem i_X8_weigh_66 : ins MX8_weigh 66 = some (.iload_n 1) := by decide +kernel
theorem i_X8_weigh_67 : ins MX8_weigh 67 = some (.iload_n 3) := by decide +kernel
theorem i_X8_weigh_68 : ins MX8_weigh 68 = some (.iload 4) := by decide +kernel
theorem i_X8_weigh_70 : ins MX8_weigh 70 = some (.invokevirtual 228) := by decide +kernel
theorem i_X8_weigh_73 : ins MX8_weigh 73 = some (.istore 7) := by decide +kernel
theorem i_X8_weigh_75 : ins MX8_weigh 75 = some (.aload_n 0) := by decide +kernel
theorem i_X8_weigh_76 : ins MX8_weigh 76 = some (.getfield 231) := by decide +kernel
theorem i_X8_weigh_79 : ins MX8_weigh 79 = some (.iconst (-1)) := by decide +kernel
theorem i_X8_weigh_80 : ins MX8_weigh 80 = some (.if_icmp .eq 12) := by decide +kernel
theorem i_X8_weigh_83 : ins MX8_weigh 83 = some (.iload 7) := by decide +kernel
theorem i_X8_weigh_85 : ins MX8_weigh 85 = some (.aload_n 0) := by decide +kernel
theorem i_X8_weigh_86 : ins MX8_weigh 86 = some (.getfield 231) := by decide +kernel
theorem i_X8_weigh_89 : ins MX8_weigh 89 = some (.if_icmp .ge 7) := by decide +kernel
theorem i_X8_weigh_92 : ins MX8_weigh 92 = some (.iconst 1) := by decide +kernel
theorem i_X8_weigh_93 : ins MX8_weigh 93 = some (.goto 4) := by decide +kernel
theorem i_X8_weigh_96 : ins MX8_weigh 96 = some (.iconst 0) := by decide +kernel
theorem i_X8_weigh_97 : ins MX8_weigh 97 = some (.istore 8) := by decide +kernel
theorem i_X8_weigh_99 : ins MX8_weigh 99 = some (.iload 8) := by decide +kernel
theorem i_X8_weigh_101 : ins MX8_weigh 101 = some (.ifCond .ne 84) := by decide +kernel
theorem i_X8_weigh_104 : ins MX8_weigh 104 = some (.iload 7) := by decide +kernel
theorem i_X8_weigh_106 : ins MX8_weigh 106 = some (.aload_n 0) := by decide +kernel
theorem i_X8_weigh_107 : ins MX8_weigh 107 = some (.getfield 231) := by decide +kernel
theorem i_X8_weigh_110 : ins MX8_weigh 110 = some (.if_icmp .ne 75) := by decide +kernel
theorem i_X8_weigh_113 : ins MX8_weigh 113 = some (.iload 6) := by decide +kernel
theorem i_X8_weigh_115 : ins MX8_weigh 115 = some (.aload_n 0) := by decide +kernel
theorem i_X8_weigh_116 : ins MX8_weigh 116 = some (.getfield 234) := by decide +kernel
theorem i_X8_weigh_119 : ins MX8_weigh 119 = some (.if_icmp .lt 59) := by decide +kernel
theorem i_X8_weigh_122 : ins MX8_weigh 122 = some (.iload 6) := by decide +kernel
theorem i_X8_weigh_124 : ins MX8_weigh 124 = some (.aload_n 0) := by decide +kernel
theorem i_X8_weigh_125 : ins MX8_weigh 125 = some (.getfield 234) := by decide +kernel
theorem i_X8_weigh_128 : ins MX8_weigh 128 = some (.if_icmp .ne 54) := by decide +kernel
theorem i_X8_weigh_131 : ins MX8_weigh 131 = some (.iload 5) := by decide +kernel
theorem i_X8_weigh_133 : ins MX8_weigh 133 = some (.aload_n 0) := by decide +kernel
theorem i_X8_weigh_134 : ins MX8_weigh 134 = some (.getfield 237) := by decide +kernel
theorem i_X8_weigh_137 : ins MX8_weigh 137 = some (.if_icmp .lt 41) := by decide +kernel
theorem i_X8_weigh_140 : ins MX8_weigh 140 = some (.iload 5) := by decide +kernel
theorem i_X8_weigh_142 : ins MX8_weigh 142 = some (.aload_n 0) := by decide +kernel
theorem i_X8_weigh_143 : ins MX8_weigh 143 = some (.getfield 237) := by decide +kernel
theorem i_X8_weigh_146 : ins MX8_weigh 146 = some (.if_icmp .ne 36) := by decide +kernel
theorem i_X8_weigh_149 : ins MX8_weigh 149 = some (.aload_n 0) := by decide +kernel
theorem i_X8_weigh_150 : ins MX8_weigh 150 = some (.getfield 147) := by decide +kernel
theorem i_X8_weigh_153 : ins MX8_weigh 153 = some (.aload_n 0) := by decide +kernel
theorem i_X8_weigh_154 : ins MX8_weigh 154 = some (.getfield 240) := by decide +kernel
theorem i_X8_weigh_157 : ins MX8_weigh 157 = some (.if_icmp .lt 21) := by decide +kernel
theorem i_X8_weigh_160 : ins MX8_weigh 160 = some (.aload_n 0) := by decide +kernel
theorem i_X8_weigh_161 : ins MX8_weigh 161 = some (.getfield 147) := by decide +kernel
theorem i_X8_weigh_164 : ins MX8_weigh 164 = some (.aload_n 0) := by decide +kernel
theorem i_X8_weigh_165 : ins MX8_weigh 165 = some (.getfield 240) := by decide +kernel
theorem i_X8_weigh_168 : ins MX8_weigh 168 = some (.if_icmp .ne 14) := by decide +kernel
theorem i_X8_weigh_171 : ins MX8_weigh 171 = some (.aload_n 0) := by decide +kernel
theorem i_X8_weigh_172 : ins MX8_weigh 172 = some (.invokevirtual 243) := by decide +kernel
theorem i_X8_weigh_175 : ins MX8_weigh 175 = some (.ifCond .eq 7) := by decide +kernel
theorem i_X8_weigh_178 : ins MX8_weigh 178 = some (.iconst 1) := by decide +kernel
theorem i_X8_weigh_179 : ins MX8_weigh 179 = some (.goto 4) := by decide +kernel
theorem i_X8_weigh_182 : ins MX8_weigh 182 = some (.iconst 0) := by decide +kernel
theorem i_X8_weigh_183 : ins MX8_weigh 183 = some (.istore 8) := by decide +kernel
theorem i_X8_weigh_185 : ins MX8_weigh 185 = some (.iload 8) := by decide +kernel
theorem i_X8_weigh_187 : ins MX8_weigh 187 = some (.ifCond .eq 61) := by decide +kernel
theorem i_X8_weigh_190 : ins MX8_weigh 190 = some (.aload_n 0) := by decide +kernel
theorem i_X8_weigh_191 : ins MX8_weigh 191 = some (.iload 7) := by decide +kernel
theorem i_X8_weigh_193 : ins MX8_weigh 193 = some (.putfield 231) := by decide +kernel
theorem i_X8_weigh_196 : ins MX8_weigh 196 = some (.aload_n 0) := by decide +kernel
theorem i_X8_weigh_197 : ins MX8_weigh 197 = some (.iload 6) := by decide +kernel
theorem i_X8_weigh_199 : ins MX8_weigh 199 = some (.putfield 234) := by decide +kernel
theorem i_X8_weigh_202 : ins MX8_weigh 202 = some (.aload_n 0) := by decide +kernel
theorem i_X8_weigh_203 : ins MX8_weigh 203 = some (.iload 5) := by decide +kernel
theorem i_X8_weigh_205 : ins MX8_weigh 205 = some (.putfield 237) := by decide +kernel
theorem i_X8_weigh_208 : ins MX8_weigh 208 = some (.aload_n 0) := by decide +kernel
theorem i_X8_weigh_209 : ins MX8_weigh 209 = some (.aload_n 0) := by decide +kernel
theorem i_X8_weigh_210 : ins MX8_weigh 210 = some (.getfield 147) := by decide +kernel
theorem i_X8_weigh_213 : ins MX8_weigh 213 = some (.putfield 240) := by decide +kernel
theorem i_X8_weigh_216 : ins MX8_weigh 216 = some (.iconst 0) := by decide +kernel
theorem i_X8_weigh_217 : ins MX8_weigh 217 = some (.istore 9) := by decide +kernel
theorem i_X8_weigh_219 : ins MX8_weigh 219 = some (.iload 9) := by decide +kernel
theorem i_X8_weigh_221 : ins MX8_weigh 221 = some (.aload_n 0) := by decide +kernel
theorem i_X8_weigh_222 : ins MX8_weigh 222 = some (.getfield 147) := by decide +kernel
theorem i_X8_weigh_225 : ins MX8_weigh 225 = some (.if_icmp .ge 23) := by decide +kernel
theorem i_X8_weigh_228 : ins MX8_weigh 228 = some (.aload_n 0) := by decide +kernel
theorem i_X8_weigh_229 : ins MX8_weigh 229 = some (.getfield 53) := by decide +kernel
theorem i_X8_weigh_232 : ins MX8_weigh 232 = some (.iload 9) := by decide +kernel
theorem i_X8_weigh_234 : ins MX8_weigh 234 = some (.aload_n 0) := by decide +kernel
theorem i_X8_weigh_235 : ins MX8_weigh 235 = some (.getfield 50) := by decide +kernel
theorem i_X8_weigh_238 : ins MX8_weigh 238 = some (.iload 9) := by decide +kernel
theorem i_X8_weigh_240 : ins MX8_weigh 240 = some (.iaload) := by decide +kernel
theorem i_X8_weigh_241 : ins MX8_weigh 241 = some (.iastore) := by decide +kernel
theorem i_X8_weigh_242 : ins MX8_weigh 242 = some (.iinc 9 1) := by decide +kernel
theorem i_X8_weigh_245 : ins MX8_weigh 245 = some (.goto (-26)) := by decide +kernel
theorem i_X8_weigh_248 : ins MX8_weigh 248 = some (.iinc 5 1) := by decide +kernel
theorem i_X8_weigh_251 : ins MX8_weigh 251 = some (.goto (-248)) := by decide +kernel
theorem i_X8_weigh_254 : ins MX8_weigh 254 = some (.return_) := by decide +kernel
theorem i_X8_findBest_0 : ins MX8_findBest 0 = some (.aload_n 0) := by decide +kernel
theorem i_X8_findBest_1 : ins MX8_findBest 1 = some (.iconst (-1)) := by decide +kernel
theorem i_X8_findBest_2 : ins MX8_findBest 2 = some (.putfield 231) := by decide +kernel
theorem i_X8_findBest_5 : ins MX8_findBest 5 = some (.aload_n 0) := by decide +kernel
theorem i_X8_findBest_6 : ins MX8_findBest 6 = some (.getfield 50) := by decide +kernel
theorem i_X8_findBest_9 : ins MX8_findBest 9 = some (.iconst 0) := by decide +kernel
theorem i_X8_findBest_10 : ins MX8_findBest 10 = some (.iconst 1) := by decide +kernel
theorem i_X8_findBest_11 : ins MX8_findBest 11 = some (.iastore) := by decide +kernel
theorem i_X8_findBest_12 : ins MX8_findBest 12 = some (.aload_n 0) := by decide +kernel
theorem i_X8_findBest_13 : ins MX8_findBest 13 = some (.iconst 1) := by decide +kernel
theorem i_X8_findBest_14 : ins MX8_findBest 14 = some (.putfield 147) := by decide +kernel
theorem i_X8_findBest_17 : ins MX8_findBest 17 = some (.aload_n 0) := by decide +kernel
theorem i_X8_findBest_18 : ins MX8_findBest 18 = some (.getfield 147) := by decide +kernel
theorem i_X8_findBest_21 : ins MX8_findBest 21 = some (.ifCond .le 129) := by decide +kernel
theorem i_X8_findBest_24 : ins MX8_findBest 24 = some (.aload_n 0) := by decide +kernel
theorem i_X8_findBest_25 : ins MX8_findBest 25 = some (.getfield 50) := by decide +kernel
theorem i_X8_findBest_28 : ins MX8_findBest 28 = some (.aload_n 0) := by decide +kernel
theorem i_X8_findBest_29 : ins MX8_findBest 29 = some (.getfield 147) := by decide +kernel
theorem i_X8_findBest_32 : ins MX8_findBest 32 = some (.iconst 1) := by decide +kernel
theorem i_X8_findBest_33 : ins MX8_findBest 33 = some (.isub) := by decide +kernel
theorem i_X8_findBest_34 : ins MX8_findBest 34 = some (.dup2) := by decide +kernel
theorem i_X8_findBest_35 : ins MX8_findBest 35 = some (.iaload) := by decide +kernel
theorem i_X8_findBest_36 : ins MX8_findBest 36 = some (.iconst 1) := by decide +kernel
theorem i_X8_findBest_37 : ins MX8_findBest 37 = some (.iadd) := by decide +kernel
theorem i_X8_findBest_38 : ins MX8_findBest 38 = some (.iastore) := by decide +kernel
theorem i_X8_findBest_39 : ins MX8_findBest 39 = some (.aload_n 0) := by decide +kernel
theorem i_X8_findBest_40 : ins MX8_findBest 40 = some (.getfield 50) := by decide +kernel
theorem i_X8_findBest_43 : ins MX8_findBest 43 = some (.aload_n 0) := by decide +kernel
theorem i_X8_findBest_44 : ins MX8_findBest 44 = some (.getfield 147) := by decide +kernel
theorem i_X8_findBest_47 : ins MX8_findBest 47 = some (.iconst 1) := by decide +kernel
theorem i_X8_findBest_48 : ins MX8_findBest 48 = some (.isub) := by decide +kernel
theorem i_X8_findBest_49 : ins MX8_findBest 49 = some (.iaload) := by decide +kernel
theorem i_X8_findBest_50 : ins MX8_findBest 50 = some (.bipush 32) := by decide +kernel
theorem i_X8_findBest_52 : ins MX8_findBest 52 = some (.if_icmp .le 16) := by decide +kernel
theorem i_X8_findBest_55 : ins MX8_findBest 55 = some (.aload_n 0) := by decide +kernel
theorem i_X8_findBest_56 : ins MX8_findBest 56 = some (.dup) := by decide +kernel
theorem i_X8_findBest_57 : ins MX8_findBest 57 = some (.getfield 147) := by decide +kernel
theorem i_X8_findBest_60 : ins MX8_findBest 60 = some (.iconst 1) := by decide +kernel
theorem i_X8_findBest_61 : ins MX8_findBest 61 = some (.isub) := by decide +kernel
theorem i_X8_findBest_62 : ins MX8_findBest 62 = some (.putfield 147) := by decide +kernel
theorem i_X8_findBest_65 : ins MX8_findBest 65 = some (.goto (-48)) := by decide +kernel
theorem i_X8_findBest_68 : ins MX8_findBest 68 = some (.iconst 1) := by decide +kernel
theorem i_X8_findBest_69 : ins MX8_findBest 69 = some (.istore 5) := by decide +kernel
theorem i_X8_findBest_71 : ins MX8_findBest 71 = some (.iconst 0) := by decide +kernel
theorem i_X8_findBest_72 : ins MX8_findBest 72 = some (.istore 6) := by decide +kernel
theorem i_X8_findBest_74 : ins MX8_findBest 74 = some (.iload 6) := by decide +kernel
theorem i_X8_findBest_76 : ins MX8_findBest 76 = some (.aload_n 0) := by decide +kernel
theorem i_X8_findBest_77 : ins MX8_findBest 77 = some (.getfield 147) := by decide +kernel
theorem i_X8_findBest_80 : ins MX8_findBest 80 = some (.if_icmp .ge 21) := by decide +kernel
theorem i_X8_findBest_83 : ins MX8_findBest 83 = some (.iload 5) := by decide +kernel
theorem i_X8_findBest_85 : ins MX8_findBest 85 = some (.aload_n 0) := by decide +kernel
theorem i_X8_findBest_86 : ins MX8_findBest 86 = some (.getfield 50) := by decide +kernel
theorem i_X8_findBest_89 : ins MX8_findBest 89 = some (.iload 6) := by decide +kernel
theorem i_X8_findBest_91 : ins MX8_findBest 91 = some (.iaload) := by decide +kernel
theorem i_X8_findBest_92 : ins MX8_findBest 92 = some (.imul) := by decide +kernel
theorem i_X8_findBest_93 : ins MX8_findBest 93 = some (.istore 5) := by decide +kernel
theorem i_X8_findBest_95 : ins MX8_findBest 95 = some (.iinc 6 1) := by decide +kernel
theorem i_X8_findBest_98 : ins MX8_findBest 98 = some (.goto (-24)) := by decide +kernel
theorem i_X8_findBest_101 : ins MX8_findBest 101 = some (.iload 5) := by decide +kernel
theorem i_X8_findBest_103 : ins MX8_findBest 103 = some (.iload_n 1) := by decide +kernel
theorem i_X8_findBest_104 : ins MX8_findBest 104 = some (.if_icmp .lt 15) := by decide +kernel
theorem i_X8_findBest_107 : ins MX8_findBest 107 = some (.aload_n 0) := by decide +kernel
theorem i_X8_findBest_108 : ins MX8_findBest 108 = some (.iload_n 1) := by decide +kernel
theorem i_X8_findBest_109 : ins MX8_findBest 109 = some (.iload_n 2) := by decide +kernel
theorem i_X8_findBest_110 : ins MX8_findBest 110 = some (.iload_n 3) := by decide +kernel
theorem i_X8_findBest_111 : ins MX8_findBest 111 = some (.iload 4) := by decide +kernel
theorem i_X8_findBest_113 : ins MX8_findBest 113 = some (.invokevirtual 247) := by decide +kernel
theorem i_X8_findBest_116 : ins MX8_findBest 116 = some (.goto 31) := by decide +kernel
theorem i_X8_findBest_119 : ins MX8_findBest 119 = some (.aload_n 0) := by decide +kernel
theorem i_X8_findBest_120 : ins MX8_findBest 120 = some (.getfield 147) := by decide +kernel
theorem i_X8_findBest_123 : ins MX8_findBest 123 = some (.iconst 5) := by decide +kernel
theorem i_X8_findBest_124 : ins MX8_findBest 124 = some (.if_icmp .ge 23) := by decide +kernel
theorem i_X8_findBest_127 : ins MX8_findBest 127 = some (.aload_n 0) := by decide +kernel
theorem i_X8_findBest_128 : ins MX8_findBest 128 = some (.getfield 50) := by decide +kernel
theorem i_X8_findBest_131 : ins MX8_findBest 131 = some (.aload_n 0) := by decide +kernel
theorem i_X8_findBest_132 : ins MX8_findBest 132 = some (.getfield 147) := by decide +kernel
theorem i_X8_findBest_135 : ins MX8_findBest 135 = some (.iconst 1) := by decide +kernel
theorem i_X8_findBest_136 : ins MX8_findBest 136 = some (.iastore) := by decide +kernel
theorem i_X8_findBest_137 : ins MX8_findBest 137 = some (.aload_n 0) := by decide +kernel
theorem i_X8_findBest_138 : ins MX8_findBest 138 = some (.dup) := by decide +kernel
theorem i_X8_findBest_139 : ins MX8_findBest 139 = some (.getfield 147) := by decide +kernel
theorem i_X8_findBest_142 : ins MX8_findBest 142 = some (.iconst 1) := by decide +kernel
theorem i_X8_findBest_143 : ins MX8_findBest 143 = some (.iadd) := by decide +kernel
theorem i_X8_findBest_144 : ins MX8_findBest 144 = some (.putfield 147) := by decide +kernel
theorem i_X8_findBest_147 : ins MX8_findBest 147 = some (.goto (-130)) := by decide +kernel
theorem i_X8_findBest_150 : ins MX8_findBest 150 = some (.return_) := by decide +kernel
theorem i_X8_best_0 : ins MX8_best 0 = some (.iload_n 1) := by decide +kernel
theorem i_X8_best_1 : ins MX8_best 1 = some (.invokestatic 94) := by decide +kernel
theorem i_X8_best_4 : ins MX8_best 4 = some (.ifCond .ne 6) := by decide +kernel
theorem i_X8_best_7 : ins MX8_best 7 = some (.bipush (-101)) := by decide +kernel
theorem i_X8_best_9 : ins MX8_best 9 = some (.ireturn) := by decide +kernel
theorem i_X8_best_10 : ins MX8_best 10 = some (.iload_n 2) := by decide +kernel
theorem i_X8_best_11 : ins MX8_best 11 = some (.i2l) := by decide +kernel
theorem i_X8_best_12 : ins MX8_best 12 = some (.lconst 1) := by decide +kernel
theorem i_X8_best_13 : ins MX8_best 13 = some (.ldc2_w 127) := by decide +kernel
theorem i_X8_best_16 : ins MX8_best 16 = some (.invokestatic 88) := by decide +kernel
theorem i_X8_best_19 : ins MX8_best 19 = some (.ifCond .eq 46) := by decide +kernel
theorem i_X8_best_22 : ins MX8_best 22 = some (.iload_n 3) := by decide +kernel
theorem i_X8_best_23 : ins MX8_best 23 = some (.invokestatic 225) := by decide +kernel
theorem i_X8_best_26 : ins MX8_best 26 = some (.ifCond .eq 39) := by decide +kernel
theorem i_X8_best_29 : ins MX8_best 29 = some (.iload 4) := by decide +kernel
theorem i_X8_best_31 : ins MX8_best 31 = some (.invokestatic 225) := by decide +kernel
theorem i_X8_best_34 : ins MX8_best 34 = some (.ifCond .eq 31) := by decide +kernel
theorem i_X8_best_37 : ins MX8_best 37 = some (.iload 5) := by decide +kernel
theorem i_X8_best_39 : ins MX8_best 39 = some (.i2l) := by decide +kernel
theorem i_X8_best_40 : ins MX8_best 40 = some (.lconst 0) := by decide +kernel
theorem i_X8_best_41 : ins MX8_best 41 = some (.ldc2_w 86) := by decide +kernel
theorem i_X8_best_44 : ins MX8_best 44 = some (.invokestatic 88) := by decide +kernel
theorem i_X8_best_47 : ins MX8_best 47 = some (.ifCond .ne 21) := by decide +kernel
theorem i_X8_best_50 : ins MX8_best 50 = some (.iload 5) := by decide +kernel
theorem i_X8_best_52 : ins MX8_best 52 = some (.i2l) := by decide +kernel
theorem i_X8_best_53 : ins MX8_best 53 = some (.ldc2_w 165) := by decide +kernel
theorem i_X8_best_56 : ins MX8_best 56 = some (.ldc2_w 167) := by decide +kernel
theorem i_X8_best_59 : ins MX8_best 59 = some (.invokestatic 88) := by decide +kernel
theorem i_X8_best_62 : ins MX8_best 62 = some (.ifCond .ne 6) := by decide +kernel
theorem i_X8_best_65 : ins MX8_best 65 = some (.bipush (-102)) := by decide +kernel
theorem i_X8_best_67 : ins MX8_best 67 = some (.ireturn) := by decide +kernel
theorem i_X8_best_68 : ins MX8_best 68 = some (.aload_n 0) := by decide +kernel
theorem i_X8_best_69 : ins MX8_best 69 = some (.getfield 251) := by decide +kernel
theorem i_X8_best_72 : ins MX8_best 72 = some (.bipush 30) := by decide +kernel
theorem i_X8_best_74 : ins MX8_best 74 = some (.if_icmp .ne 6) := by decide +kernel
theorem i_X8_best_77 : ins MX8_best 77 = some (.bipush (-103)) := by decide +kernel
theorem i_X8_best_79 : ins MX8_best 79 = some (.ireturn) := by decide +kernel
theorem i_X8_best_80 : ins MX8_best 80 = some (.aload_n 0) := by decide +kernel
theorem i_X8_best_81 : ins MX8_best 81 = some (.dup) := by decide +kernel
theorem i_X8_best_82 : ins MX8_best 82 = some (.getfield 251) := by decide +kernel
theorem i_X8_best_85 : ins MX8_best 85 = some (.iconst 1) := by decide +kernel
theorem i_X8_best_86 : ins MX8_best 86 = some (.iadd) := by decide +kernel
theorem i_X8_best_87 : ins MX8_best 87 = some (.putfield 251) := by decide +kernel
theorem i_X8_best_90 : ins MX8_best 90 = some (.aload_n 0) := by decide +kernel
theorem i_X8_best_91 : ins MX8_best 91 = some (.aload_n 0) := by decide +kernel
theorem i_X8_best_92 : ins MX8_best 92 = some (.getfield 7) := by decide +kernel
theorem i_X8_best_95 : ins MX8_best 95 = some (.iload_n 1) := by decide +kernel
theorem i_X8_best_96 : ins MX8_best 96 = some (.iaload) := by decide +kernel
theorem i_X8_best_97 : ins MX8_best 97 = some (.iload_n 2) := by decide +kernel
theorem i_X8_best_98 : ins MX8_best 98 = some (.iload_n 3) := by decide +kernel
theorem i_X8_best_99 : ins MX8_best 99 = some (.iload 4) := by decide +kernel
theorem i_X8_best_101 : ins MX8_best 101 = some (.invokevirtual 254) := by decide +kernel
theorem i_X8_best_104 : ins MX8_best 104 = some (.aload_n 0) := by decide +kernel
theorem i_X8_best_105 : ins MX8_best 105 = some (.getfield 231) := by decide +kernel
theorem i_X8_best_108 : ins MX8_best 108 = some (.iconst (-1)) := by decide +kernel
theorem i_X8_best_109 : ins MX8_best 109 = some (.if_icmp .ne 5) := by decide +kernel
theorem i_X8_best_112 : ins MX8_best 112 = some (.iconst (-1)) := by decide +kernel
theorem i_X8_best_113 : ins MX8_best 113 = some (.ireturn) := by decide +kernel
theorem i_X8_best_114 : ins MX8_best 114 = some (.iload 5) := by decide +kernel
theorem i_X8_best_116 : ins MX8_best 116 = some (.tableswitch 52 0 3 #[32, 37, 42, 47]) := by decide +kernel
theorem i_X8_best_148 : ins MX8_best 148 = some (.aload_n 0) := by decide +kernel
theorem i_X8_best_149 : ins MX8_best 149 = some (.getfield 231) := by decide +kernel
theorem i_X8_best_152 : ins MX8_best 152 = some (.ireturn) := by decide +kernel
theorem i_X8_best_153 : ins MX8_best 153 = some (.aload_n 0) := by decide +kernel
theorem i_X8_best_154 : ins MX8_best 154 = some (.getfield 234) := by decide +kernel
theorem i_X8_best_157 : ins MX8_best 157 = some (.ireturn) := by decide +kernel
theorem i_X8_best_158 : ins MX8_best 158 = some (.aload_n 0) := by decide +kernel
theorem i_X8_best_159 : ins MX8_best 159 = some (.getfield 237) := by decide +kernel
theorem i_X8_best_162 : ins MX8_best 162 = some (.ireturn) := by decide +kernel
theorem i_X8_best_163 : ins MX8_best 163 = some (.aload_n 0) := by decide +kernel
theorem i_X8_best_164 : ins MX8_best 164 = some (.getfield 240) := by decide +kernel
theorem i_X8_best_167 : ins MX8_best 167 = some (.ireturn) := by decide +kernel
theorem i_X8_best_168 : ins MX8_best 168 = some (.iload 5) := by decide +kernel
theorem i_X8_best_170 : ins MX8_best 170 = some (.bipush 10) := by decide +kernel
theorem i_X8_best_172 : ins MX8_best 172 = some (.isub) := by decide +kernel
theorem i_X8_best_173 : ins MX8_best 173 = some (.aload_n 0) := by decide +kernel
theorem i_X8_best_174 : ins MX8_best 174 = some (.getfield 240) := by decide +kernel
theorem i_X8_best_177 : ins MX8_best 177 = some (.if_icmp .ge 16) := by decide +kernel
theorem i_X8_best_180 : ins MX8_best 180 = some (.aload_n 0) := by decide +kernel
theorem i_X8_best_181 : ins MX8_best 181 = some (.getfield 53) := by decide +kernel
theorem i_X8_best_184 : ins MX8_best 184 = some (.iload 5) := by decide +kernel
theorem i_X8_best_186 : ins MX8_best 186 = some (.bipush 10) := by decide +kernel
theorem i_X8_best_188 : ins MX8_best 188 = some (.isub) := by decide +kernel
theorem i_X8_best_189 : ins MX8_best 189 = some (.iaload) := by decide +kernel
theorem i_X8_best_190 : ins MX8_best 190 = some (.goto 4) := by decide +kernel
theorem i_X8_best_193 : ins MX8_best 193 = some (.iconst (-1)) := by decide +kernel
theorem i_X8_best_194 : ins MX8_best 194 = some (.ireturn) := by decide +kernel
theorem i_X8_letters_0 : ins MX8_letters 0 = some (.iconst 0) := by decide +kernel
theorem i_X8_letters_1 : ins MX8_letters 1 = some (.istore_n 3) := by decide +kernel
theorem i_X8_letters_2 : ins MX8_letters 2 = some (.iconst 1) := by decide +kernel
theorem i_X8_letters_3 : ins MX8_letters 3 = some (.istore 4) := by decide +kernel
theorem i_X8_letters_5 : ins MX8_letters 5 = some (.lload_n 1) := by decide +kernel
theorem i_X8_letters_6 : ins MX8_letters 6 = some (.lstore 5) := by decide +kernel
theorem i_X8_letters_8 : ins MX8_letters 8 = some (.iconst 0) := by decide +kernel
theorem i_X8_letters_9 : ins MX8_letters 9 = some (.istore 7) := by decide +kernel
theorem i_X8_letters_11 : ins MX8_letters 11 = some (.iload 7) := by decide +kernel
theorem i_X8_letters_13 : ins MX8_letters 13 = some (.bipush 8) := by decide +kernel
theorem i_X8_letters_15 : ins MX8_letters 15 = some (.if_icmp .ge 68) := by decide +kernel
theorem i_X8_letters_18 : ins MX8_letters 18 = some (.lload 5) := by decide +kernel
theorem i_X8_letters_20 : ins MX8_letters 20 = some (.ldc2_w 257) := by decide +kernel
theorem i_X8_letters_23 : ins MX8_letters 23 = some (.land) := by decide +kernel
theorem i_X8_letters_24 : ins MX8_letters 24 = some (.l2i) := by decide +kernel
theorem i_X8_letters_25 : ins MX8_letters 25 = some (.istore 8) := by decide +kernel
theorem i_X8_letters_27 : ins MX8_letters 27 = some (.lload 5) := by decide +kernel
theorem i_X8_letters_29 : ins MX8_letters 29 = some (.bipush 8) := by decide +kernel
theorem i_X8_letters_31 : ins MX8_letters 31 = some (.lushr) := by decide +kernel
theorem i_X8_letters_32 : ins MX8_letters 32 = some (.lstore 5) := by decide +kernel
theorem i_X8_letters_34 : ins MX8_letters 34 = some (.iload 4) := by decide +kernel
theorem i_X8_letters_36 : ins MX8_letters 36 = some (.ifCond .eq 25) := by decide +kernel
theorem i_X8_letters_39 : ins MX8_letters 39 = some (.iload 8) := by decide +kernel
theorem i_X8_letters_41 : ins MX8_letters 41 = some (.bipush 126) := by decide +kernel
theorem i_X8_letters_43 : ins MX8_letters 43 = some (.if_icmp .gt 18) := by decide +kernel
theorem i_X8_letters_46 : ins MX8_letters 46 = some (.iload 8) := by decide +kernel
theorem i_X8_letters_48 : ins MX8_letters 48 = some (.ifCond .eq 9) := by decide +kernel
theorem i_X8_letters_51 : ins MX8_letters 51 = some (.iload_n 3) := by decide +kernel
theorem i_X8_letters_52 : ins MX8_letters 52 = some (.iload 7) := by decide +kernel
theorem i_X8_letters_54 : ins MX8_letters 54 = some (.if_icmp .ne 7) := by decide +kernel
theorem i_X8_letters_57 : ins MX8_letters 57 = some (.iconst 1) := by decide +kernel
theorem i_X8_letters_58 : ins MX8_letters 58 = some (.goto 4) := by decide +kernel
theorem i_X8_letters_61 : ins MX8_letters 61 = some (.iconst 0) := by decide +kernel
theorem i_X8_letters_62 : ins MX8_letters 62 = some (.istore 4) := by decide +kernel
theorem i_X8_letters_64 : ins MX8_letters 64 = some (.iload_n 3) := by decide +kernel
theorem i_X8_letters_65 : ins MX8_letters 65 = some (.iload 8) := by decide +kernel
theorem i_X8_letters_67 : ins MX8_letters 67 = some (.ifCond .le 7) := by decide +kernel
theorem i_X8_letters_70 : ins MX8_letters 70 = some (.iconst 1) := by decide +kernel
theorem i_X8_letters_71 : ins MX8_letters 71 = some (.goto 4) := by decide +kernel
theorem i_X8_letters_74 : ins MX8_letters 74 = some (.iconst 0) := by decide +kernel
theorem i_X8_letters_75 : ins MX8_letters 75 = some (.iadd) := by decide +kernel
theorem i_X8_letters_76 : ins MX8_letters 76 = some (.istore_n 3) := by decide +kernel
theorem i_X8_letters_77 : ins MX8_letters 77 = some (.iinc 7 1) := by decide +kernel
theorem i_X8_letters_80 : ins MX8_letters 80 = some (.goto (-69)) := by decide +kernel
theorem i_X8_letters_83 : ins MX8_letters 83 = some (.iload 4) := by decide +kernel
theorem i_X8_letters_85 : ins MX8_letters 85 = some (.ifCond .ne 6) := by decide +kernel
theorem i_X8_letters_88 : ins MX8_letters 88 = some (.bipush (-102)) := by decide +kernel
theorem i_X8_letters_90 : ins MX8_letters 90 = some (.ireturn) := by decide +kernel
theorem i_X8_letters_91 : ins MX8_letters 91 = some (.aload_n 0) := by decide +kernel
theorem i_X8_letters_92 : ins MX8_letters 92 = some (.getfield 259) := by decide +kernel
theorem i_X8_letters_95 : ins MX8_letters 95 = some (.iload_n 3) := by decide +kernel
theorem i_X8_letters_96 : ins MX8_letters 96 = some (.iadd) := by decide +kernel
theorem i_X8_letters_97 : ins MX8_letters 97 = some (.bipush 60) := by decide +kernel
theorem i_X8_letters_99 : ins MX8_letters 99 = some (.if_icmp .le 6) := by decide +kernel
theorem i_X8_letters_102 : ins MX8_letters 102 = some (.bipush (-104)) := by decide +kernel
theorem i_X8_letters_104 : ins MX8_letters 104 = some (.ireturn) := by decide +kernel
theorem i_X8_letters_105 : ins MX8_letters 105 = some (.iconst 0) := by decide +kernel
theorem i_X8_letters_106 : ins MX8_letters 106 = some (.istore 7) := by decide +kernel
theorem i_X8_letters_108 : ins MX8_letters 108 = some (.iload 7) := by decide +kernel
theorem i_X8_letters_110 : ins MX8_letters 110 = some (.iload_n 3) := by decide +kernel
theorem i_X8_letters_111 : ins MX8_letters 111 = some (.if_icmp .ge 40) := by decide +kernel
theorem i_X8_letters_114 : ins MX8_letters 114 = some (.aload_n 0) := by decide +kernel
theorem i_X8_letters_115 : ins MX8_letters 115 = some (.getfield 56) := by decide +kernel
theorem i_X8_letters_118 : ins MX8_letters 118 = some (.aload_n 0) := by decide +kernel
theorem i_X8_letters_119 : ins MX8_letters 119 = some (.getfield 259) := by decide +kernel
theorem i_X8_letters_122 : ins MX8_letters 122 = some (.lload_n 1) := by decide +kernel
theorem i_X8_letters_123 : ins MX8_letters 123 = some (.bipush 8) := by decide +kernel
theorem i_X8_letters_125 : ins MX8_letters 125 = some (.iload 7) := by decide +kernel
theorem i_X8_letters_127 : ins MX8_letters 127 = some (.imul) := by decide +kernel
theorem i_X8_letters_128 : ins MX8_letters 128 = some (.lushr) := by decide +kernel
theorem i_X8_letters_129 : ins MX8_letters 129 = some (.ldc2_w 257) := by decide +kernel
theorem i_X8_letters_132 : ins MX8_letters 132 = some (.land) := by decide +kernel
theorem i_X8_letters_133 : ins MX8_letters 133 = some (.l2i) := by decide +kernel
theorem i_X8_letters_134 : ins MX8_letters 134 = some (.iastore) := by decide +kernel
theorem i_X8_letters_135 : ins MX8_letters 135 = some (.aload_n 0) := by decide +kernel
theorem i_X8_letters_136 : ins MX8_letters 136 = some (.dup) := by decide +kernel
theorem i_X8_letters_137 : ins MX8_letters 137 = some (.getfield 259) := by decide +kernel
theorem i_X8_letters_140 : ins MX8_letters 140 = some (.iconst 1) := by decide +kernel
theorem i_X8_letters_141 : ins MX8_letters 141 = some (.iadd) := by decide +kernel
theorem i_X8_letters_142 : ins MX8_letters 142 = some (.putfield 259) := by decide +kernel
theorem i_X8_letters_145 : ins MX8_letters 145 = some (.iinc 7 1) := by decide +kernel
theorem i_X8_letters_148 : ins MX8_letters 148 = some (.goto (-40)) := by decide +kernel
theorem i_X8_letters_151 : ins MX8_letters 151 = some (.aload_n 0) := by decide +kernel
theorem i_X8_letters_152 : ins MX8_letters 152 = some (.getfield 259) := by decide +kernel
theorem i_X8_letters_155 : ins MX8_letters 155 = some (.ireturn) := by decide +kernel
theorem i_X8_blank_0 : ins MX8_blank 0 = some (.aload_n 0) := by decide +kernel
theorem i_X8_blank_1 : ins MX8_blank 1 = some (.getfield 259) := by decide +kernel
theorem i_X8_blank_4 : ins MX8_blank 4 = some (.istore_n 1) := by decide +kernel
theorem i_X8_blank_5 : ins MX8_blank 5 = some (.aload_n 0) := by decide +kernel
theorem i_X8_blank_6 : ins MX8_blank 6 = some (.iconst 0) := by decide +kernel
theorem i_X8_blank_7 : ins MX8_blank 7 = some (.putfield 259) := by decide +kernel
theorem i_X8_blank_10 : ins MX8_blank 10 = some (.iload_n 1) := by decide +kernel
theorem i_X8_blank_11 : ins MX8_blank 11 = some (.ireturn) := by decide +kernel
theorem i_X8_lay_0 : ins MX8_lay 0 = some (.aload_n 0) := by decide +kernel
theorem i_X8_lay_1 : ins MX8_lay 1 = some (.getfield 68) := by decide +kernel
theorem i_X8_lay_4 : ins MX8_lay 4 = some (.aload_n 0) := by decide +kernel
theorem i_X8_lay_5 : ins MX8_lay 5 = some (.getfield 262) := by decide +kernel
theorem i_X8_lay_8 : ins MX8_lay 8 = some (.iload_n 1) := by decide +kernel
theorem i_X8_lay_9 : ins MX8_lay 9 = some (.iastore) := by decide +kernel
theorem i_X8_lay_10 : ins MX8_lay 10 = some (.aload_n 0) := by decide +kernel
theorem i_X8_lay_11 : ins MX8_lay 11 = some (.getfield 71) := by decide +kernel
theorem i_X8_lay_14 : ins MX8_lay 14 = some (.aload_n 0) := by decide +kernel
theorem i_X8_lay_15 : ins MX8_lay 15 = some (.getfield 262) := by decide +kernel
theorem i_X8_lay_18 : ins MX8_lay 18 = some (.iload_n 2) := by decide +kernel
theorem i_X8_lay_19 : ins MX8_lay 19 = some (.iastore) := by decide +kernel
theorem i_X8_lay_20 : ins MX8_lay 20 = some (.aload_n 0) := by decide +kernel
theorem i_X8_lay_21 : ins MX8_lay 21 = some (.dup) := by decide +kernel
theorem i_X8_lay_22 : ins MX8_lay 22 = some (.getfield 262) := by decide +kernel
theorem i_X8_lay_25 : ins MX8_lay 25 = some (.iconst 1) := by decide +kernel
theorem i_X8_lay_26 : ins MX8_lay 26 = some (.iadd) := by decide +kernel
theorem i_X8_lay_27 : ins MX8_lay 27 = some (.putfield 262) := by decide +kernel
theorem i_X8_lay_30 : ins MX8_lay 30 = some (.return_) := by decide +kernel
theorem i_X8_layDown_0 : ins MX8_layDown 0 = some (.aload_n 0) := by decide +kernel
theorem i_X8_layDown_1 : ins MX8_layDown 1 = some (.getfield 265) := by decide +kernel
theorem i_X8_layDown_4 : ins MX8_layDown 4 = some (.ifCond .le 45) := by decide +kernel
theorem i_X8_layDown_7 : ins MX8_layDown 7 = some (.aload_n 0) := by decide +kernel
theorem i_X8_layDown_8 : ins MX8_layDown 8 = some (.getfield 74) := by decide +kernel
theorem i_X8_layDown_11 : ins MX8_layDown 11 = some (.aload_n 0) := by decide +kernel
theorem i_X8_layDown_12 : ins MX8_layDown 12 = some (.getfield 265) := by decide +kernel
theorem i_X8_layDown_15 : ins MX8_layDown 15 = some (.iconst 1) := by decide +kernel
theorem i_X8_layDown_16 : ins MX8_layDown 16 = some (.isub) := by decide +kernel
theorem i_X8_layDown_17 : ins MX8_layDown 17 = some (.iaload) := by decide +kernel
theorem i_X8_layDown_18 : ins MX8_layDown 18 = some (.iload_n 1) := by decide +kernel
theorem i_X8_layDown_19 : ins MX8_layDown 19 = some (.if_icmp .gt 30) := by decide +kernel
theorem i_X8_layDown_22 : ins MX8_layDown 22 = some (.aload_n 0) := by decide +kernel
theorem i_X8_layDown_23 : ins MX8_layDown 23 = some (.dup) := by decide +kernel
theorem i_X8_layDown_24 : ins MX8_layDown 24 = some (.getfield 265) := by decide +kernel
theorem i_X8_layDown_27 : ins MX8_layDown 27 = some (.iconst 1) := by decide +kernel
theorem i_X8_layDown_28 : ins MX8_layDown 28 = some (.isub) := by decide +kernel
theorem i_X8_layDown_29 : ins MX8_layDown 29 = some (.putfield 265) := by decide +kernel
theorem i_X8_layDown_32 : ins MX8_layDown 32 = some (.aload_n 0) := by decide +kernel
theorem i_X8_layDown_33 : ins MX8_layDown 33 = some (.aload_n 0) := by decide +kernel
theorem i_X8_layDown_34 : ins MX8_layDown 34 = some (.getfield 74) := by decide +kernel
theorem i_X8_layDown_37 : ins MX8_layDown 37 = some (.aload_n 0) := by decide +kernel
theorem i_X8_layDown_38 : ins MX8_layDown 38 = some (.getfield 265) := by decide +kernel
theorem i_X8_layDown_41 : ins MX8_layDown 41 = some (.iaload) := by decide +kernel
theorem i_X8_layDown_42 : ins MX8_layDown 42 = some (.iconst 0) := by decide +kernel
theorem i_X8_layDown_43 : ins MX8_layDown 43 = some (.invokevirtual 268) := by decide +kernel
theorem i_X8_layDown_46 : ins MX8_layDown 46 = some (.goto (-46)) := by decide +kernel
theorem i_X8_layDown_49 : ins MX8_layDown 49 = some (.return_) := by decide +kernel
theorem i_X8_endNumber_0 : ins MX8_endNumber 0 = some (.aload_n 0) := by decide +kernel
theorem i_X8_endNumber_1 : ins MX8_endNumber 1 = some (.getfield 271) := by decide +kernel
theorem i_X8_endNumber_4 : ins MX8_endNumber 4 = some (.ifCond .eq 22) := by decide +kernel
theorem i_X8_endNumber_7 : ins MX8_endNumber 7 = some (.aload_n 0) := by decide +kernel
theorem i_X8_endNumber_8 : ins MX8_endNumber 8 = some (.iconst 3) := by decide +kernel
theorem i_X8_endNumber_9 : ins MX8_endNumber 9 = some (.aload_n 0) := by decide +kernel
theorem i_X8_endNumber_10 : ins MX8_endNumber 10 = some (.getfield 275) := by decide +kernel
theorem i_X8_endNumber_13 : ins MX8_endNumber 13 = some (.imul) := by decide +kernel
theorem i_X8_endNumber_14 : ins MX8_endNumber 14 = some (.aload_n 0) := by decide +kernel
theorem i_X8_endNumber_15 : ins MX8_endNumber 15 = some (.getfield 278) := by decide +kernel
theorem i_X8_endNumber_18 : ins MX8_endNumber 18 = some (.iadd) := by decide +kernel
theorem i_X8_endNumber_19 : ins MX8_endNumber 19 = some (.aload_n 0) := by decide +kernel
theorem i_X8_endNumber_20 : ins MX8_endNumber 20 = some (.getfield 281) := by decide +kernel
theorem i_X8_endNumber_23 : ins MX8_endNumber 23 = some (.invokevirtual 268) := by decide +kernel
theorem i_X8_endNumber_26 : ins MX8_endNumber 26 = some (.aload_n 0) := by decide +kernel
theorem i_X8_endNumber_27 : ins MX8_endNumber 27 = some (.iconst 0) := by decide +kernel
theorem i_X8_endNumber_28 : ins MX8_endNumber 28 = some (.putfield 271) := by decide +kernel
theorem i_X8_endNumber_31 : ins MX8_endNumber 31 = some (.return_) := by decide +kernel
theorem i_X8_goBehind_0 : ins MX8_goBehind 0 = some (.iload_n 1) := by decide +kernel
theorem i_X8_goBehind_1 : ins MX8_goBehind 1 = some (.bipush 38) := by decide +kernel
theorem i_X8_goBehind_3 : ins MX8_goBehind 3 = some (.if_icmp .eq 9) := by decide +kernel
theorem i_X8_goBehind_6 : ins MX8_goBehind 6 = some (.iload_n 1) := by decide +kernel
theorem i_X8_goBehind_7 : ins MX8_goBehind 7 = some (.bipush 124) := by decide +kernel
theorem i_X8_goBehind_9 : ins MX8_goBehind 9 = some (.if_icmp .ne 63) := by decide +kernel
theorem i_X8_goBehind_12 : ins MX8_goBehind 12 = some (.aload_n 0) := by decide +kernel
theorem i_X8_goBehind_13 : ins MX8_goBehind 13 = some (.invokevirtual 284) := by decide +kernel
theorem i_X8_goBehind_16 : ins MX8_goBehind 16 = some (.aload_n 0) := by decide +kernel
theorem i_X8_goBehind_17 : ins MX8_goBehind 17 = some (.iload_n 1) := by decide +kernel
theorem i_X8_goBehind_18 : ins MX8_goBehind 18 = some (.bipush 38) := by decide +kernel
theorem i_X8_goBehind_20 : ins MX8_goBehind 20 = some (.if_icmp .ne 8) := by decide +kernel
theorem i_X8_goBehind_23 : ins MX8_goBehind 23 = some (.bipush 13) := by decide +kernel
theorem i_X8_goBehind_25 : ins MX8_goBehind 25 = some (.goto 5) := by decide +kernel
theorem i_X8_goBehind_28 : ins MX8_goBehind 28 = some (.bipush 14) := by decide +kernel
theorem i_X8_goBehind_30 : ins MX8_goBehind 30 = some (.invokevirtual 287) := by decide +kernel
theorem i_X8_goBehind_33 : ins MX8_goBehind 33 = some (.aload_n 0) := by decide +kernel
theorem i_X8_goBehind_34 : ins MX8_goBehind 34 = some (.getfield 74) := by decide +kernel
theorem i_X8_goBehind_37 : ins MX8_goBehind 37 = some (.aload_n 0) := by decide +kernel
theorem i_X8_goBehind_38 : ins MX8_goBehind 38 = some (.getfield 265) := by decide +kernel
theorem i_X8_goBehind_41 : ins MX8_goBehind 41 = some (.iload_n 1) := by decide +kernel
theorem i_X8_goBehind_42 : ins MX8_goBehind 42 = some (.bipush 38) := by decide +kernel
theorem i_X8_goBehind_44 : ins MX8_goBehind 44 = some (.if_icmp .ne 8) := by decide +kernel
theorem i_X8_goBehind_47 : ins MX8_goBehind 47 = some (.bipush 13) := by decide +kernel
theorem i_X8_goBehind_49 : ins MX8_goBehind 49 = some (.goto 5) := by decide +kernel
theorem i_X8_goBehind_52 : ins MX8_goBehind 52 = some (.bipush 14) := by decide +kernel
theorem i_X8_goBehind_54 : ins MX8_goBehind 54 = some (.iastore) := by decide +kernel
theorem i_X8_goBehind_55 : ins MX8_goBehind 55 = some (.aload_n 0) := by decide +kernel
theorem i_X8_goBehind_56 : ins MX8_goBehind 56 = some (.dup) := by decide +kernel
theorem i_X8_goBehind_57 : ins MX8_goBehind 57 = some (.getfield 265) := by decide +kernel
theorem i_X8_goBehind_60 : ins MX8_goBehind 60 = some (.iconst 1) := by decide +kernel
theorem i_X8_goBehind_61 : ins MX8_goBehind 61 = some (.iadd) := by decide +kernel
theorem i_X8_goBehind_62 : ins MX8_goBehind 62 = some (.putfield 265) := by decide +kernel
theorem i_X8_goBehind_65 : ins MX8_goBehind 65 = some (.aload_n 0) := by decide +kernel
theorem i_X8_goBehind_66 : ins MX8_goBehind 66 = some (.iconst 0) := by decide +kernel
theorem i_X8_goBehind_67 : ins MX8_goBehind 67 = some (.putfield 290) := by decide +kernel
theorem i_X8_goBehind_70 : ins MX8_goBehind 70 = some (.iconst 1) := by decide +kernel
theorem i_X8_goBehind_71 : ins MX8_goBehind 71 = some (.ireturn) := by decide +kernel
theorem i_X8_goBehind_72 : ins MX8_goBehind 72 = some (.iload_n 1) := by decide +kernel
theorem i_X8_goBehind_73 : ins MX8_goBehind 73 = some (.bipush 41) := by decide +kernel
theorem i_X8_goBehind_75 : ins MX8_goBehind 75 = some (.if_icmp .ne 47) := by decide +kernel
theorem i_X8_goBehind_78 : ins MX8_goBehind 78 = some (.aload_n 0) := by decide +kernel
theorem i_X8_goBehind_79 : ins MX8_goBehind 79 = some (.getfield 293) := by decide +kernel
theorem i_X8_goBehind_82 : ins MX8_goBehind 82 = some (.ifCond .le 40) := by decide +kernel
theorem i_X8_goBehind_85 : ins MX8_goBehind 85 = some (.aload_n 0) := by decide +kernel
theorem i_X8_goBehind_86 : ins MX8_goBehind 86 = some (.invokevirtual 284) := by decide +kernel
theorem i_X8_goBehind_89 : ins MX8_goBehind 89 = some (.aload_n 0) := by decide +kernel
theorem i_X8_goBehind_90 : ins MX8_goBehind 90 = some (.bipush 14) := by decide +kernel
theorem i_X8_goBehind_92 : ins MX8_goBehind 92 = some (.invokevirtual 287) := by decide +kernel
theorem i_X8_goBehind_95 : ins MX8_goBehind 95 = some (.aload_n 0) := by decide +kernel
theorem i_X8_goBehind_96 : ins MX8_goBehind 96 = some (.dup) := by decide +kernel
theorem i_X8_goBehind_97 : ins MX8_goBehind 97 = some (.getfield 265) := by decide +kernel
theorem i_X8_goBehind_100 : ins MX8_goBehind 100 = some (.iconst 1) := by decide +kernel
theorem i_X8_goBehind_101 : ins MX8_goBehind 101 = some (.isub) := by decide +kernel
theorem i_X8_goBehind_102 : ins MX8_goBehind 102 = some (.putfield 265) := by decide +kernel
theorem i_X8_goBehind_105 : ins MX8_goBehind 105 = some (.aload_n 0) := by decide +kernel
theorem i_X8_goBehind_106 : ins MX8_goBehind 106 = some (.dup) := by decide +kernel
theorem i_X8_goBehind_107 : ins MX8_goBehind 107 = some (.getfield 293) := by decide +kernel
theorem i_X8_goBehind_110 : ins MX8_goBehind 110 = some (.iconst 1) := by decide +kernel
theorem i_X8_goBehind_111 : ins MX8_goBehind 111 = some (.isub) := by decide +kernel
theorem i_X8_goBehind_112 : ins MX8_goBehind 112 = some (.putfield 293) := by decide +kernel
theorem i_X8_goBehind_115 : ins MX8_goBehind 115 = some (.aload_n 0) := by decide +kernel
theorem i_X8_goBehind_116 : ins MX8_goBehind 116 = some (.iconst 4) := by decide +kernel
theorem i_X8_goBehind_117 : ins MX8_goBehind 117 = some (.putfield 290) := by decide +kernel
theorem i_X8_goBehind_120 : ins MX8_goBehind 120 = some (.iconst 1) := by decide +kernel
theorem i_X8_goBehind_121 : ins MX8_goBehind 121 = some (.ireturn) := by decide +kernel
theorem i_X8_goBehind_122 : ins MX8_goBehind 122 = some (.iconst 0) := by decide +kernel
theorem i_X8_goBehind_123 : ins MX8_goBehind 123 = some (.ireturn) := by decide +kernel
theorem i_X8_go_0 : ins MX8_go 0 = some (.aload_n 0) := by decide +kernel
theorem i_X8_go_1 : ins MX8_go 1 = some (.getfield 290) := by decide +kernel
theorem i_X8_go_4 : ins MX8_go 4 = some (.tableswitch 247 0 3 #[32, 119, 173, 204]) := by decide +kernel
theorem i_X8_go_36 : ins MX8_go 36 = some (.iload_n 1) := by decide +kernel
theorem i_X8_go_37 : ins MX8_go 37 = some (.bipush 33) := by decide +kernel
theorem i_X8_go_39 : ins MX8_go 39 = some (.if_icmp .eq 9) := by decide +kernel
theorem i_X8_go_42 : ins MX8_go 42 = some (.iload_n 1) := by decide +kernel
theorem i_X8_go_43 : ins MX8_go 43 = some (.bipush 40) := by decide +kernel
theorem i_X8_go_45 : ins MX8_go 45 = some (.if_icmp .ne 57) := by decide +kernel
theorem i_X8_go_48 : ins MX8_go 48 = some (.aload_n 0) := by decide +kernel
theorem i_X8_go_49 : ins MX8_go 49 = some (.getfield 74) := by decide +kernel
theorem i_X8_go_52 : ins MX8_go 52 = some (.aload_n 0) := by decide +kernel
theorem i_X8_go_53 : ins MX8_go 53 = some (.getfield 265) := by decide +kernel
theorem i_X8_go_56 : ins MX8_go 56 = some (.iload_n 1) := by decide +kernel
theorem i_X8_go_57 : ins MX8_go 57 = some (.bipush 33) := by decide +kernel
theorem i_X8_go_59 : ins MX8_go 59 = some (.if_icmp .ne 8) := by decide +kernel
theorem i_X8_go_62 : ins MX8_go 62 = some (.bipush 12) := by decide +kernel
theorem i_X8_go_64 : ins MX8_go 64 = some (.goto 5) := by decide +kernel
theorem i_X8_go_67 : ins MX8_go 67 = some (.bipush 15) := by decide +kernel
theorem i_X8_go_69 : ins MX8_go 69 = some (.iastore) := by decide +kernel
theorem i_X8_go_70 : ins MX8_go 70 = some (.aload_n 0) := by decide +kernel
theorem i_X8_go_71 : ins MX8_go 71 = some (.dup) := by decide +kernel
theorem i_X8_go_72 : ins MX8_go 72 = some (.getfield 265) := by decide +kernel
theorem i_X8_go_75 : ins MX8_go 75 = some (.iconst 1) := by decide +kernel
theorem i_X8_go_76 : ins MX8_go 76 = some (.iadd) := by decide +kernel
theorem i_X8_go_77 : ins MX8_go 77 = some (.putfield 265) := by decide +kernel
theorem i_X8_go_80 : ins MX8_go 80 = some (.aload_n 0) := by decide +kernel
theorem i_X8_go_81 : ins MX8_go 81 = some (.dup) := by decide +kernel
theorem i_X8_go_82 : ins MX8_go 82 = some (.getfield 293) := by decide +kernel
theorem i_X8_go_85 : ins MX8_go 85 = some (.iload_n 1) := by decide +kernel
theorem i_X8_go_86 : ins MX8_go 86 = some (.bipush 40) := by decide +kernel
theorem i_X8_go_88 : ins MX8_go 88 = some (.if_icmp .ne 7) := by decide +kernel
theorem i_X8_go_91 : ins MX8_go 91 = some (.iconst 1) := by decide +kernel
theorem i_X8_go_92 : ins MX8_go 92 = some (.goto 4) := by decide +kernel
theorem i_X8_go_95 : ins MX8_go 95 = some (.iconst 0) := by decide +kernel
theorem i_X8_go_96 : ins MX8_go 96 = some (.iadd) := by decide +kernel
theorem i_X8_go_97 : ins MX8_go 97 = some (.putfield 293) := by decide +kernel
theorem i_X8_go_100 : ins MX8_go 100 = some (.iconst 1) := by decide +kernel
theorem i_X8_go_101 : ins MX8_go 101 = some (.ireturn) := by decide +kernel
theorem i_X8_go_102 : ins MX8_go 102 = some (.aload_n 0) := by decide +kernel
theorem i_X8_go_103 : ins MX8_go 103 = some (.iload_n 1) := by decide +kernel
theorem i_X8_go_104 : ins MX8_go 104 = some (.bipush 97) := by decide +kernel
theorem i_X8_go_106 : ins MX8_go 106 = some (.isub) := by decide +kernel
theorem i_X8_go_107 : ins MX8_go 107 = some (.putfield 275) := by decide +kernel
theorem i_X8_go_110 : ins MX8_go 110 = some (.aload_n 0) := by decide +kernel
theorem i_X8_go_111 : ins MX8_go 111 = some (.iconst 1) := by decide +kernel
theorem i_X8_go_112 : ins MX8_go 112 = some (.putfield 290) := by decide +kernel
theorem i_X8_go_115 : ins MX8_go 115 = some (.aload_n 0) := by decide +kernel
theorem i_X8_go_116 : ins MX8_go 116 = some (.getfield 275) := by decide +kernel
theorem i_X8_go_119 : ins MX8_go 119 = some (.invokestatic 94) := by decide +kernel
theorem i_X8_go_122 : ins MX8_go 122 = some (.ireturn) := by decide +kernel
theorem i_X8_go_123 : ins MX8_go 123 = some (.aload_n 0) := by decide +kernel
theorem i_X8_go_124 : ins MX8_go 124 = some (.iload_n 1) := by decide +kernel
theorem i_X8_go_125 : ins MX8_go 125 = some (.bipush 60) := by decide +kernel
theorem i_X8_go_127 : ins MX8_go 127 = some (.if_icmp .ne 7) := by decide +kernel
theorem i_X8_go_130 : ins MX8_go 130 = some (.iconst 0) := by decide +kernel
theorem i_X8_go_131 : ins MX8_go 131 = some (.goto 14) := by decide +kernel
theorem i_X8_go_134 : ins MX8_go 134 = some (.iload_n 1) := by decide +kernel
theorem i_X8_go_135 : ins MX8_go 135 = some (.bipush 61) := by decide +kernel
theorem i_X8_go_137 : ins MX8_go 137 = some (.if_icmp .ne 7) := by decide +kernel
theorem i_X8_go_140 : ins MX8_go 140 = some (.iconst 1) := by decide +kernel
theorem i_X8_go_141 : ins MX8_go 141 = some (.goto 4) := by decide +kernel
theorem i_X8_go_144 : ins MX8_go 144 = some (.iconst 2) := by decide +kernel
theorem i_X8_go_145 : ins MX8_go 145 = some (.putfield 278) := by decide +kernel
theorem i_X8_go_148 : ins MX8_go 148 = some (.aload_n 0) := by decide +kernel
theorem i_X8_go_149 : ins MX8_go 149 = some (.iconst 2) := by decide +kernel
theorem i_X8_go_150 : ins MX8_go 150 = some (.putfield 290) := by decide +kernel
theorem i_X8_go_153 : ins MX8_go 153 = some (.iload_n 1) := by decide +kernel
theorem i_X8_go_154 : ins MX8_go 154 = some (.bipush 60) := by decide +kernel
theorem i_X8_go_156 : ins MX8_go 156 = some (.if_icmp .eq 15) := by decide +kernel
theorem i_X8_go_159 : ins MX8_go 159 = some (.iload_n 1) := by decide +kernel
theorem i_X8_go_160 : ins MX8_go 160 = some (.bipush 61) := by decide +kernel
theorem i_X8_go_162 : ins MX8_go 162 = some (.if_icmp .eq 9) := by decide +kernel
theorem i_X8_go_165 : ins MX8_go 165 = some (.iload_n 1) := by decide +kernel
theorem i_X8_go_166 : ins MX8_go 166 = some (.bipush 62) := by decide +kernel
theorem i_X8_go_168 : ins MX8_go 168 = some (.if_icmp .ne 7) := by decide +kernel
theorem i_X8_go_171 : ins MX8_go 171 = some (.iconst 1) := by decide +kernel
theorem i_X8_go_172 : ins MX8_go 172 = some (.goto 4) := by decide +kernel
theorem i_X8_go_175 : ins MX8_go 175 = some (.iconst 0) := by decide +kernel
theorem i_X8_go_176 : ins MX8_go 176 = some (.ireturn) := by decide +kernel
theorem i_X8_go_177 : ins MX8_go 177 = some (.aload_n 0) := by decide +kernel
theorem i_X8_go_178 : ins MX8_go 178 = some (.iload_n 1) := by decide +kernel
theorem i_X8_go_179 : ins MX8_go 179 = some (.bipush 48) := by decide +kernel
theorem i_X8_go_181 : ins MX8_go 181 = some (.isub) := by decide +kernel
theorem i_X8_go_182 : ins MX8_go 182 = some (.putfield 281) := by decide +kernel
theorem i_X8_go_185 : ins MX8_go 185 = some (.aload_n 0) := by decide +kernel
theorem i_X8_go_186 : ins MX8_go 186 = some (.iconst 1) := by decide +kernel
theorem i_X8_go_187 : ins MX8_go 187 = some (.putfield 271) := by decide +kernel
theorem i_X8_go_190 : ins MX8_go 190 = some (.aload_n 0) := by decide +kernel
theorem i_X8_go_191 : ins MX8_go 191 = some (.iconst 3) := by decide +kernel
theorem i_X8_go_192 : ins MX8_go 192 = some (.putfield 290) := by decide +kernel
theorem i_X8_go_195 : ins MX8_go 195 = some (.aload_n 0) := by decide +kernel
theorem i_X8_go_196 : ins MX8_go 196 = some (.getfield 281) := by decide +kernel
theorem i_X8_go_199 : ins MX8_go 199 = some (.i2l) := by decide +kernel
theorem i_X8_go_200 : ins MX8_go 200 = some (.lconst 0) := by decide +kernel
theorem i_X8_go_201 : ins MX8_go 201 = some (.ldc2_w 223) := by decide +kernel
theorem i_X8_go_204 : ins MX8_go 204 = some (.invokestatic 88) := by decide +kernel
theorem i_X8_go_207 : ins MX8_go 207 = some (.ireturn) := by decide +kernel
theorem i_X8_go_208 : ins MX8_go 208 = some (.iload_n 1) := by decide +kernel
theorem i_X8_go_209 : ins MX8_go 209 = some (.i2l) := by decide +kernel
theorem i_X8_go_210 : ins MX8_go 210 = some (.ldc2_w 296) := by decide +kernel
theorem i_X8_go_213 : ins MX8_go 213 = some (.ldc2_w 298) := by decide +kernel
theorem i_X8_go_216 : ins MX8_go 216 = some (.invokestatic 88) := by decide +kernel
theorem i_X8_go_219 : ins MX8_go 219 = some (.ifCond .eq 26) := by decide +kernel
theorem i_X8_go_222 : ins MX8_go 222 = some (.aload_n 0) := by decide +kernel
theorem i_X8_go_223 : ins MX8_go 223 = some (.bipush 10) := by decide +kernel
theorem i_X8_go_225 : ins MX8_go 225 = some (.aload_n 0) := by decide +kernel
theorem i_X8_go_226 : ins MX8_go 226 = some (.getfield 281) := by decide +kernel
theorem i_X8_go_229 : ins MX8_go 229 = some (.imul) := by decide +kernel
theorem i_X8_go_230 : ins MX8_go 230 = some (.iload_n 1) := by decide +kernel
theorem i_X8_go_231 : ins MX8_go 231 = some (.iadd) := by decide +kernel
theorem i_X8_go_232 : ins MX8_go 232 = some (.bipush 48) := by decide +kernel
theorem i_X8_go_234 : ins MX8_go 234 = some (.isub) := by decide +kernel
theorem i_X8_go_235 : ins MX8_go 235 = some (.putfield 281) := by decide +kernel
theorem i_X8_go_238 : ins MX8_go 238 = some (.aload_n 0) := by decide +kernel
theorem i_X8_go_239 : ins MX8_go 239 = some (.iconst 4) := by decide +kernel
theorem i_X8_go_240 : ins MX8_go 240 = some (.putfield 290) := by decide +kernel
theorem i_X8_go_243 : ins MX8_go 243 = some (.iconst 1) := by decide +kernel
theorem i_X8_go_244 : ins MX8_go 244 = some (.ireturn) := by decide +kernel
theorem i_X8_go_245 : ins MX8_go 245 = some (.aload_n 0) := by decide +kernel
theorem i_X8_go_246 : ins MX8_go 246 = some (.iload_n 1) := by decide +kernel
theorem i_X8_go_247 : ins MX8_go 247 = some (.invokevirtual 300) := by decide +kernel
theorem i_X8_go_250 : ins MX8_go 250 = some (.ireturn) := by decide +kernel
theorem i_X8_go_251 : ins MX8_go 251 = some (.aload_n 0) := by decide +kernel
theorem i_X8_go_252 : ins MX8_go 252 = some (.iload_n 1) := by decide +kernel
theorem i_X8_go_253 : ins MX8_go 253 = some (.invokevirtual 300) := by decide +kernel
theorem i_X8_go_256 : ins MX8_go 256 = some (.ireturn) := by decide +kernel
theorem i_X8_goodOf_0 : ins MX8_goodOf 0 = some (.aload_n 0) := by decide +kernel
theorem i_X8_goodOf_1 : ins MX8_goodOf 1 = some (.iconst 0) := by decide +kernel
theorem i_X8_goodOf_2 : ins MX8_goodOf 2 = some (.putfield 290) := by decide +kernel
theorem i_X8_goodOf_5 : ins MX8_goodOf 5 = some (.aload_n 0) := by decide +kernel
theorem i_X8_goodOf_6 : ins MX8_goodOf 6 = some (.iconst 0) := by decide +kernel
theorem i_X8_goodOf_7 : ins MX8_goodOf 7 = some (.putfield 293) := by decide +kernel
theorem i_X8_goodOf_10 : ins MX8_goodOf 10 = some (.aload_n 0) := by decide +kernel
theorem i_X8_goodOf_11 : ins MX8_goodOf 11 = some (.iconst 0) := by decide +kernel
theorem i_X8_goodOf_12 : ins MX8_goodOf 12 = some (.putfield 271) := by decide +kernel
theorem i_X8_goodOf_15 : ins MX8_goodOf 15 = some (.aload_n 0) := by decide +kernel
theorem i_X8_goodOf_16 : ins MX8_goodOf 16 = some (.iconst 0) := by decide +kernel
theorem i_X8_goodOf_17 : ins MX8_goodOf 17 = some (.putfield 262) := by decide +kernel
theorem i_X8_goodOf_20 : ins MX8_goodOf 20 = some (.aload_n 0) := by decide +kernel
theorem i_X8_goodOf_21 : ins MX8_goodOf 21 = some (.iconst 0) := by decide +kernel
theorem i_X8_goodOf_22 : ins MX8_goodOf 22 = some (.putfield 265) := by decide +kernel
theorem i_X8_goodOf_25 : ins MX8_goodOf 25 = some (.iconst 0) := by decide +kernel
theorem i_X8_goodOf_26 : ins MX8_goodOf 26 = some (.istore_n 1) := by decide +kernel
theorem i_X8_goodOf_27 : ins MX8_goodOf 27 = some (.iload_n 1) := by decide +kernel
theorem i_X8_goodOf_28 : ins MX8_goodOf 28 = some (.aload_n 0) := by decide +kernel
theorem i_X8_goodOf_29 : ins MX8_goodOf 29 = some (.getfield 259) := by decide +kernel
theorem i_X8_goodOf_32 : ins MX8_goodOf 32 = some (.if_icmp .ge 22) := by decide +kernel
theorem i_X8_goodOf_35 : ins MX8_goodOf 35 = some (.aload_n 0) := by decide +kernel
theorem i_X8_goodOf_36 : ins MX8_goodOf 36 = some (.aload_n 0) := by decide +kernel
theorem i_X8_goodOf_37 : ins MX8_goodOf 37 = some (.getfield 56) := by decide +kernel
theorem i_X8_goodOf_40 : ins MX8_goodOf 40 = some (.iload_n 1) := by decide +kernel
theorem i_X8_goodOf_41 : ins MX8_goodOf 41 = some (.iaload) := by decide +kernel
theorem i_X8_goodOf_42 : ins MX8_goodOf 42 = some (.invokevirtual 303) := by decide +kernel
theorem i_X8_goodOf_45 : ins MX8_goodOf 45 = some (.ifCond .eq 9) := by decide +kernel
theorem i_X8_goodOf_48 : ins MX8_goodOf 48 = some (.iinc 1 1) := by decide +kernel
theorem i_X8_goodOf_51 : ins MX8_goodOf 51 = some (.goto (-24)) := by decide +kernel
theorem i_X8_goodOf_54 : ins MX8_goodOf 54 = some (.iload_n 1) := by decide +kernel
theorem i_X8_goodOf_55 : ins MX8_goodOf 55 = some (.ireturn) := by decide +kernel
theorem i_X8_good_0 : ins MX8_good 0 = some (.aload_n 0) := by decide +kernel
theorem i_X8_good_1 : ins MX8_good 1 = some (.invokevirtual 306) := by decide +kernel
theorem i_X8_good_4 : ins MX8_good 4 = some (.ireturn) := by decide +kernel
theorem i_X8_ask_0 : ins MX8_ask 0 = some (.aload_n 0) := by decide +kernel
theorem i_X8_ask_1 : ins MX8_ask 1 = some (.invokevirtual 306) := by decide +kernel
theorem i_X8_ask_4 : ins MX8_ask 4 = some (.aload_n 0) := by decide +kernel
theorem i_X8_ask_5 : ins MX8_ask 5 = some (.getfield 259) := by decide +kernel
theorem i_X8_ask_8 : ins MX8_ask 8 = some (.if_icmp .lt 18) := by decide +kernel
theorem i_X8_ask_11 : ins MX8_ask 11 = some (.aload_n 0) := by decide +kernel
theorem i_X8_ask_12 : ins MX8_ask 12 = some (.getfield 290) := by decide +kernel
theorem i_X8_ask_15 : ins MX8_ask 15 = some (.iconst 3) := by decide +kernel
theorem i_X8_ask_16 : ins MX8_ask 16 = some (.if_icmp .lt 10) := by decide +kernel
theorem i_X8_ask_19 : ins MX8_ask 19 = some (.aload_n 0) := by decide +kernel
theorem i_X8_ask_20 : ins MX8_ask 20 = some (.getfield 293) := by decide +kernel
theorem i_X8_ask_23 : ins MX8_ask 23 = some (.ifCond .le 6) := by decide +kernel
theorem i_X8_ask_26 : ins MX8_ask 26 = some (.bipush (-103)) := by decide +kernel
theorem i_X8_ask_28 : ins MX8_ask 28 = some (.ireturn) := by decide +kernel
theorem i_X8_ask_29 : ins MX8_ask 29 = some (.aload_n 0) := by decide +kernel
theorem i_X8_ask_30 : ins MX8_ask 30 = some (.getfield 309) := by decide +kernel
theorem i_X8_ask_33 : ins MX8_ask 33 = some (.bipush 8) := by decide +kernel
theorem i_X8_ask_35 : ins MX8_ask 35 = some (.if_icmp .ne 6) := by decide +kernel
theorem i_X8_ask_38 : ins MX8_ask 38 = some (.bipush (-104)) := by decide +kernel
theorem i_X8_ask_40 : ins MX8_ask 40 = some (.ireturn) := by decide +kernel
theorem i_X8_ask_41 : ins MX8_ask 41 = some (.aload_n 0) := by decide +kernel
theorem i_X8_ask_42 : ins MX8_ask 42 = some (.invokevirtual 284) := by decide +kernel
theorem i_X8_ask_45 : ins MX8_ask 45 = some (.aload_n 0) := by decide +kernel
theorem i_X8_ask_46 : ins MX8_ask 46 = some (.bipush 14) := by decide +kernel
theorem i_X8_ask_48 : ins MX8_ask 48 = some (.invokevirtual 287) := by decide +kernel
theorem i_X8_ask_51 : ins MX8_ask 51 = some (.aload_n 0) := by decide +kernel
theorem i_X8_ask_52 : ins MX8_ask 52 = some (.getfield 59) := by decide +kernel
theorem i_X8_ask_55 : ins MX8_ask 55 = some (.aload_n 0) := by decide +kernel
theorem i_X8_ask_56 : ins MX8_ask 56 = some (.getfield 309) := by decide +kernel
theorem i_X8_ask_59 : ins MX8_ask 59 = some (.aload_n 0) := by decide +kernel
theorem i_X8_ask_60 : ins MX8_ask 60 = some (.getfield 262) := by decide +kernel
theorem i_X8_ask_63 : ins MX8_ask 63 = some (.iastore) := by decide +kernel
theorem i_X8_ask_64 : ins MX8_ask 64 = some (.iconst 0) := by decide +kernel
theorem i_X8_ask_65 : ins MX8_ask 65 = some (.istore_n 1) := by decide +kernel
theorem i_X8_ask_66 : ins MX8_ask 66 = some (.iload_n 1) := by decide +kernel
theorem i_X8_ask_67 : ins MX8_ask 67 = some (.aload_n 0) := by decide +kernel
theorem i_X8_ask_68 : ins MX8_ask 68 = some (.getfield 262) := by decide +kernel
theorem i_X8_ask_71 : ins MX8_ask 71 = some (.if_icmp .ge 49) := by decide +kernel
theorem i_X8_ask_74 : ins MX8_ask 74 = some (.aload_n 0) := by decide +kernel
theorem i_X8_ask_75 : ins MX8_ask 75 = some (.getfield 62) := by decide +kernel
theorem i_X8_ask_78 : ins MX8_ask 78 = some (.bipush 60) := by decide +kernel
theorem i_X8_ask_80 : ins MX8_ask 80 = some (.aload_n 0) := by decide +kernel
theorem i_X8_ask_81 : ins MX8_ask 81 = some (.getfield 309) := by decide +kernel
theorem i_X8_ask_84 : ins MX8_ask 84 = some (.imul) := by decide +kernel
theorem i_X8_ask_85 : ins MX8_ask 85 = some (.iload_n 1) := by decide +kernel
theorem i_X8_ask_86 : ins MX8_ask 86 = some (.iadd) := by decide +kernel
theorem i_X8_ask_87 : ins MX8_ask 87 = some (.aload_n 0) := by decide +kernel
theorem i_X8_ask_88 : ins MX8_ask 88 = some (.getfield 68) := by decide +kernel
theorem i_X8_ask_91 : ins MX8_ask 91 = some (.iload_n 1) := by decide +kernel
theorem i_X8_ask_92 : ins MX8_ask 92 = some (.iaload) := by decide +kernel
theorem i_X8_ask_93 : ins MX8_ask 93 = some (.iastore) := by decide +kernel
theorem i_X8_ask_94 : ins MX8_ask 94 = some (.aload_n 0) := by decide +kernel
theorem i_X8_ask_95 : ins MX8_ask 95 = some (.getfield 65) := by decide +kernel
theorem i_X8_ask_98 : ins MX8_ask 98 = some (.bipush 60) := by decide +kernel
theorem i_X8_ask_100 : ins MX8_ask 100 = some (.aload_n 0) := by decide +kernel
theorem i_X8_ask_101 : ins MX8_ask 101 = some (.getfield 309) := by decide +kernel
theorem i_X8_ask_104 : ins MX8_ask 104 = some (.imul) := by decide +kernel
theorem i_X8_ask_105 : ins MX8_ask 105 = some (.iload_n 1) := by decide +kernel
theorem i_X8_ask_106 : ins MX8_ask 106 = some (.iadd) := by decide +kernel
theorem i_X8_ask_107 : ins MX8_ask 107 = some (.aload_n 0) := by decide +kernel
theorem i_X8_ask_108 : ins MX8_ask 108 = some (.getfield 71) := by decide +kernel
theorem i_X8_ask_111 : ins MX8_ask 111 = some (.iload_n 1) := by decide +kernel
theorem i_X8_ask_112 : ins MX8_ask 112 = some (.iaload) := by decide +kernel
theorem i_X8_ask_113 : ins MX8_ask 113 = some (.iastore) := by decide +kernel
theorem i_X8_ask_114 : ins MX8_ask 114 = some (.iinc 1 1) := by decide +kernel
theorem i_X8_ask_117 : ins MX8_ask 117 = some (.goto (-51)) := by decide +kernel
theorem i_X8_ask_120 : ins MX8_ask 120 = some (.aload_n 0) := by decide +kernel
theorem i_X8_ask_121 : ins MX8_ask 121 = some (.dup) := by decide +kernel
theorem i_X8_ask_122 : ins MX8_ask 122 = some (.getfield 309) := by decide +kernel
theorem i_X8_ask_125 : ins MX8_ask 125 = some (.iconst 1) := by decide +kernel
theorem i_X8_ask_126 : ins MX8_ask 126 = some (.iadd) := by decide +kernel
theorem i_X8_ask_127 : ins MX8_ask 127 = some (.putfield 309) := by decide +kernel
theorem i_X8_ask_130 : ins MX8_ask 130 = some (.aload_n 0) := by decide +kernel
theorem i_X8_ask_131 : ins MX8_ask 131 = some (.iconst 0) := by decide +kernel
theorem i_X8_ask_132 : ins MX8_ask 132 = some (.putfield 259) := by decide +kernel
theorem i_X8_ask_135 : ins MX8_ask 135 = some (.aload_n 0) := by decide +kernel
theorem i_X8_ask_136 : ins MX8_ask 136 = some (.getfield 309) := by decide +kernel
theorem i_X8_ask_139 : ins MX8_ask 139 = some (.iconst 1) := by decide +kernel
theorem i_X8_ask_140 : ins MX8_ask 140 = some (.isub) := by decide +kernel
theorem i_X8_ask_141 : ins MX8_ask 141 = some (.ireturn) := by decide +kernel
theorem i_X8_isQuestion_0 : ins MX8_isQuestion 0 = some (.iload_n 1) := by decide +kernel
theorem i_X8_isQuestion_1 : ins MX8_isQuestion 1 = some (.i2l) := by decide +kernel
theorem i_X8_isQuestion_2 : ins MX8_isQuestion 2 = some (.lconst 0) := by decide +kernel
theorem i_X8_isQuestion_3 : ins MX8_isQuestion 3 = some (.aload_n 0) := by decide +kernel
theorem i_X8_isQuestion_4 : ins MX8_isQuestion 4 = some (.getfield 309) := by decide +kernel
theorem i_X8_isQuestion_7 : ins MX8_isQuestion 7 = some (.iconst 1) := by decide +kernel
theorem i_X8_isQuestion_8 : ins MX8_isQuestion 8 = some (.isub) := by decide +kernel
theorem i_X8_isQuestion_9 : ins MX8_isQuestion 9 = some (.i2l) := by decide +kernel
theorem i_X8_isQuestion_10 : ins MX8_isQuestion 10 = some (.invokestatic 88) := by decide +kernel
theorem i_X8_isQuestion_13 : ins MX8_isQuestion 13 = some (.ireturn) := by decide +kernel
theorem i_X8_holdsFor_0 : ins MX8_holdsFor 0 = some (.iconst 0) := by decide +kernel
theorem i_X8_holdsFor_1 : ins MX8_holdsFor 1 = some (.istore_n 3) := by decide +kernel
theorem i_X8_holdsFor_2 : ins MX8_holdsFor 2 = some (.iconst 0) := by decide +kernel
theorem i_X8_holdsFor_3 : ins MX8_holdsFor 3 = some (.istore 4) := by decide +kernel
theorem i_X8_holdsFor_5 : ins MX8_holdsFor 5 = some (.iload 4) := by decide +kernel
theorem i_X8_holdsFor_7 : ins MX8_holdsFor 7 = some (.aload_n 0) := by decide +kernel
theorem i_X8_holdsFor_8 : ins MX8_holdsFor 8 = some (.getfield 59) := by decide +kernel
theorem i_X8_holdsFor_11 : ins MX8_holdsFor 11 = some (.iload_n 1) := by decide +kernel
theorem i_X8_holdsFor_12 : ins MX8_holdsFor 12 = some (.iaload) := by decide +kernel
theorem i_X8_holdsFor_13 : ins MX8_holdsFor 13 = some (.if_icmp .ge 233) := by decide +kernel
theorem i_X8_holdsFor_16 : ins MX8_holdsFor 16 = some (.aload_n 0) := by decide +kernel
theorem i_X8_holdsFor_17 : ins MX8_holdsFor 17 = some (.getfield 62) := by decide +kernel
theorem i_X8_holdsFor_20 : ins MX8_holdsFor 20 = some (.bipush 60) := by decide +kernel
theorem i_X8_holdsFor_22 : ins MX8_holdsFor 22 = some (.iload_n 1) := by decide +kernel
theorem i_X8_holdsFor_23 : ins MX8_holdsFor 23 = some (.imul) := by decide +kernel
theorem i_X8_holdsFor_24 : ins MX8_holdsFor 24 = some (.iload 4) := by decide +kernel
theorem i_X8_holdsFor_26 : ins MX8_holdsFor 26 = some (.iadd) := by decide +kernel
theorem i_X8_holdsFor_27 : ins MX8_holdsFor 27 = some (.iaload) := by decide +kernel
theorem i_X8_holdsFor_28 : ins MX8_holdsFor 28 = some (.istore 5) := by decide +kernel
theorem i_X8_holdsFor_30 : ins MX8_holdsFor 30 = some (.iload 5) := by decide +kernel
theorem i_X8_holdsFor_32 : ins MX8_holdsFor 32 = some (.bipush 12) := by decide +kernel
theorem i_X8_holdsFor_34 : ins MX8_holdsFor 34 = some (.if_icmp .ge 101) := by decide +kernel
theorem i_X8_holdsFor_37 : ins MX8_holdsFor 37 = some (.aload_n 0) := by decide +kernel
theorem i_X8_holdsFor_38 : ins MX8_holdsFor 38 = some (.getfield 13) := by decide +kernel
theorem i_X8_holdsFor_41 : ins MX8_holdsFor 41 = some (.iconst 4) := by decide +kernel
theorem i_X8_holdsFor_42 : ins MX8_holdsFor 42 = some (.iload_n 2) := by decide +kernel
theorem i_X8_holdsFor_43 : ins MX8_holdsFor 43 = some (.imul) := by decide +kernel
theorem i_X8_holdsFor_44 : ins MX8_holdsFor 44 = some (.iload 5) := by decide +kernel
theorem i_X8_holdsFor_46 : ins MX8_holdsFor 46 = some (.iconst 3) := by decide +kernel
theorem i_X8_holdsFor_47 : ins MX8_holdsFor 47 = some (.idiv) := by decide +kernel
theorem i_X8_holdsFor_48 : ins MX8_holdsFor 48 = some (.iadd) := by decide +kernel
theorem i_X8_holdsFor_49 : ins MX8_holdsFor 49 = some (.iaload) := by decide +kernel
theorem i_X8_holdsFor_50 : ins MX8_holdsFor 50 = some (.istore 6) := by decide +kernel
theorem i_X8_holdsFor_52 : ins MX8_holdsFor 52 = some (.aload_n 0) := by decide +kernel
theorem i_X8_holdsFor_53 : ins MX8_holdsFor 53 = some (.getfield 65) := by decide +kernel
theorem i_X8_holdsFor_56 : ins MX8_holdsFor 56 = some (.bipush 60) := by decide +kernel
theorem i_X8_holdsFor_58 : ins MX8_holdsFor 58 = some (.iload_n 1) := by decide +kernel
theorem i_X8_holdsFor_59 : ins MX8_holdsFor 59 = some (.imul) := by decide +kernel
theorem i_X8_holdsFor_60 : ins MX8_holdsFor 60 = some (.iload 4) := by decide +kernel
theorem i_X8_holdsFor_62 : ins MX8_holdsFor 62 = some (.iadd) := by decide +kernel
theorem i_X8_holdsFor_63 : ins MX8_holdsFor 63 = some (.iaload) := by decide +kernel
theorem i_X8_holdsFor_64 : ins MX8_holdsFor 64 = some (.istore 7) := by decide +kernel
theorem i_X8_holdsFor_66 : ins MX8_holdsFor 66 = some (.aload_n 0) := by decide +kernel
theorem i_X8_holdsFor_67 : ins MX8_holdsFor 67 = some (.getfield 77) := by decide +kernel
theorem i_X8_holdsFor_70 : ins MX8_holdsFor 70 = some (.iload_n 3) := by decide +kernel
theorem i_X8_holdsFor_71 : ins MX8_holdsFor 71 = some (.iload 5) := by decide +kernel
theorem i_X8_holdsFor_73 : ins MX8_holdsFor 73 = some (.iconst 3) := by decide +kernel
theorem i_X8_holdsFor_74 : ins MX8_holdsFor 74 = some (.irem) := by decide +kernel
theorem i_X8_holdsFor_75 : ins MX8_holdsFor 75 = some (.ifCond .ne 18) := by decide +kernel
theorem i_X8_holdsFor_78 : ins MX8_holdsFor 78 = some (.iload 6) := by decide +kernel
theorem i_X8_holdsFor_80 : ins MX8_holdsFor 80 = some (.iload 7) := by decide +kernel
theorem i_X8_holdsFor_82 : ins MX8_holdsFor 82 = some (.if_icmp .ge 7) := by decide +kernel
theorem i_X8_holdsFor_85 : ins MX8_holdsFor 85 = some (.iconst 1) := by decide +kernel
theorem i_X8_holdsFor_86 : ins MX8_holdsFor 86 = some (.goto 42) := by decide +kernel
theorem i_X8_holdsFor_89 : ins MX8_holdsFor 89 = some (.iconst 0) := by decide +kernel
theorem i_X8_holdsFor_90 : ins MX8_holdsFor 90 = some (.goto 38) := by decide +kernel
theorem i_X8_holdsFor_93 : ins MX8_holdsFor 93 = some (.iload 5) := by decide +kernel
theorem i_X8_holdsFor_95 : ins MX8_holdsFor 95 = some (.iconst 3) := by decide +kernel
theorem i_X8_holdsFor_96 : ins MX8_holdsFor 96 = some (.irem) := by decide +kernel
theorem i_X8_holdsFor_97 : ins MX8_holdsFor 97 = some (.iconst 1) := by decide +kernel
theorem i_X8_holdsFor_98 : ins MX8_holdsFor 98 = some (.if_icmp .ne 18) := by decide +kernel
theorem i_X8_holdsFor_101 : ins MX8_holdsFor 101 = some (.iload 6) := by decide +kernel
theorem i_X8_holdsFor_103 : ins MX8_holdsFor 103 = some (.iload 7) := by decide +kernel
theorem i_X8_holdsFor_105 : ins MX8_holdsFor 105 = some (.if_icmp .ne 7) := by decide +kernel
theorem i_X8_holdsFor_108 : ins MX8_holdsFor 108 = some (.iconst 1) := by decide +kernel
theorem i_X8_holdsFor_109 : ins MX8_holdsFor 109 = some (.goto 19) := by decide +kernel
theorem i_X8_holdsFor_112 : ins MX8_holdsFor 112 = some (.iconst 0) := by decide +kernel
theorem i_X8_holdsFor_113 : ins MX8_holdsFor 113 = some (.goto 15) := by decide +kernel
theorem i_X8_holdsFor_116 : ins MX8_holdsFor 116 = some (.iload 6) := by decide +kernel
theorem i_X8_holdsFor_118 : ins MX8_holdsFor 118 = some (.iload 7) := by decide +kernel
theorem i_X8_holdsFor_120 : ins MX8_holdsFor 120 = some (.if_icmp .le 7) := by decide +kernel
theorem i_X8_holdsFor_123 : ins MX8_holdsFor 123 = some (.iconst 1) := by decide +kernel
theorem i_X8_holdsFor_124 : ins MX8_holdsFor 124 = some (.goto 4) := by decide +kernel
theorem i_X8_holdsFor_127 : ins MX8_holdsFor 127 = some (.iconst 0) := by decide +kernel
theorem i_X8_holdsFor_128 : ins MX8_holdsFor 128 = some (.bastore) := by decide +kernel
theorem i_X8_holdsFor_129 : ins MX8_holdsFor 129 = some (.iinc 3 1) := by decide +kernel
theorem i_X8_holdsFor_132 : ins MX8_holdsFor 132 = some (.goto 108) := by decide +kernel
theorem i_X8_holdsFor_135 : ins MX8_holdsFor 135 = some (.iload 5) := by decide +kernel
theorem i_X8_holdsFor_137 : ins MX8_holdsFor 137 = some (.bipush 12) := by decide +kernel
theorem i_X8_holdsFor_139 : ins MX8_holdsFor 139 = some (.if_icmp .ne 30) := by decide +kernel
theorem i_X8_holdsFor_142 : ins MX8_holdsFor 142 = some (.aload_n 0) := by decide +kernel
theorem i_X8_holdsFor_143 : ins MX8_holdsFor 143 = some (.getfield 77) := by decide +kernel
theorem i_X8_holdsFor_146 : ins MX8_holdsFor 146 = some (.iload_n 3) := by decide +kernel
theorem i_X8_holdsFor_147 : ins MX8_holdsFor 147 = some (.iconst 1) := by decide +kernel
theorem i_X8_holdsFor_148 : ins MX8_holdsFor 148 = some (.isub) := by decide +kernel
theorem i_X8_holdsFor_149 : ins MX8_holdsFor 149 = some (.aload_n 0) := by decide +kernel
theorem i_X8_holdsFor_150 : ins MX8_holdsFor 150 = some (.getfield 77) := by decide +kernel
theorem i_X8_holdsFor_153 : ins MX8_holdsFor 153 = some (.iload_n 3) := by decide +kernel
theorem i_X8_holdsFor_154 : ins MX8_holdsFor 154 = some (.iconst 1) := by decide +kernel
theorem i_X8_holdsFor_155 : ins MX8_holdsFor 155 = some (.isub) := by decide +kernel
theorem i_X8_holdsFor_156 : ins MX8_holdsFor 156 = some (.baload) := by decide +kernel
theorem i_X8_holdsFor_157 : ins MX8_holdsFor 157 = some (.ifCond .ne 7) := by decide +kernel
theorem i_X8_holdsFor_160 : ins MX8_holdsFor 160 = some (.iconst 1) := by decide +kernel
theorem i_X8_holdsFor_161 : ins MX8_holdsFor 161 = some (.goto 4) := by decide +kernel
theorem i_X8_holdsFor_164 : ins MX8_holdsFor 164 = some (.iconst 0) := by decide +kernel
theorem i_X8_holdsFor_165 : ins MX8_holdsFor 165 = some (.bastore) := by decide +kernel
theorem i_X8_holdsFor_166 : ins MX8_holdsFor 166 = some (.goto 74) := by decide +kernel
theorem i_X8_holdsFor_169 : ins MX8_holdsFor 169 = some (.iinc 3 (-1)) := by decide +kernel
theorem i_X8_holdsFor_172 : ins MX8_holdsFor 172 = some (.aload_n 0) := by decide +kernel
theorem i_X8_holdsFor_173 : ins MX8_holdsFor 173 = some (.getfield 77) := by decide +kernel
theorem i_X8_holdsFor_176 : ins MX8_holdsFor 176 = some (.iload_n 3) := by decide +kernel
theorem i_X8_holdsFor_177 : ins MX8_holdsFor 177 = some (.iconst 1) := by decide +kernel
theorem i_X8_holdsFor_178 : ins MX8_holdsFor 178 = some (.isub) := by decide +kernel
theorem i_X8_holdsFor_179 : ins MX8_holdsFor 179 = some (.iload 5) := by decide +kernel
theorem i_X8_holdsFor_181 : ins MX8_holdsFor 181 = some (.bipush 13) := by decide +kernel
theorem i_X8_holdsFor_183 : ins MX8_holdsFor 183 = some (.if_icmp .ne 31) := by decide +kernel
theorem i_X8_holdsFor_186 : ins MX8_holdsFor 186 = some (.aload_n 0) := by decide +kernel
theorem i_X8_holdsFor_187 : ins MX8_holdsFor 187 = some (.getfield 77) := by decide +kernel
theorem i_X8_holdsFor_190 : ins MX8_holdsFor 190 = some (.iload_n 3) := by decide +kernel
theorem i_X8_holdsFor_191 : ins MX8_holdsFor 191 = some (.iconst 1) := by decide +kernel
theorem i_X8_holdsFor_192 : ins MX8_holdsFor 192 = some (.isub) := by decide +kernel
theorem i_X8_holdsFor_193 : ins MX8_holdsFor 193 = some (.baload) := by decide +kernel
theorem i_X8_holdsFor_194 : ins MX8_holdsFor 194 = some (.ifCond .eq 16) := by decide +kernel
theorem i_X8_holdsFor_197 : ins MX8_holdsFor 197 = some (.aload_n 0) := by decide +kernel
theorem i_X8_holdsFor_198 : ins MX8_holdsFor 198 = some (.getfield 77) := by decide +kernel
theorem i_X8_holdsFor_201 : ins MX8_holdsFor 201 = some (.iload_n 3) := by decide +kernel
theorem i_X8_holdsFor_202 : ins MX8_holdsFor 202 = some (.baload) := by decide +kernel
theorem i_X8_holdsFor_203 : ins MX8_holdsFor 203 = some (.ifCond .eq 7) := by decide +kernel
theorem i_X8_holdsFor_206 : ins MX8_holdsFor 206 = some (.iconst 1) := by decide +kernel
theorem i_X8_holdsFor_207 : ins MX8_holdsFor 207 = some (.goto 32) := by decide +kernel
theorem i_X8_holdsFor_210 : ins MX8_holdsFor 210 = some (.iconst 0) := by decide +kernel
theorem i_X8_holdsFor_211 : ins MX8_holdsFor 211 = some (.goto 28) := by decide +kernel
theorem i_X8_holdsFor_214 : ins MX8_holdsFor 214 = some (.aload_n 0) := by decide +kernel
theorem i_X8_holdsFor_215 : ins MX8_holdsFor 215 = some (.getfield 77) := by decide +kernel
theorem i_X8_holdsFor_218 : ins MX8_holdsFor 218 = some (.iload_n 3) := by decide +kernel
theorem i_X8_holdsFor_219 : ins MX8_holdsFor 219 = some (.iconst 1) := by decide +kernel
theorem i_X8_holdsFor_220 : ins MX8_holdsFor 220 = some (.isub) := by decide +kernel
theorem i_X8_holdsFor_221 : ins MX8_holdsFor 221 = some (.baload) := by decide +kernel
theorem i_X8_holdsFor_222 : ins MX8_holdsFor 222 = some (.ifCond .ne 12) := by decide +kernel
theorem i_X8_holdsFor_225 : ins MX8_holdsFor 225 = some (.aload_n 0) := by decide +kernel
theorem i_X8_holdsFor_226 : ins MX8_holdsFor 226 = some (.getfield 77) := by decide +kernel
theorem i_X8_holdsFor_229 : ins MX8_holdsFor 229 = some (.iload_n 3) := by decide +kernel
theorem i_X8_holdsFor_230 : ins MX8_holdsFor 230 = some (.baload) := by decide +kernel
theorem i_X8_holdsFor_231 : ins MX8_holdsFor 231 = some (.ifCond .eq 7) := by decide +kernel
theorem i_X8_holdsFor_234 : ins MX8_holdsFor 234 = some (.iconst 1) := by decide +kernel
theorem i_X8_holdsFor_235 : ins MX8_holdsFor 235 = some (.goto 4) := by decide +kernel
theorem i_X8_holdsFor_238 : ins MX8_holdsFor 238 = some (.iconst 0) := by decide +kernel
theorem i_X8_holdsFor_239 : ins MX8_holdsFor 239 = some (.bastore) := by decide +kernel
theorem i_X8_holdsFor_240 : ins MX8_holdsFor 240 = some (.iinc 4 1) := by decide +kernel
theorem i_X8_holdsFor_243 : ins MX8_holdsFor 243 = some (.goto (-238)) := by decide +kernel
theorem i_X8_holdsFor_246 : ins MX8_holdsFor 246 = some (.aload_n 0) := by decide +kernel
theorem i_X8_holdsFor_247 : ins MX8_holdsFor 247 = some (.getfield 77) := by decide +kernel
theorem i_X8_holdsFor_250 : ins MX8_holdsFor 250 = some (.iconst 0) := by decide +kernel
theorem i_X8_holdsFor_251 : ins MX8_holdsFor 251 = some (.baload) := by decide +kernel
theorem i_X8_holdsFor_252 : ins MX8_holdsFor 252 = some (.ireturn) := by decide +kernel
theorem i_X8_readsBy_0 : ins MX8_readsBy 0 = some (.lconst 0) := by decide +kernel
theorem i_X8_readsBy_1 : ins MX8_readsBy 1 = some (.lstore_n 3) := by decide +kernel
theorem i_X8_readsBy_2 : ins MX8_readsBy 2 = some (.iconst 0) := by decide +kernel
theorem i_X8_readsBy_3 : ins MX8_readsBy 3 = some (.istore 5) := by decide +kernel
theorem i_X8_readsBy_5 : ins MX8_readsBy 5 = some (.iload 5) := by decide +kernel
theorem i_X8_readsBy_7 : ins MX8_readsBy 7 = some (.aload_n 0) := by decide +kernel
theorem i_X8_readsBy_8 : ins MX8_readsBy 8 = some (.getfield 59) := by decide +kernel
theorem i_X8_readsBy_11 : ins MX8_readsBy 11 = some (.iload_n 1) := by decide +kernel
theorem i_X8_readsBy_12 : ins MX8_readsBy 12 = some (.iaload) := by decide +kernel
theorem i_X8_readsBy_13 : ins MX8_readsBy 13 = some (.if_icmp .ge 90) := by decide +kernel
theorem i_X8_readsBy_16 : ins MX8_readsBy 16 = some (.aload_n 0) := by decide +kernel
theorem i_X8_readsBy_17 : ins MX8_readsBy 17 = some (.getfield 62) := by decide +kernel
theorem i_X8_readsBy_20 : ins MX8_readsBy 20 = some (.bipush 60) := by decide +kernel
theorem i_X8_readsBy_22 : ins MX8_readsBy 22 = some (.iload_n 1) := by decide +kernel
theorem i_X8_readsBy_23 : ins MX8_readsBy 23 = some (.imul) := by decide +kernel
theorem i_X8_readsBy_24 : ins MX8_readsBy 24 = some (.iload 5) := by decide +kernel
theorem i_X8_readsBy_26 : ins MX8_readsBy 26 = some (.iadd) := by decide +kernel
theorem i_X8_readsBy_27 : ins MX8_readsBy 27 = some (.iaload) := by decide +kernel
theorem i_X8_readsBy_28 : ins MX8_readsBy 28 = some (.istore 6) := by decide +kernel
theorem i_X8_readsBy_30 : ins MX8_readsBy 30 = some (.aload_n 0) := by decide +kernel
theorem i_X8_readsBy_31 : ins MX8_readsBy 31 = some (.getfield 65) := by decide +kernel
theorem i_X8_readsBy_34 : ins MX8_readsBy 34 = some (.bipush 60) := by decide +kernel
theorem i_X8_readsBy_36 : ins MX8_readsBy 36 = some (.iload_n 1) := by decide +kernel
theorem i_X8_readsBy_37 : ins MX8_readsBy 37 = some (.imul) := by decide +kernel
theorem i_X8_readsBy_38 : ins MX8_readsBy 38 = some (.iload 5) := by decide +kernel
theorem i_X8_readsBy_40 : ins MX8_readsBy 40 = some (.iadd) := by decide +kernel
theorem i_X8_readsBy_41 : ins MX8_readsBy 41 = some (.iaload) := by decide +kernel
theorem i_X8_readsBy_42 : ins MX8_readsBy 42 = some (.istore 7) := by decide +kernel
theorem i_X8_readsBy_44 : ins MX8_readsBy 44 = some (.iload 6) := by decide +kernel
theorem i_X8_readsBy_46 : ins MX8_readsBy 46 = some (.bipush 12) := by decide +kernel
theorem i_X8_readsBy_48 : ins MX8_readsBy 48 = some (.if_icmp .ge 49) := by decide +kernel
theorem i_X8_readsBy_51 : ins MX8_readsBy 51 = some (.iload 6) := by decide +kernel
theorem i_X8_readsBy_53 : ins MX8_readsBy 53 = some (.iconst 3) := by decide +kernel
theorem i_X8_readsBy_54 : ins MX8_readsBy 54 = some (.idiv) := by decide +kernel
theorem i_X8_readsBy_55 : ins MX8_readsBy 55 = some (.iload_n 2) := by decide +kernel
theorem i_X8_readsBy_56 : ins MX8_readsBy 56 = some (.if_icmp .ne 41) := by decide +kernel
theorem i_X8_readsBy_59 : ins MX8_readsBy 59 = some (.lload_n 3) := by decide +kernel
theorem i_X8_readsBy_60 : ins MX8_readsBy 60 = some (.aload_n 0) := by decide +kernel
theorem i_X8_readsBy_61 : ins MX8_readsBy 61 = some (.iload_n 2) := by decide +kernel
theorem i_X8_readsBy_62 : ins MX8_readsBy 62 = some (.iload 6) := by decide +kernel
theorem i_X8_readsBy_64 : ins MX8_readsBy 64 = some (.iconst 3) := by decide +kernel
theorem i_X8_readsBy_65 : ins MX8_readsBy 65 = some (.irem) := by decide +kernel
theorem i_X8_readsBy_66 : ins MX8_readsBy 66 = some (.iconst 1) := by decide +kernel
theorem i_X8_readsBy_67 : ins MX8_readsBy 67 = some (.if_icmp .eq 7) := by decide +kernel
theorem i_X8_readsBy_70 : ins MX8_readsBy 70 = some (.iconst 1) := by decide +kernel
theorem i_X8_readsBy_71 : ins MX8_readsBy 71 = some (.goto 4) := by decide +kernel
theorem i_X8_readsBy_74 : ins MX8_readsBy 74 = some (.iconst 0) := by decide +kernel
theorem i_X8_readsBy_75 : ins MX8_readsBy 75 = some (.iload 6) := by decide +kernel
theorem i_X8_readsBy_77 : ins MX8_readsBy 77 = some (.iconst 3) := by decide +kernel
theorem i_X8_readsBy_78 : ins MX8_readsBy 78 = some (.irem) := by decide +kernel
theorem i_X8_readsBy_79 : ins MX8_readsBy 79 = some (.iconst 2) := by decide +kernel
theorem i_X8_readsBy_80 : ins MX8_readsBy 80 = some (.if_icmp .ne 10) := by decide +kernel
theorem i_X8_readsBy_83 : ins MX8_readsBy 83 = some (.iload 7) := by decide +kernel
theorem i_X8_readsBy_85 : ins MX8_readsBy 85 = some (.iconst 1) := by decide +kernel
theorem i_X8_readsBy_86 : ins MX8_readsBy 86 = some (.iadd) := by decide +kernel
theorem i_X8_readsBy_87 : ins MX8_readsBy 87 = some (.goto 5) := by decide +kernel
theorem i_X8_readsBy_90 : ins MX8_readsBy 90 = some (.iload 7) := by decide +kernel
theorem i_X8_readsBy_92 : ins MX8_readsBy 92 = some (.invokevirtual 215) := by decide +kernel
theorem i_X8_readsBy_95 : ins MX8_readsBy 95 = some (.lor) := by decide +kernel
theorem i_X8_readsBy_96 : ins MX8_readsBy 96 = some (.lstore_n 3) := by decide +kernel
theorem i_X8_readsBy_97 : ins MX8_readsBy 97 = some (.iinc 5 1) := by decide +kernel
theorem i_X8_readsBy_100 : ins MX8_readsBy 100 = some (.goto (-95)) := by decide +kernel
theorem i_X8_readsBy_103 : ins MX8_readsBy 103 = some (.lload_n 3) := by decide +kernel
theorem i_X8_readsBy_104 : ins MX8_readsBy 104 = some (.lreturn) := by decide +kernel
theorem i_X8_fails_0 : ins MX8_fails 0 = some (.iconst 0) := by decide +kernel
theorem i_X8_fails_1 : ins MX8_fails 1 = some (.istore_n 2) := by decide +kernel
theorem i_X8_fails_2 : ins MX8_fails 2 = some (.iconst 0) := by decide +kernel
theorem i_X8_fails_3 : ins MX8_fails 3 = some (.istore_n 3) := by decide +kernel
theorem i_X8_fails_4 : ins MX8_fails 4 = some (.iload_n 3) := by decide +kernel
theorem i_X8_fails_5 : ins MX8_fails 5 = some (.iconst 4) := by decide +kernel
theorem i_X8_fails_6 : ins MX8_fails 6 = some (.if_icmp .ge 70) := by decide +kernel
theorem i_X8_fails_9 : ins MX8_fails 9 = some (.aload_n 0) := by decide +kernel
theorem i_X8_fails_10 : ins MX8_fails 10 = some (.iload_n 1) := by decide +kernel
theorem i_X8_fails_11 : ins MX8_fails 11 = some (.iload_n 3) := by decide +kernel
theorem i_X8_fails_12 : ins MX8_fails 12 = some (.invokevirtual 312) := by decide +kernel
theorem i_X8_fails_15 : ins MX8_fails 15 = some (.lstore 4) := by decide +kernel
theorem i_X8_fails_17 : ins MX8_fails 17 = some (.iconst 0) := by decide +kernel
theorem i_X8_fails_18 : ins MX8_fails 18 = some (.istore 6) := by decide +kernel
theorem i_X8_fails_20 : ins MX8_fails 20 = some (.iload 6) := by decide +kernel
theorem i_X8_fails_22 : ins MX8_fails 22 = some (.bipush 64) := by decide +kernel
theorem i_X8_fails_24 : ins MX8_fails 24 = some (.if_icmp .ge 46) := by decide +kernel
theorem i_X8_fails_27 : ins MX8_fails 27 = some (.iload_n 2) := by decide +kernel
theorem i_X8_fails_28 : ins MX8_fails 28 = some (.ifCond .ne 30) := by decide +kernel
theorem i_X8_fails_31 : ins MX8_fails 31 = some (.aload_n 0) := by decide +kernel
theorem i_X8_fails_32 : ins MX8_fails 32 = some (.getfield 47) := by decide +kernel
theorem i_X8_fails_35 : ins MX8_fails 35 = some (.bipush 64) := by decide +kernel
theorem i_X8_fails_37 : ins MX8_fails 37 = some (.iload_n 3) := by decide +kernel
theorem i_X8_fails_38 : ins MX8_fails 38 = some (.imul) := by decide +kernel
theorem i_X8_fails_39 : ins MX8_fails 39 = some (.iload 6) := by decide +kernel
theorem i_X8_fails_41 : ins MX8_fails 41 = some (.iadd) := by decide +kernel
theorem i_X8_fails_42 : ins MX8_fails 42 = some (.baload) := by decide +kernel
theorem i_X8_fails_43 : ins MX8_fails 43 = some (.ifCond .eq 19) := by decide +kernel
theorem i_X8_fails_46 : ins MX8_fails 46 = some (.lload 4) := by decide +kernel
theorem i_X8_fails_48 : ins MX8_fails 48 = some (.iload 6) := by decide +kernel
theorem i_X8_fails_50 : ins MX8_fails 50 = some (.lshr) := by decide +kernel
theorem i_X8_fails_51 : ins MX8_fails 51 = some (.lconst 1) := by decide +kernel
theorem i_X8_fails_52 : ins MX8_fails 52 = some (.land) := by decide +kernel
theorem i_X8_fails_53 : ins MX8_fails 53 = some (.lconst 1) := by decide +kernel
theorem i_X8_fails_54 : ins MX8_fails 54 = some (.lcmp) := by decide +kernel
theorem i_X8_fails_55 : ins MX8_fails 55 = some (.ifCond .ne 7) := by decide +kernel
theorem i_X8_fails_58 : ins MX8_fails 58 = some (.iconst 1) := by decide +kernel
theorem i_X8_fails_59 : ins MX8_fails 59 = some (.goto 4) := by decide +kernel
theorem i_X8_fails_62 : ins MX8_fails 62 = some (.iconst 0) := by decide +kernel
theorem i_X8_fails_63 : ins MX8_fails 63 = some (.istore_n 2) := by decide +kernel
theorem i_X8_fails_64 : ins MX8_fails 64 = some (.iinc 6 1) := by decide +kernel
theorem i_X8_fails_67 : ins MX8_fails 67 = some (.goto (-47)) := by decide +kernel
theorem i_X8_fails_70 : ins MX8_fails 70 = some (.iinc 3 1) := by decide +kernel
theorem i_X8_fails_73 : ins MX8_fails 73 = some (.goto (-69)) := by decide +kernel
theorem i_X8_fails_76 : ins MX8_fails 76 = some (.iload_n 2) := by decide +kernel
theorem i_X8_fails_77 : ins MX8_fails 77 = some (.ireturn) := by decide +kernel
theorem i_X8_isLeft_0 : ins MX8_isLeft 0 = some (.aload_n 0) := by decide +kernel
theorem i_X8_isLeft_1 : ins MX8_isLeft 1 = some (.getfield 16) := by decide +kernel
theorem i_X8_isLeft_4 : ins MX8_isLeft 4 = some (.iload_n 2) := by decide +kernel
theorem i_X8_isLeft_5 : ins MX8_isLeft 5 = some (.baload) := by decide +kernel
theorem i_X8_isLeft_6 : ins MX8_isLeft 6 = some (.ifCond .eq 16) := by decide +kernel
theorem i_X8_isLeft_9 : ins MX8_isLeft 9 = some (.aload_n 0) := by decide +kernel
theorem i_X8_isLeft_10 : ins MX8_isLeft 10 = some (.iload_n 1) := by decide +kernel
theorem i_X8_isLeft_11 : ins MX8_isLeft 11 = some (.iload_n 2) := by decide +kernel
theorem i_X8_isLeft_12 : ins MX8_isLeft 12 = some (.invokevirtual 315) := by decide +kernel
theorem i_X8_isLeft_15 : ins MX8_isLeft 15 = some (.ifCond .eq 7) := by decide +kernel
theorem i_X8_isLeft_18 : ins MX8_isLeft 18 = some (.iconst 1) := by decide +kernel
theorem i_X8_isLeft_19 : ins MX8_isLeft 19 = some (.goto 4) := by decide +kernel
theorem i_X8_isLeft_22 : ins MX8_isLeft 22 = some (.iconst 0) := by decide +kernel
theorem i_X8_isLeft_23 : ins MX8_isLeft 23 = some (.ireturn) := by decide +kernel
theorem i_X8_leaves_0 : ins MX8_leaves 0 = some (.lconst 0) := by decide +kernel
theorem i_X8_leaves_1 : ins MX8_leaves 1 = some (.lstore_n 2) := by decide +kernel
theorem i_X8_leaves_2 : ins MX8_leaves 2 = some (.iconst 0) := by decide +kernel
theorem i_X8_leaves_3 : ins MX8_leaves 3 = some (.istore 4) := by decide +kernel
theorem i_X8_leaves_5 : ins MX8_leaves 5 = some (.aload_n 0) := by decide +kernel
theorem i_X8_leaves_6 : ins MX8_leaves 6 = some (.iload_n 1) := by decide +kernel
theorem i_X8_leaves_7 : ins MX8_leaves 7 = some (.invokevirtual 318) := by decide +kernel
theorem i_X8_leaves_10 : ins MX8_leaves 10 = some (.ifCond .eq 45) := by decide +kernel
theorem i_X8_leaves_13 : ins MX8_leaves 13 = some (.iload 4) := by decide +kernel
theorem i_X8_leaves_15 : ins MX8_leaves 15 = some (.bipush 64) := by decide +kernel
theorem i_X8_leaves_17 : ins MX8_leaves 17 = some (.if_icmp .ge 38) := by decide +kernel
theorem i_X8_leaves_20 : ins MX8_leaves 20 = some (.aload_n 0) := by decide +kernel
theorem i_X8_leaves_21 : ins MX8_leaves 21 = some (.iload_n 1) := by decide +kernel
theorem i_X8_leaves_22 : ins MX8_leaves 22 = some (.invokevirtual 321) := by decide +kernel
theorem i_X8_leaves_25 : ins MX8_leaves 25 = some (.ifCond .ne 30) := by decide +kernel
theorem i_X8_leaves_28 : ins MX8_leaves 28 = some (.lload_n 2) := by decide +kernel
theorem i_X8_leaves_29 : ins MX8_leaves 29 = some (.aload_n 0) := by decide +kernel
theorem i_X8_leaves_30 : ins MX8_leaves 30 = some (.iload_n 1) := by decide +kernel
theorem i_X8_leaves_31 : ins MX8_leaves 31 = some (.iload 4) := by decide +kernel
theorem i_X8_leaves_33 : ins MX8_leaves 33 = some (.invokevirtual 324) := by decide +kernel
theorem i_X8_leaves_36 : ins MX8_leaves 36 = some (.ifCond .eq 10) := by decide +kernel
theorem i_X8_leaves_39 : ins MX8_leaves 39 = some (.lconst 1) := by decide +kernel
theorem i_X8_leaves_40 : ins MX8_leaves 40 = some (.iload 4) := by decide +kernel
theorem i_X8_leaves_42 : ins MX8_leaves 42 = some (.lshl) := by decide +kernel
theorem i_X8_leaves_43 : ins MX8_leaves 43 = some (.goto 4) := by decide +kernel
theorem i_X8_leaves_46 : ins MX8_leaves 46 = some (.lconst 0) := by decide +kernel
theorem i_X8_leaves_47 : ins MX8_leaves 47 = some (.lor) := by decide +kernel
theorem i_X8_leaves_48 : ins MX8_leaves 48 = some (.lstore_n 2) := by decide +kernel
theorem i_X8_leaves_49 : ins MX8_leaves 49 = some (.iinc 4 1) := by decide +kernel
theorem i_X8_leaves_52 : ins MX8_leaves 52 = some (.goto (-47)) := by decide +kernel
theorem i_X8_leaves_55 : ins MX8_leaves 55 = some (.lload_n 2) := by decide +kernel
theorem i_X8_leaves_56 : ins MX8_leaves 56 = some (.lreturn) := by decide +kernel
theorem i_X8_askedOf_0 : ins MX8_askedOf 0 = some (.iconst 0) := by decide +kernel
theorem i_X8_askedOf_1 : ins MX8_askedOf 1 = some (.istore_n 3) := by decide +kernel
theorem i_X8_askedOf_2 : ins MX8_askedOf 2 = some (.iload_n 2) := by decide +kernel
theorem i_X8_askedOf_3 : ins MX8_askedOf 3 = some (.tableswitch 116 0 2 #[25, 55, 102]) := by decide +kernel
theorem i_X8_askedOf_28 : ins MX8_askedOf 28 = some (.iconst 0) := by decide +kernel
theorem i_X8_askedOf_29 : ins MX8_askedOf 29 = some (.istore 4) := by decide +kernel
theorem i_X8_askedOf_31 : ins MX8_askedOf 31 = some (.iload 4) := by decide +kernel
theorem i_X8_askedOf_33 : ins MX8_askedOf 33 = some (.iconst 4) := by decide +kernel
theorem i_X8_askedOf_34 : ins MX8_askedOf 34 = some (.if_icmp .ge 22) := by decide +kernel
theorem i_X8_askedOf_37 : ins MX8_askedOf 37 = some (.iload_n 3) := by decide +kernel
theorem i_X8_askedOf_38 : ins MX8_askedOf 38 = some (.aload_n 0) := by decide +kernel
theorem i_X8_askedOf_39 : ins MX8_askedOf 39 = some (.iload_n 1) := by decide +kernel
theorem i_X8_askedOf_40 : ins MX8_askedOf 40 = some (.iload 4) := by decide +kernel
theorem i_X8_askedOf_42 : ins MX8_askedOf 42 = some (.invokevirtual 312) := by decide +kernel
theorem i_X8_askedOf_45 : ins MX8_askedOf 45 = some (.invokestatic 219) := by decide +kernel
theorem i_X8_askedOf_48 : ins MX8_askedOf 48 = some (.iadd) := by decide +kernel
theorem i_X8_askedOf_49 : ins MX8_askedOf 49 = some (.istore_n 3) := by decide +kernel
theorem i_X8_askedOf_50 : ins MX8_askedOf 50 = some (.iinc 4 1) := by decide +kernel
theorem i_X8_askedOf_53 : ins MX8_askedOf 53 = some (.goto (-22)) := by decide +kernel
theorem i_X8_askedOf_56 : ins MX8_askedOf 56 = some (.iload_n 3) := by decide +kernel
theorem i_X8_askedOf_57 : ins MX8_askedOf 57 = some (.ireturn) := by decide +kernel
theorem i_X8_askedOf_58 : ins MX8_askedOf 58 = some (.iconst 0) := by decide +kernel
theorem i_X8_askedOf_59 : ins MX8_askedOf 59 = some (.istore 4) := by decide +kernel
theorem i_X8_askedOf_61 : ins MX8_askedOf 61 = some (.iload 4) := by decide +kernel
theorem i_X8_askedOf_63 : ins MX8_askedOf 63 = some (.aload_n 0) := by decide +kernel
theorem i_X8_askedOf_64 : ins MX8_askedOf 64 = some (.getfield 59) := by decide +kernel
theorem i_X8_askedOf_67 : ins MX8_askedOf 67 = some (.iload_n 1) := by decide +kernel
theorem i_X8_askedOf_68 : ins MX8_askedOf 68 = some (.iaload) := by decide +kernel
theorem i_X8_askedOf_69 : ins MX8_askedOf 69 = some (.if_icmp .ge 34) := by decide +kernel
theorem i_X8_askedOf_72 : ins MX8_askedOf 72 = some (.iload_n 3) := by decide +kernel
theorem i_X8_askedOf_73 : ins MX8_askedOf 73 = some (.aload_n 0) := by decide +kernel
theorem i_X8_askedOf_74 : ins MX8_askedOf 74 = some (.getfield 62) := by decide +kernel
theorem i_X8_askedOf_77 : ins MX8_askedOf 77 = some (.bipush 60) := by decide +kernel
theorem i_X8_askedOf_79 : ins MX8_askedOf 79 = some (.iload_n 1) := by decide +kernel
theorem i_X8_askedOf_80 : ins MX8_askedOf 80 = some (.imul) := by decide +kernel
theorem i_X8_askedOf_81 : ins MX8_askedOf 81 = some (.iload 4) := by decide +kernel
theorem i_X8_askedOf_83 : ins MX8_askedOf 83 = some (.iadd) := by decide +kernel
theorem i_X8_askedOf_84 : ins MX8_askedOf 84 = some (.iaload) := by decide +kernel
theorem i_X8_askedOf_85 : ins MX8_askedOf 85 = some (.bipush 12) := by decide +kernel
theorem i_X8_askedOf_87 : ins MX8_askedOf 87 = some (.if_icmp .ge 7) := by decide +kernel
theorem i_X8_askedOf_90 : ins MX8_askedOf 90 = some (.iconst 1) := by decide +kernel
theorem i_X8_askedOf_91 : ins MX8_askedOf 91 = some (.goto 4) := by decide +kernel
theorem i_X8_askedOf_94 : ins MX8_askedOf 94 = some (.iconst 0) := by decide +kernel
theorem i_X8_askedOf_95 : ins MX8_askedOf 95 = some (.iadd) := by decide +kernel
theorem i_X8_askedOf_96 : ins MX8_askedOf 96 = some (.istore_n 3) := by decide +kernel
theorem i_X8_askedOf_97 : ins MX8_askedOf 97 = some (.iinc 4 1) := by decide +kernel
theorem i_X8_askedOf_100 : ins MX8_askedOf 100 = some (.goto (-39)) := by decide +kernel
theorem i_X8_askedOf_103 : ins MX8_askedOf 103 = some (.iload_n 3) := by decide +kernel
theorem i_X8_askedOf_104 : ins MX8_askedOf 104 = some (.ireturn) := by decide +kernel
theorem i_X8_askedOf_105 : ins MX8_askedOf 105 = some (.aload_n 0) := by decide +kernel
theorem i_X8_askedOf_106 : ins MX8_askedOf 106 = some (.iload_n 1) := by decide +kernel
theorem i_X8_askedOf_107 : ins MX8_askedOf 107 = some (.invokevirtual 321) := by decide +kernel
theorem i_X8_askedOf_110 : ins MX8_askedOf 110 = some (.ifCond .eq 7) := by decide +kernel
theorem i_X8_askedOf_113 : ins MX8_askedOf 113 = some (.iconst 1) := by decide +kernel
theorem i_X8_askedOf_114 : ins MX8_askedOf 114 = some (.goto 4) := by decide +kernel
theorem i_X8_askedOf_117 : ins MX8_askedOf 117 = some (.iconst 0) := by decide +kernel
theorem i_X8_askedOf_118 : ins MX8_askedOf 118 = some (.ireturn) := by decide +kernel
theorem i_X8_askedOf_119 : ins MX8_askedOf 119 = some (.iconst 0) := by decide +kernel
theorem i_X8_askedOf_120 : ins MX8_askedOf 120 = some (.istore 4) := by decide +kernel
theorem i_X8_askedOf_122 : ins MX8_askedOf 122 = some (.iload 4) := by decide +kernel
theorem i_X8_askedOf_124 : ins MX8_askedOf 124 = some (.bipush 64) := by decide +kernel
theorem i_X8_askedOf_126 : ins MX8_askedOf 126 = some (.if_icmp .ge 27) := by decide +kernel
theorem i_X8_askedOf_129 : ins MX8_askedOf 129 = some (.iload_n 3) := by decide +kernel
theorem i_X8_askedOf_130 : ins MX8_askedOf 130 = some (.aload_n 0) := by decide +kernel
theorem i_X8_askedOf_131 : ins MX8_askedOf 131 = some (.iload_n 1) := by decide +kernel
theorem i_X8_askedOf_132 : ins MX8_askedOf 132 = some (.iload 4) := by decide +kernel
theorem i_X8_askedOf_134 : ins MX8_askedOf 134 = some (.invokevirtual 324) := by decide +kernel
theorem i_X8_askedOf_137 : ins MX8_askedOf 137 = some (.ifCond .eq 7) := by decide +kernel
theorem i_X8_askedOf_140 : ins MX8_askedOf 140 = some (.iconst 1) := by decide +kernel
theorem i_X8_askedOf_141 : ins MX8_askedOf 141 = some (.goto 4) := by decide +kernel
theorem i_X8_askedOf_144 : ins MX8_askedOf 144 = some (.iconst 0) := by decide +kernel
theorem i_X8_askedOf_145 : ins MX8_askedOf 145 = some (.iadd) := by decide +kernel
theorem i_X8_askedOf_146 : ins MX8_askedOf 146 = some (.istore_n 3) := by decide +kernel
theorem i_X8_askedOf_147 : ins MX8_askedOf 147 = some (.iinc 4 1) := by decide +kernel
theorem i_X8_askedOf_150 : ins MX8_askedOf 150 = some (.goto (-28)) := by decide +kernel
theorem i_X8_askedOf_153 : ins MX8_askedOf 153 = some (.aload_n 0) := by decide +kernel
theorem i_X8_askedOf_154 : ins MX8_askedOf 154 = some (.iload_n 1) := by decide +kernel
theorem i_X8_askedOf_155 : ins MX8_askedOf 155 = some (.invokevirtual 321) := by decide +kernel
theorem i_X8_askedOf_158 : ins MX8_askedOf 158 = some (.ifCond .eq 8) := by decide +kernel
theorem i_X8_askedOf_161 : ins MX8_askedOf 161 = some (.bipush (-103)) := by decide +kernel
theorem i_X8_askedOf_163 : ins MX8_askedOf 163 = some (.goto 4) := by decide +kernel
theorem i_X8_askedOf_166 : ins MX8_askedOf 166 = some (.iload_n 3) := by decide +kernel
theorem i_X8_askedOf_167 : ins MX8_askedOf 167 = some (.ireturn) := by decide +kernel
theorem i_X8_asked_0 : ins MX8_asked 0 = some (.aload_n 0) := by decide +kernel
theorem i_X8_asked_1 : ins MX8_asked 1 = some (.iload_n 1) := by decide +kernel
theorem i_X8_asked_2 : ins MX8_asked 2 = some (.invokevirtual 318) := by decide +kernel
theorem i_X8_asked_5 : ins MX8_asked 5 = some (.ifCond .ne 6) := by decide +kernel
theorem i_X8_asked_8 : ins MX8_asked 8 = some (.bipush (-101)) := by decide +kernel
theorem i_X8_asked_10 : ins MX8_asked 10 = some (.ireturn) := by decide +kernel
theorem i_X8_asked_11 : ins MX8_asked 11 = some (.iload_n 2) := by decide +kernel
theorem i_X8_asked_12 : ins MX8_asked 12 = some (.i2l) := by decide +kernel
theorem i_X8_asked_13 : ins MX8_asked 13 = some (.lconst 0) := by decide +kernel
theorem i_X8_asked_14 : ins MX8_asked 14 = some (.ldc2_w 86) := by decide +kernel
theorem i_X8_asked_17 : ins MX8_asked 17 = some (.invokestatic 88) := by decide +kernel
theorem i_X8_asked_20 : ins MX8_asked 20 = some (.ifCond .eq 12) := by decide +kernel
theorem i_X8_asked_23 : ins MX8_asked 23 = some (.aload_n 0) := by decide +kernel
theorem i_X8_asked_24 : ins MX8_asked 24 = some (.iload_n 1) := by decide +kernel
theorem i_X8_asked_25 : ins MX8_asked 25 = some (.iload_n 2) := by decide +kernel
theorem i_X8_asked_26 : ins MX8_asked 26 = some (.invokevirtual 327) := by decide +kernel
theorem i_X8_asked_29 : ins MX8_asked 29 = some (.goto 5) := by decide +kernel
theorem i_X8_asked_32 : ins MX8_asked 32 = some (.bipush (-102)) := by decide +kernel
theorem i_X8_asked_34 : ins MX8_asked 34 = some (.ireturn) := by decide +kernel
theorem i_X8_sum_0 : ins MX8_sum 0 = some (.aload_n 0) := by decide +kernel
theorem i_X8_sum_1 : ins MX8_sum 1 = some (.iload_n 1) := by decide +kernel
theorem i_X8_sum_2 : ins MX8_sum 2 = some (.invokevirtual 318) := by decide +kernel
theorem i_X8_sum_5 : ins MX8_sum 5 = some (.ifCond .eq 10) := by decide +kernel
theorem i_X8_sum_8 : ins MX8_sum 8 = some (.iload_n 2) := by decide +kernel
theorem i_X8_sum_9 : ins MX8_sum 9 = some (.invokestatic 94) := by decide +kernel
theorem i_X8_sum_12 : ins MX8_sum 12 = some (.ifCond .ne 6) := by decide +kernel
theorem i_X8_sum_15 : ins MX8_sum 15 = some (.bipush (-101)) := by decide +kernel
theorem i_X8_sum_17 : ins MX8_sum 17 = some (.ireturn) := by decide +kernel
theorem i_X8_sum_18 : ins MX8_sum 18 = some (.aload_n 0) := by decide +kernel
theorem i_X8_sum_19 : ins MX8_sum 19 = some (.iload_n 1) := by decide +kernel
theorem i_X8_sum_20 : ins MX8_sum 20 = some (.invokevirtual 321) := by decide +kernel
theorem i_X8_sum_23 : ins MX8_sum 23 = some (.ifCond .eq 6) := by decide +kernel
theorem i_X8_sum_26 : ins MX8_sum 26 = some (.bipush (-103)) := by decide +kernel
theorem i_X8_sum_28 : ins MX8_sum 28 = some (.ireturn) := by decide +kernel
theorem i_X8_sum_29 : ins MX8_sum 29 = some (.iconst 0) := by decide +kernel
theorem i_X8_sum_30 : ins MX8_sum 30 = some (.istore_n 3) := by decide +kernel
theorem i_X8_sum_31 : ins MX8_sum 31 = some (.iconst 0) := by decide +kernel
theorem i_X8_sum_32 : ins MX8_sum 32 = some (.istore 4) := by decide +kernel
theorem i_X8_sum_34 : ins MX8_sum 34 = some (.iload 4) := by decide +kernel
theorem i_X8_sum_36 : ins MX8_sum 36 = some (.bipush 64) := by decide +kernel
theorem i_X8_sum_38 : ins MX8_sum 38 = some (.if_icmp .ge 37) := by decide +kernel
theorem i_X8_sum_41 : ins MX8_sum 41 = some (.iload_n 3) := by decide +kernel
theorem i_X8_sum_42 : ins MX8_sum 42 = some (.aload_n 0) := by decide +kernel
theorem i_X8_sum_43 : ins MX8_sum 43 = some (.iload_n 1) := by decide +kernel
theorem i_X8_sum_44 : ins MX8_sum 44 = some (.iload 4) := by decide +kernel
theorem i_X8_sum_46 : ins MX8_sum 46 = some (.invokevirtual 324) := by decide +kernel
theorem i_X8_sum_49 : ins MX8_sum 49 = some (.ifCond .eq 17) := by decide +kernel
theorem i_X8_sum_52 : ins MX8_sum 52 = some (.aload_n 0) := by decide +kernel
theorem i_X8_sum_53 : ins MX8_sum 53 = some (.getfield 13) := by decide +kernel
theorem i_X8_sum_56 : ins MX8_sum 56 = some (.iconst 4) := by decide +kernel
theorem i_X8_sum_57 : ins MX8_sum 57 = some (.iload 4) := by decide +kernel
theorem i_X8_sum_59 : ins MX8_sum 59 = some (.imul) := by decide +kernel
theorem i_X8_sum_60 : ins MX8_sum 60 = some (.iload_n 2) := by decide +kernel
theorem i_X8_sum_61 : ins MX8_sum 61 = some (.iadd) := by decide +kernel
theorem i_X8_sum_62 : ins MX8_sum 62 = some (.iaload) := by decide +kernel
theorem i_X8_sum_63 : ins MX8_sum 63 = some (.goto 4) := by decide +kernel
theorem i_X8_sum_66 : ins MX8_sum 66 = some (.iconst 0) := by decide +kernel
theorem i_X8_sum_67 : ins MX8_sum 67 = some (.iadd) := by decide +kernel
theorem i_X8_sum_68 : ins MX8_sum 68 = some (.istore_n 3) := by decide +kernel
theorem i_X8_sum_69 : ins MX8_sum 69 = some (.iinc 4 1) := by decide +kernel
theorem i_X8_sum_72 : ins MX8_sum 72 = some (.goto (-38)) := by decide +kernel
theorem i_X8_sum_75 : ins MX8_sum 75 = some (.iload_n 3) := by decide +kernel
theorem i_X8_sum_76 : ins MX8_sum 76 = some (.ireturn) := by decide +kernel
theorem i_X8_least_0 : ins MX8_least 0 = some (.aload_n 0) := by decide +kernel
theorem i_X8_least_1 : ins MX8_least 1 = some (.iload_n 1) := by decide +kernel
theorem i_X8_least_2 : ins MX8_least 2 = some (.invokevirtual 318) := by decide +kernel
theorem i_X8_least_5 : ins MX8_least 5 = some (.ifCond .eq 10) := by decide +kernel
theorem i_X8_least_8 : ins MX8_least 8 = some (.iload_n 2) := by decide +kernel
theorem i_X8_least_9 : ins MX8_least 9 = some (.invokestatic 94) := by decide +kernel
theorem i_X8_least_12 : ins MX8_least 12 = some (.ifCond .ne 6) := by decide +kernel
theorem i_X8_least_15 : ins MX8_least 15 = some (.bipush (-101)) := by decide +kernel
theorem i_X8_least_17 : ins MX8_least 17 = some (.ireturn) := by decide +kernel
theorem i_X8_least_18 : ins MX8_least 18 = some (.aload_n 0) := by decide +kernel
theorem i_X8_least_19 : ins MX8_least 19 = some (.iload_n 1) := by decide +kernel
theorem i_X8_least_20 : ins MX8_least 20 = some (.invokevirtual 321) := by decide +kernel
theorem i_X8_least_23 : ins MX8_least 23 = some (.ifCond .eq 6) := by decide +kernel
theorem i_X8_least_26 : ins MX8_least 26 = some (.bipush (-103)) := by decide +kernel
theorem i_X8_least_28 : ins MX8_least 28 = some (.ireturn) := by decide +kernel
theorem i_X8_least_29 : ins MX8_least 29 = some (.iconst 0) := by decide +kernel
theorem i_X8_least_30 : ins MX8_least 30 = some (.istore 4) := by decide +kernel
theorem i_X8_least_32 : ins MX8_least 32 = some (.iconst 0) := by decide +kernel
theorem i_X8_least_33 : ins MX8_least 33 = some (.istore 5) := by decide +kernel
theorem i_X8_least_35 : ins MX8_least 35 = some (.iload 5) := by decide +kernel
theorem i_X8_least_37 : ins MX8_least 37 = some (.bipush 64) := by decide +kernel
theorem i_X8_least_39 : ins MX8_least 39 = some (.if_icmp .ge 63) := by decide +kernel
theorem i_X8_least_42 : ins MX8_least 42 = some (.iconst 0) := by decide +kernel
theorem i_X8_least_43 : ins MX8_least 43 = some (.istore 6) := by decide +kernel
theorem i_X8_least_45 : ins MX8_least 45 = some (.iload 6) := by decide +kernel
theorem i_X8_least_47 : ins MX8_least 47 = some (.bipush 64) := by decide +kernel
theorem i_X8_least_49 : ins MX8_least 49 = some (.if_icmp .ge 47) := by decide +kernel
theorem i_X8_least_52 : ins MX8_least 52 = some (.aload_n 0) := by decide +kernel
theorem i_X8_least_53 : ins MX8_least 53 = some (.iload_n 1) := by decide +kernel
theorem i_X8_least_54 : ins MX8_least 54 = some (.iload 6) := by decide +kernel
theorem i_X8_least_56 : ins MX8_least 56 = some (.invokevirtual 324) := by decide +kernel
theorem i_X8_least_59 : ins MX8_least 59 = some (.ifCond .eq 31) := by decide +kernel
theorem i_X8_least_62 : ins MX8_least 62 = some (.aload_n 0) := by decide +kernel
theorem i_X8_least_63 : ins MX8_least 63 = some (.getfield 13) := by decide +kernel
theorem i_X8_least_66 : ins MX8_least 66 = some (.iconst 4) := by decide +kernel
theorem i_X8_least_67 : ins MX8_least 67 = some (.iload 6) := by decide +kernel
theorem i_X8_least_69 : ins MX8_least 69 = some (.imul) := by decide +kernel
theorem i_X8_least_70 : ins MX8_least 70 = some (.iload_n 2) := by decide +kernel
theorem i_X8_least_71 : ins MX8_least 71 = some (.iadd) := by decide +kernel
theorem i_X8_least_72 : ins MX8_least 72 = some (.iaload) := by decide +kernel
theorem i_X8_least_73 : ins MX8_least 73 = some (.iload 5) := by decide +kernel
theorem i_X8_least_75 : ins MX8_least 75 = some (.if_icmp .ne 15) := by decide +kernel
theorem i_X8_least_78 : ins MX8_least 78 = some (.iload 4) := by decide +kernel
theorem i_X8_least_80 : ins MX8_least 80 = some (.iload_n 3) := by decide +kernel
theorem i_X8_least_81 : ins MX8_least 81 = some (.if_icmp .ne 6) := by decide +kernel
theorem i_X8_least_84 : ins MX8_least 84 = some (.iload 6) := by decide +kernel
theorem i_X8_least_86 : ins MX8_least 86 = some (.ireturn) := by decide +kernel
theorem i_X8_least_87 : ins MX8_least 87 = some (.iinc 4 1) := by decide +kernel
theorem i_X8_least_90 : ins MX8_least 90 = some (.iinc 6 1) := by decide +kernel
theorem i_X8_least_93 : ins MX8_least 93 = some (.goto (-48)) := by decide +kernel
theorem i_X8_least_96 : ins MX8_least 96 = some (.iinc 5 1) := by decide +kernel
theorem i_X8_least_99 : ins MX8_least 99 = some (.goto (-64)) := by decide +kernel
theorem i_X8_least_102 : ins MX8_least 102 = some (.iconst (-1)) := by decide +kernel
theorem i_X8_least_103 : ins MX8_least 103 = some (.ireturn) := by decide +kernel
theorem i_X8_group_0 : ins MX8_group 0 = some (.aload_n 0) := by decide +kernel
theorem i_X8_group_1 : ins MX8_group 1 = some (.iload_n 1) := by decide +kernel
theorem i_X8_group_2 : ins MX8_group 2 = some (.invokevirtual 318) := by decide +kernel
theorem i_X8_group_5 : ins MX8_group 5 = some (.ifCond .eq 10) := by decide +kernel
theorem i_X8_group_8 : ins MX8_group 8 = some (.iload_n 2) := by decide +kernel
theorem i_X8_group_9 : ins MX8_group 9 = some (.invokestatic 94) := by decide +kernel
theorem i_X8_group_12 : ins MX8_group 12 = some (.ifCond .ne 6) := by decide +kernel
theorem i_X8_group_15 : ins MX8_group 15 = some (.bipush (-101)) := by decide +kernel
theorem i_X8_group_17 : ins MX8_group 17 = some (.ireturn) := by decide +kernel
theorem i_X8_group_18 : ins MX8_group 18 = some (.iload_n 3) := by decide +kernel
theorem i_X8_group_19 : ins MX8_group 19 = some (.i2l) := by decide +kernel
theorem i_X8_group_20 : ins MX8_group 20 = some (.lconst 0) := by decide +kernel
theorem i_X8_group_21 : ins MX8_group 21 = some (.aload_n 0) := by decide +kernel
theorem i_X8_group_22 : ins MX8_group 22 = some (.getfield 7) := by decide +kernel
theorem i_X8_group_25 : ins MX8_group 25 = some (.iload_n 2) := by decide +kernel
theorem i_X8_group_26 : ins MX8_group 26 = some (.iaload) := by decide +kernel
theorem i_X8_group_27 : ins MX8_group 27 = some (.iconst 1) := by decide +kernel
theorem i_X8_group_28 : ins MX8_group 28 = some (.isub) := by decide +kernel
theorem i_X8_group_29 : ins MX8_group 29 = some (.i2l) := by decide +kernel
theorem i_X8_group_30 : ins MX8_group 30 = some (.invokestatic 88) := by decide +kernel
theorem i_X8_group_33 : ins MX8_group 33 = some (.ifCond .ne 6) := by decide +kernel
theorem i_X8_group_36 : ins MX8_group 36 = some (.bipush (-102)) := by decide +kernel
theorem i_X8_group_38 : ins MX8_group 38 = some (.ireturn) := by decide +kernel
theorem i_X8_group_39 : ins MX8_group 39 = some (.aload_n 0) := by decide +kernel
theorem i_X8_group_40 : ins MX8_group 40 = some (.iload_n 1) := by decide +kernel
theorem i_X8_group_41 : ins MX8_group 41 = some (.invokevirtual 321) := by decide +kernel
theorem i_X8_group_44 : ins MX8_group 44 = some (.ifCond .eq 6) := by decide +kernel
theorem i_X8_group_47 : ins MX8_group 47 = some (.bipush (-103)) := by decide +kernel
theorem i_X8_group_49 : ins MX8_group 49 = some (.ireturn) := by decide +kernel
theorem i_X8_group_50 : ins MX8_group 50 = some (.iconst 0) := by decide +kernel
theorem i_X8_group_51 : ins MX8_group 51 = some (.istore 4) := by decide +kernel
theorem i_X8_group_53 : ins MX8_group 53 = some (.iconst 0) := by decide +kernel
theorem i_X8_group_54 : ins MX8_group 54 = some (.istore 5) := by decide +kernel
theorem i_X8_group_56 : ins MX8_group 56 = some (.iload 5) := by decide +kernel
theorem i_X8_group_58 : ins MX8_group 58 = some (.bipush 64) := by decide +kernel
theorem i_X8_group_60 : ins MX8_group 60 = some (.if_icmp .ge 44) := by decide +kernel
theorem i_X8_group_63 : ins MX8_group 63 = some (.iload 4) := by decide +kernel
theorem i_X8_group_65 : ins MX8_group 65 = some (.aload_n 0) := by decide +kernel
theorem i_X8_group_66 : ins MX8_group 66 = some (.iload_n 1) := by decide +kernel
theorem i_X8_group_67 : ins MX8_group 67 = some (.iload 5) := by decide +kernel
theorem i_X8_group_69 : ins MX8_group 69 = some (.invokevirtual 324) := by decide +kernel
theorem i_X8_group_72 : ins MX8_group 72 = some (.ifCond .eq 22) := by decide +kernel
theorem i_X8_group_75 : ins MX8_group 75 = some (.aload_n 0) := by decide +kernel
theorem i_X8_group_76 : ins MX8_group 76 = some (.getfield 13) := by decide +kernel
theorem i_X8_group_79 : ins MX8_group 79 = some (.iconst 4) := by decide +kernel
theorem i_X8_group_80 : ins MX8_group 80 = some (.iload 5) := by decide +kernel
theorem i_X8_group_82 : ins MX8_group 82 = some (.imul) := by decide +kernel
theorem i_X8_group_83 : ins MX8_group 83 = some (.iload_n 2) := by decide +kernel
theorem i_X8_group_84 : ins MX8_group 84 = some (.iadd) := by decide +kernel
theorem i_X8_group_85 : ins MX8_group 85 = some (.iaload) := by decide +kernel
theorem i_X8_group_86 : ins MX8_group 86 = some (.iload_n 3) := by decide +kernel
theorem i_X8_group_87 : ins MX8_group 87 = some (.if_icmp .ne 7) := by decide +kernel
theorem i_X8_group_90 : ins MX8_group 90 = some (.iconst 1) := by decide +kernel
theorem i_X8_group_91 : ins MX8_group 91 = some (.goto 4) := by decide +kernel
theorem i_X8_group_94 : ins MX8_group 94 = some (.iconst 0) := by decide +kernel
theorem i_X8_group_95 : ins MX8_group 95 = some (.iadd) := by decide +kernel
theorem i_X8_group_96 : ins MX8_group 96 = some (.istore 4) := by decide +kernel
theorem i_X8_group_98 : ins MX8_group 98 = some (.iinc 5 1) := by decide +kernel
theorem i_X8_group_101 : ins MX8_group 101 = some (.goto (-45)) := by decide +kernel
theorem i_X8_group_104 : ins MX8_group 104 = some (.iload 4) := by decide +kernel
theorem i_X8_group_106 : ins MX8_group 106 = some (.ireturn) := by decide +kernel
theorem i_X8_tear_0 : ins MX8_tear 0 = some (.aload_n 0) := by decide +kernel
theorem i_X8_tear_1 : ins MX8_tear 1 = some (.iload_n 1) := by decide +kernel
theorem i_X8_tear_2 : ins MX8_tear 2 = some (.iload_n 2) := by decide +kernel
theorem i_X8_tear_3 : ins MX8_tear 3 = some (.invokevirtual 189) := by decide +kernel
theorem i_X8_tear_6 : ins MX8_tear 6 = some (.ifCond .ne 6) := by decide +kernel
theorem i_X8_tear_9 : ins MX8_tear 9 = some (.bipush (-101)) := by decide +kernel
theorem i_X8_tear_11 : ins MX8_tear 11 = some (.ireturn) := by decide +kernel
theorem i_X8_tear_12 : ins MX8_tear 12 = some (.aload_n 0) := by decide +kernel
theorem i_X8_tear_13 : ins MX8_tear 13 = some (.getfield 47) := by decide +kernel
theorem i_X8_tear_16 : ins MX8_tear 16 = some (.bipush 64) := by decide +kernel
theorem i_X8_tear_18 : ins MX8_tear 18 = some (.iload_n 1) := by decide +kernel
theorem i_X8_tear_19 : ins MX8_tear 19 = some (.imul) := by decide +kernel
theorem i_X8_tear_20 : ins MX8_tear 20 = some (.iload_n 2) := by decide +kernel
theorem i_X8_tear_21 : ins MX8_tear 21 = some (.iadd) := by decide +kernel
theorem i_X8_tear_22 : ins MX8_tear 22 = some (.baload) := by decide +kernel
theorem i_X8_tear_23 : ins MX8_tear 23 = some (.ifCond .eq 6) := by decide +kernel
theorem i_X8_tear_26 : ins MX8_tear 26 = some (.bipush (-103)) := by decide +kernel
theorem i_X8_tear_28 : ins MX8_tear 28 = some (.ireturn) := by decide +kernel
theorem i_X8_tear_29 : ins MX8_tear 29 = some (.aload_n 0) := by decide +kernel
theorem i_X8_tear_30 : ins MX8_tear 30 = some (.getfield 47) := by decide +kernel
theorem i_X8_tear_33 : ins MX8_tear 33 = some (.bipush 64) := by decide +kernel
theorem i_X8_tear_35 : ins MX8_tear 35 = some (.iload_n 1) := by decide +kernel
theorem i_X8_tear_36 : ins MX8_tear 36 = some (.imul) := by decide +kernel
theorem i_X8_tear_37 : ins MX8_tear 37 = some (.iload_n 2) := by decide +kernel
theorem i_X8_tear_38 : ins MX8_tear 38 = some (.iadd) := by decide +kernel
theorem i_X8_tear_39 : ins MX8_tear 39 = some (.iconst 1) := by decide +kernel
theorem i_X8_tear_40 : ins MX8_tear 40 = some (.bastore) := by decide +kernel
theorem i_X8_tear_41 : ins MX8_tear 41 = some (.aload_n 0) := by decide +kernel
theorem i_X8_tear_42 : ins MX8_tear 42 = some (.iload_n 1) := by decide +kernel
theorem i_X8_tear_43 : ins MX8_tear 43 = some (.invokevirtual 160) := by decide +kernel
theorem i_X8_tear_46 : ins MX8_tear 46 = some (.ireturn) := by decide +kernel
theorem i_X8_mend_0 : ins MX8_mend 0 = some (.iload_n 1) := by decide +kernel
theorem i_X8_mend_1 : ins MX8_mend 1 = some (.invokestatic 94) := by decide +kernel
theorem i_X8_mend_4 : ins MX8_mend 4 = some (.ifCond .ne 6) := by decide +kernel
theorem i_X8_mend_7 : ins MX8_mend 7 = some (.bipush (-101)) := by decide +kernel
theorem i_X8_mend_9 : ins MX8_mend 9 = some (.ireturn) := by decide +kernel
theorem i_X8_mend_10 : ins MX8_mend 10 = some (.aload_n 0) := by decide +kernel
theorem i_X8_mend_11 : ins MX8_mend 11 = some (.iload_n 1) := by decide +kernel
theorem i_X8_mend_12 : ins MX8_mend 12 = some (.invokevirtual 160) := by decide +kernel
theorem i_X8_mend_15 : ins MX8_mend 15 = some (.iconst 1) := by decide +kernel
theorem i_X8_mend_16 : ins MX8_mend 16 = some (.if_icmp .eq 6) := by decide +kernel
theorem i_X8_mend_19 : ins MX8_mend 19 = some (.bipush (-103)) := by decide +kernel
theorem i_X8_mend_21 : ins MX8_mend 21 = some (.ireturn) := by decide +kernel
theorem i_X8_mend_22 : ins MX8_mend 22 = some (.iconst 0) := by decide +kernel
theorem i_X8_mend_23 : ins MX8_mend 23 = some (.istore_n 2) := by decide +kernel
theorem i_X8_mend_24 : ins MX8_mend 24 = some (.aload_n 0) := by decide +kernel
theorem i_X8_mend_25 : ins MX8_mend 25 = some (.getfield 47) := by decide +kernel
theorem i_X8_mend_28 : ins MX8_mend 28 = some (.bipush 64) := by decide +kernel
theorem i_X8_mend_30 : ins MX8_mend 30 = some (.iload_n 1) := by decide +kernel
theorem i_X8_mend_31 : ins MX8_mend 31 = some (.imul) := by decide +kernel
theorem i_X8_mend_32 : ins MX8_mend 32 = some (.iload_n 2) := by decide +kernel
theorem i_X8_mend_33 : ins MX8_mend 33 = some (.iadd) := by decide +kernel
theorem i_X8_mend_34 : ins MX8_mend 34 = some (.baload) := by decide +kernel
theorem i_X8_mend_35 : ins MX8_mend 35 = some (.ifCond .ne 9) := by decide +kernel
theorem i_X8_mend_38 : ins MX8_mend 38 = some (.iinc 2 1) := by decide +kernel
theorem i_X8_mend_41 : ins MX8_mend 41 = some (.goto (-17)) := by decide +kernel
theorem i_X8_mend_44 : ins MX8_mend 44 = some (.aload_n 0) := by decide +kernel
theorem i_X8_mend_45 : ins MX8_mend 45 = some (.getfield 47) := by decide +kernel
theorem i_X8_mend_48 : ins MX8_mend 48 = some (.bipush 64) := by decide +kernel
theorem i_X8_mend_50 : ins MX8_mend 50 = some (.iload_n 1) := by decide +kernel
theorem i_X8_mend_51 : ins MX8_mend 51 = some (.imul) := by decide +kernel
theorem i_X8_mend_52 : ins MX8_mend 52 = some (.iload_n 2) := by decide +kernel
theorem i_X8_mend_53 : ins MX8_mend 53 = some (.iadd) := by decide +kernel
theorem i_X8_mend_54 : ins MX8_mend 54 = some (.iconst 0) := by decide +kernel
theorem i_X8_mend_55 : ins MX8_mend 55 = some (.bastore) := by decide +kernel
theorem i_X8_mend_56 : ins MX8_mend 56 = some (.iload_n 2) := by decide +kernel
theorem i_X8_mend_57 : ins MX8_mend 57 = some (.ireturn) := by decide +kernel
theorem i_X8_parityOf_0 : ins MX8_parityOf 0 = some (.lconst 0) := by decide +kernel
theorem i_X8_parityOf_1 : ins MX8_parityOf 1 = some (.lstore_n 2) := by decide +kernel
theorem i_X8_parityOf_2 : ins MX8_parityOf 2 = some (.iconst 0) := by decide +kernel
theorem i_X8_parityOf_3 : ins MX8_parityOf 3 = some (.istore 4) := by decide +kernel
theorem i_X8_parityOf_5 : ins MX8_parityOf 5 = some (.iload 4) := by decide +kernel
theorem i_X8_parityOf_7 : ins MX8_parityOf 7 = some (.aload_n 0) := by decide +kernel
theorem i_X8_parityOf_8 : ins MX8_parityOf 8 = some (.iload_n 1) := by decide +kernel
theorem i_X8_parityOf_9 : ins MX8_parityOf 9 = some (.invokevirtual 156) := by decide +kernel
theorem i_X8_parityOf_12 : ins MX8_parityOf 12 = some (.if_icmp .ge 19) := by decide +kernel
theorem i_X8_parityOf_15 : ins MX8_parityOf 15 = some (.lload_n 2) := by decide +kernel
theorem i_X8_parityOf_16 : ins MX8_parityOf 16 = some (.aload_n 0) := by decide +kernel
theorem i_X8_parityOf_17 : ins MX8_parityOf 17 = some (.iload_n 1) := by decide +kernel
theorem i_X8_parityOf_18 : ins MX8_parityOf 18 = some (.iload 4) := by decide +kernel
theorem i_X8_parityOf_20 : ins MX8_parityOf 20 = some (.invokevirtual 192) := by decide +kernel
theorem i_X8_parityOf_23 : ins MX8_parityOf 23 = some (.lxor) := by decide +kernel
theorem i_X8_parityOf_24 : ins MX8_parityOf 24 = some (.lstore_n 2) := by decide +kernel
theorem i_X8_parityOf_25 : ins MX8_parityOf 25 = some (.iinc 4 1) := by decide +kernel
theorem i_X8_parityOf_28 : ins MX8_parityOf 28 = some (.goto (-23)) := by decide +kernel
theorem i_X8_parityOf_31 : ins MX8_parityOf 31 = some (.lload_n 2) := by decide +kernel
theorem i_X8_parityOf_32 : ins MX8_parityOf 32 = some (.lreturn) := by decide +kernel
theorem i_X8_parity_0 : ins MX8_parity 0 = some (.iload_n 1) := by decide +kernel
theorem i_X8_parity_1 : ins MX8_parity 1 = some (.invokestatic 94) := by decide +kernel
theorem i_X8_parity_4 : ins MX8_parity 4 = some (.ifCond .eq 11) := by decide +kernel
theorem i_X8_parity_7 : ins MX8_parity 7 = some (.aload_n 0) := by decide +kernel
theorem i_X8_parity_8 : ins MX8_parity 8 = some (.iload_n 1) := by decide +kernel
theorem i_X8_parity_9 : ins MX8_parity 9 = some (.invokevirtual 330) := by decide +kernel
theorem i_X8_parity_12 : ins MX8_parity 12 = some (.goto 4) := by decide +kernel
theorem i_X8_parity_15 : ins MX8_parity 15 = some (.lconst 0) := by decide +kernel
theorem i_X8_parity_16 : ins MX8_parity 16 = some (.lreturn) := by decide +kernel
theorem i_X8_takeOrder_0 : ins MX8_takeOrder 0 = some (.iload_n 1) := by decide +kernel
theorem i_X8_takeOrder_1 : ins MX8_takeOrder 1 = some (.i2l) := by decide +kernel
theorem i_X8_takeOrder_2 : ins MX8_takeOrder 2 = some (.lconst 0) := by decide +kernel
theorem i_X8_takeOrder_3 : ins MX8_takeOrder 3 = some (.ldc2_w 257) := by decide +kernel
theorem i_X8_takeOrder_6 : ins MX8_takeOrder 6 = some (.invokestatic 88) := by decide +kernel
theorem i_X8_takeOrder_9 : ins MX8_takeOrder 9 = some (.ifCond .ne 5) := by decide +kernel
theorem i_X8_takeOrder_12 : ins MX8_takeOrder 12 = some (.iconst 0) := by decide +kernel
theorem i_X8_takeOrder_13 : ins MX8_takeOrder 13 = some (.ireturn) := by decide +kernel
theorem i_X8_takeOrder_14 : ins MX8_takeOrder 14 = some (.iload_n 1) := by decide +kernel
theorem i_X8_takeOrder_15 : ins MX8_takeOrder 15 = some (.istore_n 2) := by decide +kernel
theorem i_X8_takeOrder_16 : ins MX8_takeOrder 16 = some (.iconst 0) := by decide +kernel
theorem i_X8_takeOrder_17 : ins MX8_takeOrder 17 = some (.istore_n 3) := by decide +kernel
theorem i_X8_takeOrder_18 : ins MX8_takeOrder 18 = some (.iconst 3) := by decide +kernel
theorem i_X8_takeOrder_19 : ins MX8_takeOrder 19 = some (.istore 4) := by decide +kernel
theorem i_X8_takeOrder_21 : ins MX8_takeOrder 21 = some (.iload 4) := by decide +kernel
theorem i_X8_takeOrder_23 : ins MX8_takeOrder 23 = some (.ifCond .lt 35) := by decide +kernel
theorem i_X8_takeOrder_26 : ins MX8_takeOrder 26 = some (.aload_n 0) := by decide +kernel
theorem i_X8_takeOrder_27 : ins MX8_takeOrder 27 = some (.getfield 83) := by decide +kernel
theorem i_X8_takeOrder_30 : ins MX8_takeOrder 30 = some (.iload 4) := by decide +kernel
theorem i_X8_takeOrder_32 : ins MX8_takeOrder 32 = some (.iload_n 2) := by decide +kernel
theorem i_X8_takeOrder_33 : ins MX8_takeOrder 33 = some (.iconst 4) := by decide +kernel
theorem i_X8_takeOrder_34 : ins MX8_takeOrder 34 = some (.irem) := by decide +kernel
theorem i_X8_takeOrder_35 : ins MX8_takeOrder 35 = some (.iastore) := by decide +kernel
theorem i_X8_takeOrder_36 : ins MX8_takeOrder 36 = some (.iload_n 3) := by decide +kernel
theorem i_X8_takeOrder_37 : ins MX8_takeOrder 37 = some (.iconst 1) := by decide +kernel
theorem i_X8_takeOrder_38 : ins MX8_takeOrder 38 = some (.aload_n 0) := by decide +kernel
theorem i_X8_takeOrder_39 : ins MX8_takeOrder 39 = some (.getfield 83) := by decide +kernel
theorem i_X8_takeOrder_42 : ins MX8_takeOrder 42 = some (.iload 4) := by decide +kernel
theorem i_X8_takeOrder_44 : ins MX8_takeOrder 44 = some (.iaload) := by decide +kernel
theorem i_X8_takeOrder_45 : ins MX8_takeOrder 45 = some (.ishl) := by decide +kernel
theorem i_X8_takeOrder_46 : ins MX8_takeOrder 46 = some (.ior) := by decide +kernel
theorem i_X8_takeOrder_47 : ins MX8_takeOrder 47 = some (.istore_n 3) := by decide +kernel
theorem i_X8_takeOrder_48 : ins MX8_takeOrder 48 = some (.iload_n 2) := by decide +kernel
theorem i_X8_takeOrder_49 : ins MX8_takeOrder 49 = some (.iconst 4) := by decide +kernel
theorem i_X8_takeOrder_50 : ins MX8_takeOrder 50 = some (.idiv) := by decide +kernel
theorem i_X8_takeOrder_51 : ins MX8_takeOrder 51 = some (.istore_n 2) := by decide +kernel
theorem i_X8_takeOrder_52 : ins MX8_takeOrder 52 = some (.iinc 4 (-1)) := by decide +kernel
theorem i_X8_takeOrder_55 : ins MX8_takeOrder 55 = some (.goto (-34)) := by decide +kernel
theorem i_X8_takeOrder_58 : ins MX8_takeOrder 58 = some (.iload_n 3) := by decide +kernel
theorem i_X8_takeOrder_59 : ins MX8_takeOrder 59 = some (.bipush 15) := by decide +kernel
theorem i_X8_takeOrder_61 : ins MX8_takeOrder 61 = some (.if_icmp .ne 7) := by decide +kernel
theorem i_X8_takeOrder_64 : ins MX8_takeOrder 64 = some (.iconst 1) := by decide +kernel
theorem i_X8_takeOrder_65 : ins MX8_takeOrder 65 = some (.goto 4) := by decide +kernel
theorem i_X8_takeOrder_68 : ins MX8_takeOrder 68 = some (.iconst 0) := by decide +kernel
theorem i_X8_takeOrder_69 : ins MX8_takeOrder 69 = some (.ireturn) := by decide +kernel
theorem i_X8_sameTo_0 : ins MX8_sameTo 0 = some (.iconst 1) := by decide +kernel
theorem i_X8_sameTo_1 : ins MX8_sameTo 1 = some (.istore 4) := by decide +kernel
theorem i_X8_sameTo_3 : ins MX8_sameTo 3 = some (.iconst 0) := by decide +kernel
theorem i_X8_sameTo_4 : ins MX8_sameTo 4 = some (.istore 5) := by decide +kernel
theorem i_X8_sameTo_6 : ins MX8_sameTo 6 = some (.iload 5) := by decide +kernel
theorem i_X8_sameTo_8 : ins MX8_sameTo 8 = some (.iload_n 1) := by decide +kernel
theorem i_X8_sameTo_9 : ins MX8_sameTo 9 = some (.if_icmp .ge 56) := by decide +kernel
theorem i_X8_sameTo_12 : ins MX8_sameTo 12 = some (.iload 4) := by decide +kernel
theorem i_X8_sameTo_14 : ins MX8_sameTo 14 = some (.ifCond .eq 42) := by decide +kernel
theorem i_X8_sameTo_17 : ins MX8_sameTo 17 = some (.aload_n 0) := by decide +kernel
theorem i_X8_sameTo_18 : ins MX8_sameTo 18 = some (.getfield 13) := by decide +kernel
theorem i_X8_sameTo_21 : ins MX8_sameTo 21 = some (.iconst 4) := by decide +kernel
theorem i_X8_sameTo_22 : ins MX8_sameTo 22 = some (.iload_n 2) := by decide +kernel
theorem i_X8_sameTo_23 : ins MX8_sameTo 23 = some (.imul) := by decide +kernel
theorem i_X8_sameTo_24 : ins MX8_sameTo 24 = some (.aload_n 0) := by decide +kernel
theorem i_X8_sameTo_25 : ins MX8_sameTo 25 = some (.getfield 83) := by decide +kernel
theorem i_X8_sameTo_28 : ins MX8_sameTo 28 = some (.iload 5) := by decide +kernel
theorem i_X8_sameTo_30 : ins MX8_sameTo 30 = some (.iaload) := by decide +kernel
theorem i_X8_sameTo_31 : ins MX8_sameTo 31 = some (.iadd) := by decide +kernel
theorem i_X8_sameTo_32 : ins MX8_sameTo 32 = some (.iaload) := by decide +kernel
theorem i_X8_sameTo_33 : ins MX8_sameTo 33 = some (.aload_n 0) := by decide +kernel
theorem i_X8_sameTo_34 : ins MX8_sameTo 34 = some (.getfield 13) := by decide +kernel
theorem i_X8_sameTo_37 : ins MX8_sameTo 37 = some (.iconst 4) := by decide +kernel
theorem i_X8_sameTo_38 : ins MX8_sameTo 38 = some (.iload_n 3) := by decide +kernel
theorem i_X8_sameTo_39 : ins MX8_sameTo 39 = some (.imul) := by decide +kernel
theorem i_X8_sameTo_40 : ins MX8_sameTo 40 = some (.aload_n 0) := by decide +kernel
theorem i_X8_sameTo_41 : ins MX8_sameTo 41 = some (.getfield 83) := by decide +kernel
theorem i_X8_sameTo_44 : ins MX8_sameTo 44 = some (.iload 5) := by decide +kernel
theorem i_X8_sameTo_46 : ins MX8_sameTo 46 = some (.iaload) := by decide +kernel
theorem i_X8_sameTo_47 : ins MX8_sameTo 47 = some (.iadd) := by decide +kernel
theorem i_X8_sameTo_48 : ins MX8_sameTo 48 = some (.iaload) := by decide +kernel
theorem i_X8_sameTo_49 : ins MX8_sameTo 49 = some (.if_icmp .ne 7) := by decide +kernel
theorem i_X8_sameTo_52 : ins MX8_sameTo 52 = some (.iconst 1) := by decide +kernel
theorem i_X8_sameTo_53 : ins MX8_sameTo 53 = some (.goto 4) := by decide +kernel
theorem i_X8_sameTo_56 : ins MX8_sameTo 56 = some (.iconst 0) := by decide +kernel
theorem i_X8_sameTo_57 : ins MX8_sameTo 57 = some (.istore 4) := by decide +kernel
theorem i_X8_sameTo_59 : ins MX8_sameTo 59 = some (.iinc 5 1) := by decide +kernel
theorem i_X8_sameTo_62 : ins MX8_sameTo 62 = some (.goto (-56)) := by decide +kernel
theorem i_X8_sameTo_65 : ins MX8_sameTo 65 = some (.iload 4) := by decide +kernel
theorem i_X8_sameTo_67 : ins MX8_sameTo 67 = some (.ireturn) := by decide +kernel
theorem i_X8_sortRun_0 : ins MX8_sortRun 0 = some (.iload_n 1) := by decide +kernel
theorem i_X8_sortRun_1 : ins MX8_sortRun 1 = some (.iconst 1) := by decide +kernel
theorem i_X8_sortRun_2 : ins MX8_sortRun 2 = some (.iadd) := by decide +kernel
theorem i_X8_sortRun_3 : ins MX8_sortRun 3 = some (.istore 5) := by decide +kernel
theorem i_X8_sortRun_5 : ins MX8_sortRun 5 = some (.iload 5) := by decide +kernel
theorem i_X8_sortRun_7 : ins MX8_sortRun 7 = some (.iload_n 2) := by decide +kernel
theorem i_X8_sortRun_8 : ins MX8_sortRun 8 = some (.if_icmp .ge 168) := by decide +kernel
theorem i_X8_sortRun_11 : ins MX8_sortRun 11 = some (.aload_n 0) := by decide +kernel
theorem i_X8_sortRun_12 : ins MX8_sortRun 12 = some (.getfield 80) := by decide +kernel
theorem i_X8_sortRun_15 : ins MX8_sortRun 15 = some (.iload 5) := by decide +kernel
theorem i_X8_sortRun_17 : ins MX8_sortRun 17 = some (.iaload) := by decide +kernel
theorem i_X8_sortRun_18 : ins MX8_sortRun 18 = some (.istore 6) := by decide +kernel
theorem i_X8_sortRun_20 : ins MX8_sortRun 20 = some (.iload 5) := by decide +kernel
theorem i_X8_sortRun_22 : ins MX8_sortRun 22 = some (.istore 7) := by decide +kernel
theorem i_X8_sortRun_24 : ins MX8_sortRun 24 = some (.iconst 1) := by decide +kernel
theorem i_X8_sortRun_25 : ins MX8_sortRun 25 = some (.istore 8) := by decide +kernel
theorem i_X8_sortRun_27 : ins MX8_sortRun 27 = some (.iload 7) := by decide +kernel
theorem i_X8_sortRun_29 : ins MX8_sortRun 29 = some (.iload_n 1) := by decide +kernel
theorem i_X8_sortRun_30 : ins MX8_sortRun 30 = some (.if_icmp .le 131) := by decide +kernel
theorem i_X8_sortRun_33 : ins MX8_sortRun 33 = some (.iload 8) := by decide +kernel
theorem i_X8_sortRun_35 : ins MX8_sortRun 35 = some (.ifCond .eq 126) := by decide +kernel
theorem i_X8_sortRun_38 : ins MX8_sortRun 38 = some (.aload_n 0) := by decide +kernel
theorem i_X8_sortRun_39 : ins MX8_sortRun 39 = some (.getfield 13) := by decide +kernel
theorem i_X8_sortRun_42 : ins MX8_sortRun 42 = some (.iconst 4) := by decide +kernel
theorem i_X8_sortRun_43 : ins MX8_sortRun 43 = some (.iload 6) := by decide +kernel
theorem i_X8_sortRun_45 : ins MX8_sortRun 45 = some (.imul) := by decide +kernel
theorem i_X8_sortRun_46 : ins MX8_sortRun 46 = some (.iload_n 3) := by decide +kernel
theorem i_X8_sortRun_47 : ins MX8_sortRun 47 = some (.iadd) := by decide +kernel
theorem i_X8_sortRun_48 : ins MX8_sortRun 48 = some (.iaload) := by decide +kernel
theorem i_X8_sortRun_49 : ins MX8_sortRun 49 = some (.istore 9) := by decide +kernel
theorem i_X8_sortRun_51 : ins MX8_sortRun 51 = some (.aload_n 0) := by decide +kernel
theorem i_X8_sortRun_52 : ins MX8_sortRun 52 = some (.getfield 13) := by decide +kernel
theorem i_X8_sortRun_55 : ins MX8_sortRun 55 = some (.iconst 4) := by decide +kernel
theorem i_X8_sortRun_56 : ins MX8_sortRun 56 = some (.aload_n 0) := by decide +kernel
theorem i_X8_sortRun_57 : ins MX8_sortRun 57 = some (.getfield 80) := by decide +kernel
theorem i_X8_sortRun_60 : ins MX8_sortRun 60 = some (.iload 7) := by decide +kernel
theorem i_X8_sortRun_62 : ins MX8_sortRun 62 = some (.iconst 1) := by decide +kernel
theorem i_X8_sortRun_63 : ins MX8_sortRun 63 = some (.isub) := by decide +kernel
theorem i_X8_sortRun_64 : ins MX8_sortRun 64 = some (.iaload) := by decide +kernel
theorem i_X8_sortRun_65 : ins MX8_sortRun 65 = some (.imul) := by decide +kernel
theorem i_X8_sortRun_66 : ins MX8_sortRun 66 = some (.iload_n 3) := by decide +kernel
theorem i_X8_sortRun_67 : ins MX8_sortRun 67 = some (.iadd) := by decide +kernel
theorem i_X8_sortRun_68 : ins MX8_sortRun 68 = some (.iaload) := by decide +kernel
theorem i_X8_sortRun_69 : ins MX8_sortRun 69 = some (.istore 10) := by decide +kernel
theorem i_X8_sortRun_71 : ins MX8_sortRun 71 = some (.iload 9) := by decide +kernel
theorem i_X8_sortRun_73 : ins MX8_sortRun 73 = some (.iload 10) := by decide +kernel
theorem i_X8_sortRun_75 : ins MX8_sortRun 75 = some (.if_icmp .ne 25) := by decide +kernel
theorem i_X8_sortRun_78 : ins MX8_sortRun 78 = some (.iload 6) := by decide +kernel
theorem i_X8_sortRun_80 : ins MX8_sortRun 80 = some (.aload_n 0) := by decide +kernel
theorem i_X8_sortRun_81 : ins MX8_sortRun 81 = some (.getfield 80) := by decide +kernel
theorem i_X8_sortRun_84 : ins MX8_sortRun 84 = some (.iload 7) := by decide +kernel
theorem i_X8_sortRun_86 : ins MX8_sortRun 86 = some (.iconst 1) := by decide +kernel
theorem i_X8_sortRun_87 : ins MX8_sortRun 87 = some (.isub) := by decide +kernel
theorem i_X8_sortRun_88 : ins MX8_sortRun 88 = some (.iaload) := by decide +kernel
theorem i_X8_sortRun_89 : ins MX8_sortRun 89 = some (.if_icmp .ge 7) := by decide +kernel
theorem i_X8_sortRun_92 : ins MX8_sortRun 92 = some (.iconst 1) := by decide +kernel
theorem i_X8_sortRun_93 : ins MX8_sortRun 93 = some (.goto 39) := by decide +kernel
theorem i_X8_sortRun_96 : ins MX8_sortRun 96 = some (.iconst 0) := by decide +kernel
theorem i_X8_sortRun_97 : ins MX8_sortRun 97 = some (.goto 35) := by decide +kernel
theorem i_X8_sortRun_100 : ins MX8_sortRun 100 = some (.iload 4) := by decide +kernel
theorem i_X8_sortRun_102 : ins MX8_sortRun 102 = some (.ifCond .eq 18) := by decide +kernel
theorem i_X8_sortRun_105 : ins MX8_sortRun 105 = some (.iload 9) := by decide +kernel
theorem i_X8_sortRun_107 : ins MX8_sortRun 107 = some (.iload 10) := by decide +kernel
theorem i_X8_sortRun_109 : ins MX8_sortRun 109 = some (.if_icmp .le 7) := by decide +kernel
theorem i_X8_sortRun_112 : ins MX8_sortRun 112 = some (.iconst 1) := by decide +kernel
theorem i_X8_sortRun_113 : ins MX8_sortRun 113 = some (.goto 19) := by decide +kernel
theorem i_X8_sortRun_116 : ins MX8_sortRun 116 = some (.iconst 0) := by decide +kernel
theorem i_X8_sortRun_117 : ins MX8_sortRun 117 = some (.goto 15) := by decide +kernel
theorem i_X8_sortRun_120 : ins MX8_sortRun 120 = some (.iload 9) := by decide +kernel
theorem i_X8_sortRun_122 : ins MX8_sortRun 122 = some (.iload 10) := by decide +kernel
theorem i_X8_sortRun_124 : ins MX8_sortRun 124 = some (.if_icmp .ge 7) := by decide +kernel
theorem i_X8_sortRun_127 : ins MX8_sortRun 127 = some (.iconst 1) := by decide +kernel
theorem i_X8_sortRun_128 : ins MX8_sortRun 128 = some (.goto 4) := by decide +kernel
theorem i_X8_sortRun_131 : ins MX8_sortRun 131 = some (.iconst 0) := by decide +kernel
theorem i_X8_sortRun_132 : ins MX8_sortRun 132 = some (.istore 8) := by decide +kernel
theorem i_X8_sortRun_134 : ins MX8_sortRun 134 = some (.iload 8) := by decide +kernel
theorem i_X8_sortRun_136 : ins MX8_sortRun 136 = some (.ifCond .eq 22) := by decide +kernel
theorem i_X8_sortRun_139 : ins MX8_sortRun 139 = some (.aload_n 0) := by decide +kernel
theorem i_X8_sortRun_140 : ins MX8_sortRun 140 = some (.getfield 80) := by decide +kernel
theorem i_X8_sortRun_143 : ins MX8_sortRun 143 = some (.iload 7) := by decide +kernel
theorem i_X8_sortRun_145 : ins MX8_sortRun 145 = some (.aload_n 0) := by decide +kernel
theorem i_X8_sortRun_146 : ins MX8_sortRun 146 = some (.getfield 80) := by decide +kernel
theorem i_X8_sortRun_149 : ins MX8_sortRun 149 = some (.iload 7) := by decide +kernel
theorem i_X8_sortRun_151 : ins MX8_sortRun 151 = some (.iconst 1) := by decide +kernel
theorem i_X8_sortRun_152 : ins MX8_sortRun 152 = some (.isub) := by decide +kernel
theorem i_X8_sortRun_153 : ins MX8_sortRun 153 = some (.iaload) := by decide +kernel
theorem i_X8_sortRun_154 : ins MX8_sortRun 154 = some (.iastore) := by decide +kernel
theorem i_X8_sortRun_155 : ins MX8_sortRun 155 = some (.iinc 7 (-1)) := by decide +kernel
theorem i_X8_sortRun_158 : ins MX8_sortRun 158 = some (.goto (-131)) := by decide +kernel
theorem i_X8_sortRun_161 : ins MX8_sortRun 161 = some (.aload_n 0) := by decide +kernel
theorem i_X8_sortRun_162 : ins MX8_sortRun 162 = some (.getfield 80) := by decide +kernel
theorem i_X8_sortRun_165 : ins MX8_sortRun 165 = some (.iload 7) := by decide +kernel
theorem i_X8_sortRun_167 : ins MX8_sortRun 167 = some (.iload 6) := by decide +kernel
theorem i_X8_sortRun_169 : ins MX8_sortRun 169 = some (.iastore) := by decide +kernel
theorem i_X8_sortRun_170 : ins MX8_sortRun 170 = some (.iinc 5 1) := by decide +kernel
theorem i_X8_sortRun_173 : ins MX8_sortRun 173 = some (.goto (-168)) := by decide +kernel
theorem i_X8_sortRun_176 : ins MX8_sortRun 176 = some (.return_) := by decide +kernel
theorem i_X8_layOrder_0 : ins MX8_layOrder 0 = some (.iconst 0) := by decide +kernel
theorem i_X8_layOrder_1 : ins MX8_layOrder 1 = some (.istore_n 2) := by decide +kernel
theorem i_X8_layOrder_2 : ins MX8_layOrder 2 = some (.iconst 0) := by decide +kernel
theorem i_X8_layOrder_3 : ins MX8_layOrder 3 = some (.istore_n 3) := by decide +kernel
theorem i_X8_layOrder_4 : ins MX8_layOrder 4 = some (.iload_n 3) := by decide +kernel
theorem i_X8_layOrder_5 : ins MX8_layOrder 5 = some (.bipush 64) := by decide +kernel
theorem i_X8_layOrder_7 : ins MX8_layOrder 7 = some (.if_icmp .ge 28) := by decide +kernel
theorem i_X8_layOrder_10 : ins MX8_layOrder 10 = some (.aload_n 0) := by decide +kernel
theorem i_X8_layOrder_11 : ins MX8_layOrder 11 = some (.getfield 16) := by decide +kernel
theorem i_X8_layOrder_14 : ins MX8_layOrder 14 = some (.iload_n 3) := by decide +kernel
theorem i_X8_layOrder_15 : ins MX8_layOrder 15 = some (.baload) := by decide +kernel
theorem i_X8_layOrder_16 : ins MX8_layOrder 16 = some (.ifCond .eq 13) := by decide +kernel
theorem i_X8_layOrder_19 : ins MX8_layOrder 19 = some (.aload_n 0) := by decide +kernel
theorem i_X8_layOrder_20 : ins MX8_layOrder 20 = some (.getfield 80) := by decide +kernel
theorem i_X8_layOrder_23 : ins MX8_layOrder 23 = some (.iload_n 2) := by decide +kernel
theorem i_X8_layOrder_24 : ins MX8_layOrder 24 = some (.iload_n 3) := by decide +kernel
theorem i_X8_layOrder_25 : ins MX8_layOrder 25 = some (.iastore) := by decide +kernel
theorem i_X8_layOrder_26 : ins MX8_layOrder 26 = some (.iinc 2 1) := by decide +kernel
theorem i_X8_layOrder_29 : ins MX8_layOrder 29 = some (.iinc 3 1) := by decide +kernel
theorem i_X8_layOrder_32 : ins MX8_layOrder 32 = some (.goto (-28)) := by decide +kernel
theorem i_X8_layOrder_35 : ins MX8_layOrder 35 = some (.iload_n 2) := by decide +kernel
theorem i_X8_layOrder_36 : ins MX8_layOrder 36 = some (.istore_n 3) := by decide +kernel
theorem i_X8_layOrder_37 : ins MX8_layOrder 37 = some (.iconst 0) := by decide +kernel
theorem i_X8_layOrder_38 : ins MX8_layOrder 38 = some (.istore 4) := by decide +kernel
theorem i_X8_layOrder_40 : ins MX8_layOrder 40 = some (.iload 4) := by decide +kernel
theorem i_X8_layOrder_42 : ins MX8_layOrder 42 = some (.bipush 64) := by decide +kernel
theorem i_X8_layOrder_44 : ins MX8_layOrder 44 = some (.if_icmp .ge 30) := by decide +kernel
theorem i_X8_layOrder_47 : ins MX8_layOrder 47 = some (.aload_n 0) := by decide +kernel
theorem i_X8_layOrder_48 : ins MX8_layOrder 48 = some (.getfield 16) := by decide +kernel
theorem i_X8_layOrder_51 : ins MX8_layOrder 51 = some (.iload 4) := by decide +kernel
theorem i_X8_layOrder_53 : ins MX8_layOrder 53 = some (.baload) := by decide +kernel
theorem i_X8_layOrder_54 : ins MX8_layOrder 54 = some (.ifCond .ne 14) := by decide +kernel
theorem i_X8_layOrder_57 : ins MX8_layOrder 57 = some (.aload_n 0) := by decide +kernel
theorem i_X8_layOrder_58 : ins MX8_layOrder 58 = some (.getfield 80) := by decide +kernel
theorem i_X8_layOrder_61 : ins MX8_layOrder 61 = some (.iload_n 3) := by decide +kernel
theorem i_X8_layOrder_62 : ins MX8_layOrder 62 = some (.iload 4) := by decide +kernel
theorem i_X8_layOrder_64 : ins MX8_layOrder 64 = some (.iastore) := by decide +kernel
theorem i_X8_layOrder_65 : ins MX8_layOrder 65 = some (.iinc 3 1) := by decide +kernel
theorem i_X8_layOrder_68 : ins MX8_layOrder 68 = some (.iinc 4 1) := by decide +kernel
theorem i_X8_layOrder_71 : ins MX8_layOrder 71 = some (.goto (-31)) := by decide +kernel
theorem i_X8_layOrder_74 : ins MX8_layOrder 74 = some (.iconst 0) := by decide +kernel
theorem i_X8_layOrder_75 : ins MX8_layOrder 75 = some (.istore 4) := by decide +kernel
theorem i_X8_layOrder_77 : ins MX8_layOrder 77 = some (.iload 4) := by decide +kernel
theorem i_X8_layOrder_79 : ins MX8_layOrder 79 = some (.iconst 4) := by decide +kernel
theorem i_X8_layOrder_80 : ins MX8_layOrder 80 = some (.if_icmp .ge 104) := by decide +kernel
theorem i_X8_layOrder_83 : ins MX8_layOrder 83 = some (.iconst 0) := by decide +kernel
theorem i_X8_layOrder_84 : ins MX8_layOrder 84 = some (.istore 5) := by decide +kernel
theorem i_X8_layOrder_86 : ins MX8_layOrder 86 = some (.iconst 0) := by decide +kernel
theorem i_X8_layOrder_87 : ins MX8_layOrder 87 = some (.istore 6) := by decide +kernel
theorem i_X8_layOrder_89 : ins MX8_layOrder 89 = some (.iload 6) := by decide +kernel
theorem i_X8_layOrder_91 : ins MX8_layOrder 91 = some (.iload_n 2) := by decide +kernel
theorem i_X8_layOrder_92 : ins MX8_layOrder 92 = some (.if_icmp .ge 86) := by decide +kernel
theorem i_X8_layOrder_95 : ins MX8_layOrder 95 = some (.iload 6) := by decide +kernel
theorem i_X8_layOrder_97 : ins MX8_layOrder 97 = some (.iconst 1) := by decide +kernel
theorem i_X8_layOrder_98 : ins MX8_layOrder 98 = some (.iadd) := by decide +kernel
theorem i_X8_layOrder_99 : ins MX8_layOrder 99 = some (.istore 7) := by decide +kernel
theorem i_X8_layOrder_101 : ins MX8_layOrder 101 = some (.iload 7) := by decide +kernel
theorem i_X8_layOrder_103 : ins MX8_layOrder 103 = some (.iload_n 2) := by decide +kernel
theorem i_X8_layOrder_104 : ins MX8_layOrder 104 = some (.if_icmp .ge 32) := by decide +kernel
theorem i_X8_layOrder_107 : ins MX8_layOrder 107 = some (.aload_n 0) := by decide +kernel
theorem i_X8_layOrder_108 : ins MX8_layOrder 108 = some (.iload 4) := by decide +kernel
theorem i_X8_layOrder_110 : ins MX8_layOrder 110 = some (.aload_n 0) := by decide +kernel
theorem i_X8_layOrder_111 : ins MX8_layOrder 111 = some (.getfield 80) := by decide +kernel
theorem i_X8_layOrder_114 : ins MX8_layOrder 114 = some (.iload 6) := by decide +kernel
theorem i_X8_layOrder_116 : ins MX8_layOrder 116 = some (.iaload) := by decide +kernel
theorem i_X8_layOrder_117 : ins MX8_layOrder 117 = some (.aload_n 0) := by decide +kernel
theorem i_X8_layOrder_118 : ins MX8_layOrder 118 = some (.getfield 80) := by decide +kernel
theorem i_X8_layOrder_121 : ins MX8_layOrder 121 = some (.iload 7) := by decide +kernel
theorem i_X8_layOrder_123 : ins MX8_layOrder 123 = some (.iaload) := by decide +kernel
theorem i_X8_layOrder_124 : ins MX8_layOrder 124 = some (.invokevirtual 334) := by decide +kernel
theorem i_X8_layOrder_127 : ins MX8_layOrder 127 = some (.ifCond .eq 9) := by decide +kernel
theorem i_X8_layOrder_130 : ins MX8_layOrder 130 = some (.iinc 7 1) := by decide +kernel
theorem i_X8_layOrder_133 : ins MX8_layOrder 133 = some (.goto (-32)) := by decide +kernel
theorem i_X8_layOrder_136 : ins MX8_layOrder 136 = some (.aload_n 0) := by decide +kernel
theorem i_X8_layOrder_137 : ins MX8_layOrder 137 = some (.iload 6) := by decide +kernel
theorem i_X8_layOrder_139 : ins MX8_layOrder 139 = some (.iload 7) := by decide +kernel
theorem i_X8_layOrder_141 : ins MX8_layOrder 141 = some (.aload_n 0) := by decide +kernel
theorem i_X8_layOrder_142 : ins MX8_layOrder 142 = some (.getfield 83) := by decide +kernel
theorem i_X8_layOrder_145 : ins MX8_layOrder 145 = some (.iload 4) := by decide +kernel
theorem i_X8_layOrder_147 : ins MX8_layOrder 147 = some (.iaload) := by decide +kernel
theorem i_X8_layOrder_148 : ins MX8_layOrder 148 = some (.iload_n 1) := by decide +kernel
theorem i_X8_layOrder_149 : ins MX8_layOrder 149 = some (.ifCond .eq 15) := by decide +kernel
theorem i_X8_layOrder_152 : ins MX8_layOrder 152 = some (.iload 5) := by decide +kernel
theorem i_X8_layOrder_154 : ins MX8_layOrder 154 = some (.iconst 2) := by decide +kernel
theorem i_X8_layOrder_155 : ins MX8_layOrder 155 = some (.irem) := by decide +kernel
theorem i_X8_layOrder_156 : ins MX8_layOrder 156 = some (.iconst 1) := by decide +kernel
theorem i_X8_layOrder_157 : ins MX8_layOrder 157 = some (.if_icmp .ne 7) := by decide +kernel
theorem i_X8_layOrder_160 : ins MX8_layOrder 160 = some (.iconst 1) := by decide +kernel
theorem i_X8_layOrder_161 : ins MX8_layOrder 161 = some (.goto 4) := by decide +kernel
theorem i_X8_layOrder_164 : ins MX8_layOrder 164 = some (.iconst 0) := by decide +kernel
theorem i_X8_layOrder_165 : ins MX8_layOrder 165 = some (.invokevirtual 338) := by decide +kernel
theorem i_X8_layOrder_168 : ins MX8_layOrder 168 = some (.iload 7) := by decide +kernel
theorem i_X8_layOrder_170 : ins MX8_layOrder 170 = some (.istore 6) := by decide +kernel
theorem i_X8_layOrder_172 : ins MX8_layOrder 172 = some (.iinc 5 1) := by decide +kernel
theorem i_X8_layOrder_175 : ins MX8_layOrder 175 = some (.goto (-86)) := by decide +kernel
theorem i_X8_layOrder_178 : ins MX8_layOrder 178 = some (.iinc 4 1) := by decide +kernel
theorem i_X8_layOrder_181 : ins MX8_layOrder 181 = some (.goto (-104)) := by decide +kernel
theorem i_X8_layOrder_184 : ins MX8_layOrder 184 = some (.return_) := by decide +kernel
theorem i_X8_wordsOf_0 : ins MX8_wordsOf 0 = some (.aload_n 0) := by decide +kernel
theorem i_X8_wordsOf_1 : ins MX8_wordsOf 1 = some (.iload_n 1) := by decide +kernel
theorem i_X8_wordsOf_2 : ins MX8_wordsOf 2 = some (.iload_n 2) := by decide +kernel
theorem i_X8_wordsOf_3 : ins MX8_wordsOf 3 = some (.invokevirtual 182) := by decide +kernel
theorem i_X8_wordsOf_6 : ins MX8_wordsOf 6 = some (.iconst 0) := by decide +kernel
theorem i_X8_wordsOf_7 : ins MX8_wordsOf 7 = some (.istore_n 3) := by decide +kernel
theorem i_X8_wordsOf_8 : ins MX8_wordsOf 8 = some (.iconst 2) := by decide +kernel
theorem i_X8_wordsOf_9 : ins MX8_wordsOf 9 = some (.istore 4) := by decide +kernel
theorem i_X8_wordsOf_11 : ins MX8_wordsOf 11 = some (.iconst 0) := by decide +kernel
theorem i_X8_wordsOf_12 : ins MX8_wordsOf 12 = some (.istore 5) := by decide +kernel
theorem i_X8_wordsOf_14 : ins MX8_wordsOf 14 = some (.iload 5) := by decide +kernel
theorem i_X8_wordsOf_16 : ins MX8_wordsOf 16 = some (.bipush 10) := by decide +kernel
theorem i_X8_wordsOf_18 : ins MX8_wordsOf 18 = some (.if_icmp .ge 135) := by decide +kernel
theorem i_X8_wordsOf_21 : ins MX8_wordsOf 21 = some (.iconst 0) := by decide +kernel
theorem i_X8_wordsOf_22 : ins MX8_wordsOf 22 = some (.istore 6) := by decide +kernel
theorem i_X8_wordsOf_24 : ins MX8_wordsOf 24 = some (.iconst 0) := by decide +kernel
theorem i_X8_wordsOf_25 : ins MX8_wordsOf 25 = some (.istore 7) := by decide +kernel
theorem i_X8_wordsOf_27 : ins MX8_wordsOf 27 = some (.bipush 7) := by decide +kernel
theorem i_X8_wordsOf_29 : ins MX8_wordsOf 29 = some (.iload 5) := by decide +kernel
theorem i_X8_wordsOf_31 : ins MX8_wordsOf 31 = some (.imul) := by decide +kernel
theorem i_X8_wordsOf_32 : ins MX8_wordsOf 32 = some (.istore 8) := by decide +kernel
theorem i_X8_wordsOf_34 : ins MX8_wordsOf 34 = some (.iload 8) := by decide +kernel
theorem i_X8_wordsOf_36 : ins MX8_wordsOf 36 = some (.bipush 7) := by decide +kernel
theorem i_X8_wordsOf_38 : ins MX8_wordsOf 38 = some (.iload 5) := by decide +kernel
theorem i_X8_wordsOf_40 : ins MX8_wordsOf 40 = some (.imul) := by decide +kernel
theorem i_X8_wordsOf_41 : ins MX8_wordsOf 41 = some (.bipush 7) := by decide +kernel
theorem i_X8_wordsOf_43 : ins MX8_wordsOf 43 = some (.iadd) := by decide +kernel
theorem i_X8_wordsOf_44 : ins MX8_wordsOf 44 = some (.if_icmp .ge 44) := by decide +kernel
theorem i_X8_wordsOf_47 : ins MX8_wordsOf 47 = some (.iload 8) := by decide +kernel
theorem i_X8_wordsOf_49 : ins MX8_wordsOf 49 = some (.bipush 64) := by decide +kernel
theorem i_X8_wordsOf_51 : ins MX8_wordsOf 51 = some (.if_icmp .ge 37) := by decide +kernel
theorem i_X8_wordsOf_54 : ins MX8_wordsOf 54 = some (.iload 6) := by decide +kernel
theorem i_X8_wordsOf_56 : ins MX8_wordsOf 56 = some (.aload_n 0) := by decide +kernel
theorem i_X8_wordsOf_57 : ins MX8_wordsOf 57 = some (.iload_n 1) := by decide +kernel
theorem i_X8_wordsOf_58 : ins MX8_wordsOf 58 = some (.aload_n 0) := by decide +kernel
theorem i_X8_wordsOf_59 : ins MX8_wordsOf 59 = some (.getfield 80) := by decide +kernel
theorem i_X8_wordsOf_62 : ins MX8_wordsOf 62 = some (.iload 8) := by decide +kernel
theorem i_X8_wordsOf_64 : ins MX8_wordsOf 64 = some (.iaload) := by decide +kernel
theorem i_X8_wordsOf_65 : ins MX8_wordsOf 65 = some (.invokevirtual 186) := by decide +kernel
theorem i_X8_wordsOf_68 : ins MX8_wordsOf 68 = some (.ifCond .eq 7) := by decide +kernel
theorem i_X8_wordsOf_71 : ins MX8_wordsOf 71 = some (.iconst 1) := by decide +kernel
theorem i_X8_wordsOf_72 : ins MX8_wordsOf 72 = some (.goto 4) := by decide +kernel
theorem i_X8_wordsOf_75 : ins MX8_wordsOf 75 = some (.iconst 0) := by decide +kernel
theorem i_X8_wordsOf_76 : ins MX8_wordsOf 76 = some (.iadd) := by decide +kernel
theorem i_X8_wordsOf_77 : ins MX8_wordsOf 77 = some (.istore 6) := by decide +kernel
theorem i_X8_wordsOf_79 : ins MX8_wordsOf 79 = some (.iinc 7 1) := by decide +kernel
theorem i_X8_wordsOf_82 : ins MX8_wordsOf 82 = some (.iinc 8 1) := by decide +kernel
theorem i_X8_wordsOf_85 : ins MX8_wordsOf 85 = some (.goto (-51)) := by decide +kernel
theorem i_X8_wordsOf_88 : ins MX8_wordsOf 88 = some (.iload 7) := by decide +kernel
theorem i_X8_wordsOf_90 : ins MX8_wordsOf 90 = some (.bipush 7) := by decide +kernel
theorem i_X8_wordsOf_92 : ins MX8_wordsOf 92 = some (.if_icmp .ge 7) := by decide +kernel
theorem i_X8_wordsOf_95 : ins MX8_wordsOf 95 = some (.iconst 2) := by decide +kernel
theorem i_X8_wordsOf_96 : ins MX8_wordsOf 96 = some (.goto 24) := by decide +kernel
theorem i_X8_wordsOf_99 : ins MX8_wordsOf 99 = some (.iload 6) := by decide +kernel
theorem i_X8_wordsOf_101 : ins MX8_wordsOf 101 = some (.ifCond .ne 7) := by decide +kernel
theorem i_X8_wordsOf_104 : ins MX8_wordsOf 104 = some (.iconst 0) := by decide +kernel
theorem i_X8_wordsOf_105 : ins MX8_wordsOf 105 = some (.goto 15) := by decide +kernel
theorem i_X8_wordsOf_108 : ins MX8_wordsOf 108 = some (.iload 6) := by decide +kernel
theorem i_X8_wordsOf_110 : ins MX8_wordsOf 110 = some (.bipush 7) := by decide +kernel
theorem i_X8_wordsOf_112 : ins MX8_wordsOf 112 = some (.if_icmp .ne 7) := by decide +kernel
theorem i_X8_wordsOf_115 : ins MX8_wordsOf 115 = some (.iconst 1) := by decide +kernel
theorem i_X8_wordsOf_116 : ins MX8_wordsOf 116 = some (.goto 4) := by decide +kernel
theorem i_X8_wordsOf_119 : ins MX8_wordsOf 119 = some (.iconst 2) := by decide +kernel
theorem i_X8_wordsOf_120 : ins MX8_wordsOf 120 = some (.istore 8) := by decide +kernel
theorem i_X8_wordsOf_122 : ins MX8_wordsOf 122 = some (.iload_n 3) := by decide +kernel
theorem i_X8_wordsOf_123 : ins MX8_wordsOf 123 = some (.iload 8) := by decide +kernel
theorem i_X8_wordsOf_125 : ins MX8_wordsOf 125 = some (.iconst 2) := by decide +kernel
theorem i_X8_wordsOf_126 : ins MX8_wordsOf 126 = some (.if_icmp .ge 14) := by decide +kernel
theorem i_X8_wordsOf_129 : ins MX8_wordsOf 129 = some (.iload 8) := by decide +kernel
theorem i_X8_wordsOf_131 : ins MX8_wordsOf 131 = some (.iload 4) := by decide +kernel
theorem i_X8_wordsOf_133 : ins MX8_wordsOf 133 = some (.if_icmp .ne 7) := by decide +kernel
theorem i_X8_wordsOf_136 : ins MX8_wordsOf 136 = some (.iconst 0) := by decide +kernel
theorem i_X8_wordsOf_137 : ins MX8_wordsOf 137 = some (.goto 4) := by decide +kernel
theorem i_X8_wordsOf_140 : ins MX8_wordsOf 140 = some (.iconst 1) := by decide +kernel
theorem i_X8_wordsOf_141 : ins MX8_wordsOf 141 = some (.iadd) := by decide +kernel
theorem i_X8_wordsOf_142 : ins MX8_wordsOf 142 = some (.istore_n 3) := by decide +kernel
theorem i_X8_wordsOf_143 : ins MX8_wordsOf 143 = some (.iload 8) := by decide +kernel
theorem i_X8_wordsOf_145 : ins MX8_wordsOf 145 = some (.istore 4) := by decide +kernel
theorem i_X8_wordsOf_147 : ins MX8_wordsOf 147 = some (.iinc 5 1) := by decide +kernel
theorem i_X8_wordsOf_150 : ins MX8_wordsOf 150 = some (.goto (-136)) := by decide +kernel
theorem i_X8_wordsOf_153 : ins MX8_wordsOf 153 = some (.iload_n 3) := by decide +kernel
theorem i_X8_wordsOf_154 : ins MX8_wordsOf 154 = some (.ireturn) := by decide +kernel
theorem i_X8_allWords_0 : ins MX8_allWords 0 = some (.iconst 0) := by decide +kernel
theorem i_X8_allWords_1 : ins MX8_allWords 1 = some (.istore_n 1) := by decide +kernel
theorem i_X8_allWords_2 : ins MX8_allWords 2 = some (.iconst 0) := by decide +kernel
theorem i_X8_allWords_3 : ins MX8_allWords 3 = some (.istore_n 2) := by decide +kernel
theorem i_X8_allWords_4 : ins MX8_allWords 4 = some (.iload_n 2) := by decide +kernel
theorem i_X8_allWords_5 : ins MX8_allWords 5 = some (.iconst 4) := by decide +kernel
theorem i_X8_allWords_6 : ins MX8_allWords 6 = some (.if_icmp .ge 35) := by decide +kernel
theorem i_X8_allWords_9 : ins MX8_allWords 9 = some (.iconst 0) := by decide +kernel
theorem i_X8_allWords_10 : ins MX8_allWords 10 = some (.istore_n 3) := by decide +kernel
theorem i_X8_allWords_11 : ins MX8_allWords 11 = some (.iload_n 3) := by decide +kernel
theorem i_X8_allWords_12 : ins MX8_allWords 12 = some (.aload_n 0) := by decide +kernel
theorem i_X8_allWords_13 : ins MX8_allWords 13 = some (.iload_n 2) := by decide +kernel
theorem i_X8_allWords_14 : ins MX8_allWords 14 = some (.invokevirtual 156) := by decide +kernel
theorem i_X8_allWords_17 : ins MX8_allWords 17 = some (.if_icmp .ge 18) := by decide +kernel
theorem i_X8_allWords_20 : ins MX8_allWords 20 = some (.iload_n 1) := by decide +kernel
theorem i_X8_allWords_21 : ins MX8_allWords 21 = some (.aload_n 0) := by decide +kernel
theorem i_X8_allWords_22 : ins MX8_allWords 22 = some (.iload_n 2) := by decide +kernel
theorem i_X8_allWords_23 : ins MX8_allWords 23 = some (.iload_n 3) := by decide +kernel
theorem i_X8_allWords_24 : ins MX8_allWords 24 = some (.invokevirtual 342) := by decide +kernel
theorem i_X8_allWords_27 : ins MX8_allWords 27 = some (.iadd) := by decide +kernel
theorem i_X8_allWords_28 : ins MX8_allWords 28 = some (.istore_n 1) := by decide +kernel
theorem i_X8_allWords_29 : ins MX8_allWords 29 = some (.iinc 3 1) := by decide +kernel
theorem i_X8_allWords_32 : ins MX8_allWords 32 = some (.goto (-21)) := by decide +kernel
theorem i_X8_allWords_35 : ins MX8_allWords 35 = some (.iinc 2 1) := by decide +kernel
theorem i_X8_allWords_38 : ins MX8_allWords 38 = some (.goto (-34)) := by decide +kernel
theorem i_X8_allWords_41 : ins MX8_allWords 41 = some (.iload_n 1) := by decide +kernel
theorem i_X8_allWords_42 : ins MX8_allWords 42 = some (.ireturn) := by decide +kernel
theorem i_X8_words_0 : ins MX8_words 0 = some (.aload_n 0) := by decide +kernel
theorem i_X8_words_1 : ins MX8_words 1 = some (.iload_n 1) := by decide +kernel
theorem i_X8_words_2 : ins MX8_words 2 = some (.iload_n 2) := by decide +kernel
theorem i_X8_words_3 : ins MX8_words 3 = some (.invokevirtual 189) := by decide +kernel
theorem i_X8_words_6 : ins MX8_words 6 = some (.ifCond .ne 6) := by decide +kernel
theorem i_X8_words_9 : ins MX8_words 9 = some (.bipush (-101)) := by decide +kernel
theorem i_X8_words_11 : ins MX8_words 11 = some (.ireturn) := by decide +kernel
theorem i_X8_words_12 : ins MX8_words 12 = some (.aload_n 0) := by decide +kernel
theorem i_X8_words_13 : ins MX8_words 13 = some (.iload_n 3) := by decide +kernel
theorem i_X8_words_14 : ins MX8_words 14 = some (.invokevirtual 345) := by decide +kernel
theorem i_X8_words_17 : ins MX8_words 17 = some (.ifCond .ne 6) := by decide +kernel
theorem i_X8_words_20 : ins MX8_words 20 = some (.bipush (-102)) := by decide +kernel
theorem i_X8_words_22 : ins MX8_words 22 = some (.ireturn) := by decide +kernel
theorem i_X8_words_23 : ins MX8_words 23 = some (.aload_n 0) := by decide +kernel
theorem i_X8_words_24 : ins MX8_words 24 = some (.iload 4) := by decide +kernel
theorem i_X8_words_26 : ins MX8_words 26 = some (.invokevirtual 348) := by decide +kernel
theorem i_X8_words_29 : ins MX8_words 29 = some (.aload_n 0) := by decide +kernel
theorem i_X8_words_30 : ins MX8_words 30 = some (.iload_n 1) := by decide +kernel
theorem i_X8_words_31 : ins MX8_words 31 = some (.iload_n 2) := by decide +kernel
theorem i_X8_words_32 : ins MX8_words 32 = some (.invokevirtual 342) := by decide +kernel
theorem i_X8_words_35 : ins MX8_words 35 = some (.ireturn) := by decide +kernel
theorem i_X8_all_0 : ins MX8_all 0 = some (.aload_n 0) := by decide +kernel
theorem i_X8_all_1 : ins MX8_all 1 = some (.iload_n 1) := by decide +kernel
theorem i_X8_all_2 : ins MX8_all 2 = some (.invokevirtual 345) := by decide +kernel
theorem i_X8_all_5 : ins MX8_all 5 = some (.ifCond .ne 6) := by decide +kernel
theorem i_X8_all_8 : ins MX8_all 8 = some (.bipush (-102)) := by decide +kernel
theorem i_X8_all_10 : ins MX8_all 10 = some (.ireturn) := by decide +kernel
theorem i_X8_all_11 : ins MX8_all 11 = some (.aload_n 0) := by decide +kernel
theorem i_X8_all_12 : ins MX8_all 12 = some (.iload_n 2) := by decide +kernel
theorem i_X8_all_13 : ins MX8_all 13 = some (.invokevirtual 348) := by decide +kernel
theorem i_X8_all_16 : ins MX8_all 16 = some (.aload_n 0) := by decide +kernel
theorem i_X8_all_17 : ins MX8_all 17 = some (.invokevirtual 352) := by decide +kernel
theorem i_X8_all_20 : ins MX8_all 20 = some (.ireturn) := by decide +kernel
theorem i_X8_placed_0 : ins MX8_placed 0 = some (.aload_n 0) := by decide +kernel
theorem i_X8_placed_1 : ins MX8_placed 1 = some (.iload_n 1) := by decide +kernel
theorem i_X8_placed_2 : ins MX8_placed 2 = some (.invokevirtual 345) := by decide +kernel
theorem i_X8_placed_5 : ins MX8_placed 5 = some (.ifCond .eq 15) := by decide +kernel
theorem i_X8_placed_8 : ins MX8_placed 8 = some (.iload_n 3) := by decide +kernel
theorem i_X8_placed_9 : ins MX8_placed 9 = some (.i2l) := by decide +kernel
theorem i_X8_placed_10 : ins MX8_placed 10 = some (.lconst 0) := by decide +kernel
theorem i_X8_placed_11 : ins MX8_placed 11 = some (.ldc2_w 92) := by decide +kernel
theorem i_X8_placed_14 : ins MX8_placed 14 = some (.invokestatic 88) := by decide +kernel
theorem i_X8_placed_17 : ins MX8_placed 17 = some (.ifCond .ne 6) := by decide +kernel
theorem i_X8_placed_20 : ins MX8_placed 20 = some (.bipush (-102)) := by decide +kernel
theorem i_X8_placed_22 : ins MX8_placed 22 = some (.ireturn) := by decide +kernel
theorem i_X8_placed_23 : ins MX8_placed 23 = some (.aload_n 0) := by decide +kernel
theorem i_X8_placed_24 : ins MX8_placed 24 = some (.iload_n 2) := by decide +kernel
theorem i_X8_placed_25 : ins MX8_placed 25 = some (.invokevirtual 348) := by decide +kernel
theorem i_X8_placed_28 : ins MX8_placed 28 = some (.aload_n 0) := by decide +kernel
theorem i_X8_placed_29 : ins MX8_placed 29 = some (.getfield 80) := by decide +kernel
theorem i_X8_placed_32 : ins MX8_placed 32 = some (.iload_n 3) := by decide +kernel
theorem i_X8_placed_33 : ins MX8_placed 33 = some (.iaload) := by decide +kernel
theorem i_X8_placed_34 : ins MX8_placed 34 = some (.ireturn) := by decide +kernel
theorem i_X8_order_0 : ins MX8_order 0 = some (.iload_n 1) := by decide +kernel
theorem i_X8_order_1 : ins MX8_order 1 = some (.i2l) := by decide +kernel
theorem i_X8_order_2 : ins MX8_order 2 = some (.lconst 0) := by decide +kernel
theorem i_X8_order_3 : ins MX8_order 3 = some (.ldc2_w 98) := by decide +kernel
theorem i_X8_order_6 : ins MX8_order 6 = some (.invokestatic 88) := by decide +kernel
theorem i_X8_order_9 : ins MX8_order 9 = some (.ifCond .ne 6) := by decide +kernel
theorem i_X8_order_12 : ins MX8_order 12 = some (.bipush (-102)) := by decide +kernel
theorem i_X8_order_14 : ins MX8_order 14 = some (.ireturn) := by decide +kernel
theorem i_X8_order_15 : ins MX8_order 15 = some (.aload_n 0) := by decide +kernel
theorem i_X8_order_16 : ins MX8_order 16 = some (.getfield 355) := by decide +kernel
theorem i_X8_order_19 : ins MX8_order 19 = some (.bipush 30) := by decide +kernel
theorem i_X8_order_21 : ins MX8_order 21 = some (.if_icmp .ne 6) := by decide +kernel
theorem i_X8_order_24 : ins MX8_order 24 = some (.bipush (-103)) := by decide +kernel
theorem i_X8_order_26 : ins MX8_order 26 = some (.ireturn) := by decide +kernel
theorem i_X8_order_27 : ins MX8_order 27 = some (.aload_n 0) := by decide +kernel
theorem i_X8_order_28 : ins MX8_order 28 = some (.dup) := by decide +kernel
theorem i_X8_order_29 : ins MX8_order 29 = some (.getfield 355) := by decide +kernel
theorem i_X8_order_32 : ins MX8_order 32 = some (.iconst 1) := by decide +kernel
theorem i_X8_order_33 : ins MX8_order 33 = some (.iadd) := by decide +kernel
theorem i_X8_order_34 : ins MX8_order 34 = some (.putfield 355) := by decide +kernel
theorem i_X8_order_37 : ins MX8_order 37 = some (.iconst (-1)) := by decide +kernel
theorem i_X8_order_38 : ins MX8_order 38 = some (.istore_n 2) := by decide +kernel
theorem i_X8_order_39 : ins MX8_order 39 = some (.iconst 0) := by decide +kernel
theorem i_X8_order_40 : ins MX8_order 40 = some (.istore_n 3) := by decide +kernel
theorem i_X8_order_41 : ins MX8_order 41 = some (.iconst 0) := by decide +kernel
theorem i_X8_order_42 : ins MX8_order 42 = some (.istore 4) := by decide +kernel
theorem i_X8_order_44 : ins MX8_order 44 = some (.iconst 0) := by decide +kernel
theorem i_X8_order_45 : ins MX8_order 45 = some (.istore 5) := by decide +kernel
theorem i_X8_order_47 : ins MX8_order 47 = some (.iload 5) := by decide +kernel
theorem i_X8_order_49 : ins MX8_order 49 = some (.iconst 2) := by decide +kernel
theorem i_X8_order_50 : ins MX8_order 50 = some (.if_icmp .ge 77) := by decide +kernel
theorem i_X8_order_53 : ins MX8_order 53 = some (.iconst 0) := by decide +kernel
theorem i_X8_order_54 : ins MX8_order 54 = some (.istore 6) := by decide +kernel
theorem i_X8_order_56 : ins MX8_order 56 = some (.iload 6) := by decide +kernel
theorem i_X8_order_58 : ins MX8_order 58 = some (.sipush 256) := by decide +kernel
theorem i_X8_order_61 : ins MX8_order 61 = some (.if_icmp .ge 60) := by decide +kernel
theorem i_X8_order_64 : ins MX8_order 64 = some (.aload_n 0) := by decide +kernel
theorem i_X8_order_65 : ins MX8_order 65 = some (.iload 6) := by decide +kernel
theorem i_X8_order_67 : ins MX8_order 67 = some (.invokevirtual 345) := by decide +kernel
theorem i_X8_order_70 : ins MX8_order 70 = some (.ifCond .eq 45) := by decide +kernel
theorem i_X8_order_73 : ins MX8_order 73 = some (.aload_n 0) := by decide +kernel
theorem i_X8_order_74 : ins MX8_order 74 = some (.iload 5) := by decide +kernel
theorem i_X8_order_76 : ins MX8_order 76 = some (.iconst 1) := by decide +kernel
theorem i_X8_order_77 : ins MX8_order 77 = some (.if_icmp .ne 7) := by decide +kernel
theorem i_X8_order_80 : ins MX8_order 80 = some (.iconst 1) := by decide +kernel
theorem i_X8_order_81 : ins MX8_order 81 = some (.goto 4) := by decide +kernel
theorem i_X8_order_84 : ins MX8_order 84 = some (.iconst 0) := by decide +kernel
theorem i_X8_order_85 : ins MX8_order 85 = some (.invokevirtual 348) := by decide +kernel
theorem i_X8_order_88 : ins MX8_order 88 = some (.aload_n 0) := by decide +kernel
theorem i_X8_order_89 : ins MX8_order 89 = some (.invokevirtual 352) := by decide +kernel
theorem i_X8_order_92 : ins MX8_order 92 = some (.istore 7) := by decide +kernel
theorem i_X8_order_94 : ins MX8_order 94 = some (.iload_n 2) := by decide +kernel
theorem i_X8_order_95 : ins MX8_order 95 = some (.iconst (-1)) := by decide +kernel
theorem i_X8_order_96 : ins MX8_order 96 = some (.if_icmp .eq 9) := by decide +kernel
theorem i_X8_order_99 : ins MX8_order 99 = some (.iload 7) := by decide +kernel
theorem i_X8_order_101 : ins MX8_order 101 = some (.iload_n 2) := by decide +kernel
theorem i_X8_order_102 : ins MX8_order 102 = some (.if_icmp .ge 13) := by decide +kernel
theorem i_X8_order_105 : ins MX8_order 105 = some (.iload 7) := by decide +kernel
theorem i_X8_order_107 : ins MX8_order 107 = some (.istore_n 2) := by decide +kernel
theorem i_X8_order_108 : ins MX8_order 108 = some (.iload 6) := by decide +kernel
theorem i_X8_order_110 : ins MX8_order 110 = some (.istore_n 3) := by decide +kernel
theorem i_X8_order_111 : ins MX8_order 111 = some (.iload 5) := by decide +kernel
theorem i_X8_order_113 : ins MX8_order 113 = some (.istore 4) := by decide +kernel
theorem i_X8_order_115 : ins MX8_order 115 = some (.iinc 6 1) := by decide +kernel
theorem i_X8_order_118 : ins MX8_order 118 = some (.goto (-62)) := by decide +kernel
theorem i_X8_order_121 : ins MX8_order 121 = some (.iinc 5 1) := by decide +kernel
theorem i_X8_order_124 : ins MX8_order 124 = some (.goto (-77)) := by decide +kernel
theorem i_X8_order_127 : ins MX8_order 127 = some (.iload_n 1) := by decide +kernel
theorem i_X8_order_128 : ins MX8_order 128 = some (.ifCond .ne 7) := by decide +kernel
theorem i_X8_order_131 : ins MX8_order 131 = some (.iload_n 2) := by decide +kernel
theorem i_X8_order_132 : ins MX8_order 132 = some (.goto 14) := by decide +kernel
theorem i_X8_order_135 : ins MX8_order 135 = some (.iload_n 1) := by decide +kernel
theorem i_X8_order_136 : ins MX8_order 136 = some (.iconst 1) := by decide +kernel
theorem i_X8_order_137 : ins MX8_order 137 = some (.if_icmp .ne 7) := by decide +kernel
theorem i_X8_order_140 : ins MX8_order 140 = some (.iload_n 3) := by decide +kernel
theorem i_X8_order_141 : ins MX8_order 141 = some (.goto 5) := by decide +kernel
theorem i_X8_order_144 : ins MX8_order 144 = some (.iload 4) := by decide +kernel
theorem i_X8_order_146 : ins MX8_order 146 = some (.ireturn) := by decide +kernel
theorem i_X8_undo_0 : ins MX8_undo 0 = some (.aload_n 0) := by decide +kernel
theorem i_X8_undo_1 : ins MX8_undo 1 = some (.getfield 110) := by decide +kernel
theorem i_X8_undo_4 : ins MX8_undo 4 = some (.ifCond .ne 6) := by decide +kernel
theorem i_X8_undo_7 : ins MX8_undo 7 = some (.bipush (-103)) := by decide +kernel
theorem i_X8_undo_9 : ins MX8_undo 9 = some (.ireturn) := by decide +kernel
theorem i_X8_undo_10 : ins MX8_undo 10 = some (.aload_n 0) := by decide +kernel
theorem i_X8_undo_11 : ins MX8_undo 11 = some (.dup) := by decide +kernel
theorem i_X8_undo_12 : ins MX8_undo 12 = some (.getfield 110) := by decide +kernel
theorem i_X8_undo_15 : ins MX8_undo 15 = some (.iconst 1) := by decide +kernel
theorem i_X8_undo_16 : ins MX8_undo 16 = some (.isub) := by decide +kernel
theorem i_X8_undo_17 : ins MX8_undo 17 = some (.putfield 110) := by decide +kernel
theorem i_X8_undo_20 : ins MX8_undo 20 = some (.aload_n 0) := by decide +kernel
theorem i_X8_undo_21 : ins MX8_undo 21 = some (.getfield 20) := by decide +kernel
theorem i_X8_undo_24 : ins MX8_undo 24 = some (.aload_n 0) := by decide +kernel
theorem i_X8_undo_25 : ins MX8_undo 25 = some (.getfield 110) := by decide +kernel
theorem i_X8_undo_28 : ins MX8_undo 28 = some (.iaload) := by decide +kernel
theorem i_X8_undo_29 : ins MX8_undo 29 = some (.istore_n 1) := by decide +kernel
theorem i_X8_undo_30 : ins MX8_undo 30 = some (.aload_n 0) := by decide +kernel
theorem i_X8_undo_31 : ins MX8_undo 31 = some (.getfield 16) := by decide +kernel
theorem i_X8_undo_34 : ins MX8_undo 34 = some (.iload_n 1) := by decide +kernel
theorem i_X8_undo_35 : ins MX8_undo 35 = some (.aload_n 0) := by decide +kernel
theorem i_X8_undo_36 : ins MX8_undo 36 = some (.getfield 23) := by decide +kernel
theorem i_X8_undo_39 : ins MX8_undo 39 = some (.aload_n 0) := by decide +kernel
theorem i_X8_undo_40 : ins MX8_undo 40 = some (.getfield 110) := by decide +kernel
theorem i_X8_undo_43 : ins MX8_undo 43 = some (.baload) := by decide +kernel
theorem i_X8_undo_44 : ins MX8_undo 44 = some (.bastore) := by decide +kernel
theorem i_X8_undo_45 : ins MX8_undo 45 = some (.iconst 0) := by decide +kernel
theorem i_X8_undo_46 : ins MX8_undo 46 = some (.istore_n 2) := by decide +kernel
theorem i_X8_undo_47 : ins MX8_undo 47 = some (.iload_n 2) := by decide +kernel
theorem i_X8_undo_48 : ins MX8_undo 48 = some (.iconst 4) := by decide +kernel
theorem i_X8_undo_49 : ins MX8_undo 49 = some (.if_icmp .ge 32) := by decide +kernel
theorem i_X8_undo_52 : ins MX8_undo 52 = some (.aload_n 0) := by decide +kernel
theorem i_X8_undo_53 : ins MX8_undo 53 = some (.getfield 13) := by decide +kernel
theorem i_X8_undo_56 : ins MX8_undo 56 = some (.iconst 4) := by decide +kernel
theorem i_X8_undo_57 : ins MX8_undo 57 = some (.iload_n 1) := by decide +kernel
theorem i_X8_undo_58 : ins MX8_undo 58 = some (.imul) := by decide +kernel
theorem i_X8_undo_59 : ins MX8_undo 59 = some (.iload_n 2) := by decide +kernel
theorem i_X8_undo_60 : ins MX8_undo 60 = some (.iadd) := by decide +kernel
theorem i_X8_undo_61 : ins MX8_undo 61 = some (.aload_n 0) := by decide +kernel
theorem i_X8_undo_62 : ins MX8_undo 62 = some (.getfield 26) := by decide +kernel
theorem i_X8_undo_65 : ins MX8_undo 65 = some (.iconst 4) := by decide +kernel
theorem i_X8_undo_66 : ins MX8_undo 66 = some (.aload_n 0) := by decide +kernel
theorem i_X8_undo_67 : ins MX8_undo 67 = some (.getfield 110) := by decide +kernel
theorem i_X8_undo_70 : ins MX8_undo 70 = some (.imul) := by decide +kernel
theorem i_X8_undo_71 : ins MX8_undo 71 = some (.iload_n 2) := by decide +kernel
theorem i_X8_undo_72 : ins MX8_undo 72 = some (.iadd) := by decide +kernel
theorem i_X8_undo_73 : ins MX8_undo 73 = some (.iaload) := by decide +kernel
theorem i_X8_undo_74 : ins MX8_undo 74 = some (.iastore) := by decide +kernel
theorem i_X8_undo_75 : ins MX8_undo 75 = some (.iinc 2 1) := by decide +kernel
theorem i_X8_undo_78 : ins MX8_undo 78 = some (.goto (-31)) := by decide +kernel
theorem i_X8_undo_81 : ins MX8_undo 81 = some (.aload_n 0) := by decide +kernel
theorem i_X8_undo_82 : ins MX8_undo 82 = some (.getfield 110) := by decide +kernel
theorem i_X8_undo_85 : ins MX8_undo 85 = some (.ireturn) := by decide +kernel
theorem i_X8_mark_0 : ins MX8_mark 0 = some (.aload_n 0) := by decide +kernel
theorem i_X8_mark_1 : ins MX8_mark 1 = some (.getfield 106) := by decide +kernel
theorem i_X8_mark_4 : ins MX8_mark 4 = some (.iconst 3) := by decide +kernel
theorem i_X8_mark_5 : ins MX8_mark 5 = some (.if_icmp .ne 6) := by decide +kernel
theorem i_X8_mark_8 : ins MX8_mark 8 = some (.bipush (-104)) := by decide +kernel
theorem i_X8_mark_10 : ins MX8_mark 10 = some (.ireturn) := by decide +kernel
theorem i_X8_mark_11 : ins MX8_mark 11 = some (.iconst 0) := by decide +kernel
theorem i_X8_mark_12 : ins MX8_mark 12 = some (.istore_n 1) := by decide +kernel
theorem i_X8_mark_13 : ins MX8_mark 13 = some (.iload_n 1) := by decide +kernel
theorem i_X8_mark_14 : ins MX8_mark 14 = some (.bipush 64) := by decide +kernel
theorem i_X8_mark_16 : ins MX8_mark 16 = some (.if_icmp .ge 29) := by decide +kernel
theorem i_X8_mark_19 : ins MX8_mark 19 = some (.aload_n 0) := by decide +kernel
theorem i_X8_mark_20 : ins MX8_mark 20 = some (.getfield 29) := by decide +kernel
theorem i_X8_mark_23 : ins MX8_mark 23 = some (.bipush 64) := by decide +kernel
theorem i_X8_mark_25 : ins MX8_mark 25 = some (.aload_n 0) := by decide +kernel
theorem i_X8_mark_26 : ins MX8_mark 26 = some (.getfield 106) := by decide +kernel
theorem i_X8_mark_29 : ins MX8_mark 29 = some (.imul) := by decide +kernel
theorem i_X8_mark_30 : ins MX8_mark 30 = some (.iload_n 1) := by decide +kernel
theorem i_X8_mark_31 : ins MX8_mark 31 = some (.iadd) := by decide +kernel
theorem i_X8_mark_32 : ins MX8_mark 32 = some (.aload_n 0) := by decide +kernel
theorem i_X8_mark_33 : ins MX8_mark 33 = some (.getfield 16) := by decide +kernel
theorem i_X8_mark_36 : ins MX8_mark 36 = some (.iload_n 1) := by decide +kernel
theorem i_X8_mark_37 : ins MX8_mark 37 = some (.baload) := by decide +kernel
theorem i_X8_mark_38 : ins MX8_mark 38 = some (.bastore) := by decide +kernel
theorem i_X8_mark_39 : ins MX8_mark 39 = some (.iinc 1 1) := by decide +kernel
theorem i_X8_mark_42 : ins MX8_mark 42 = some (.goto (-29)) := by decide +kernel
theorem i_X8_mark_45 : ins MX8_mark 45 = some (.iconst 0) := by decide +kernel
theorem i_X8_mark_46 : ins MX8_mark 46 = some (.istore_n 1) := by decide +kernel
theorem i_X8_mark_47 : ins MX8_mark 47 = some (.iload_n 1) := by decide +kernel
theorem i_X8_mark_48 : ins MX8_mark 48 = some (.sipush 256) := by decide +kernel
theorem i_X8_mark_51 : ins MX8_mark 51 = some (.if_icmp .ge 30) := by decide +kernel
theorem i_X8_mark_54 : ins MX8_mark 54 = some (.aload_n 0) := by decide +kernel
theorem i_X8_mark_55 : ins MX8_mark 55 = some (.getfield 32) := by decide +kernel
theorem i_X8_mark_58 : ins MX8_mark 58 = some (.sipush 256) := by decide +kernel
theorem i_X8_mark_61 : ins MX8_mark 61 = some (.aload_n 0) := by decide +kernel
theorem i_X8_mark_62 : ins MX8_mark 62 = some (.getfield 106) := by decide +kernel
theorem i_X8_mark_65 : ins MX8_mark 65 = some (.imul) := by decide +kernel
theorem i_X8_mark_66 : ins MX8_mark 66 = some (.iload_n 1) := by decide +kernel
theorem i_X8_mark_67 : ins MX8_mark 67 = some (.iadd) := by decide +kernel
theorem i_X8_mark_68 : ins MX8_mark 68 = some (.aload_n 0) := by decide +kernel
theorem i_X8_mark_69 : ins MX8_mark 69 = some (.getfield 13) := by decide +kernel
theorem i_X8_mark_72 : ins MX8_mark 72 = some (.iload_n 1) := by decide +kernel
theorem i_X8_mark_73 : ins MX8_mark 73 = some (.iaload) := by decide +kernel
theorem i_X8_mark_74 : ins MX8_mark 74 = some (.iastore) := by decide +kernel
theorem i_X8_mark_75 : ins MX8_mark 75 = some (.iinc 1 1) := by decide +kernel
theorem i_X8_mark_78 : ins MX8_mark 78 = some (.goto (-31)) := by decide +kernel
theorem i_X8_mark_81 : ins MX8_mark 81 = some (.aload_n 0) := by decide +kernel
theorem i_X8_mark_82 : ins MX8_mark 82 = some (.dup) := by decide +kernel
theorem i_X8_mark_83 : ins MX8_mark 83 = some (.getfield 106) := by decide +kernel
theorem i_X8_mark_86 : ins MX8_mark 86 = some (.iconst 1) := by decide +kernel
theorem i_X8_mark_87 : ins MX8_mark 87 = some (.iadd) := by decide +kernel
theorem i_X8_mark_88 : ins MX8_mark 88 = some (.putfield 106) := by decide +kernel
theorem i_X8_mark_91 : ins MX8_mark 91 = some (.aload_n 0) := by decide +kernel
theorem i_X8_mark_92 : ins MX8_mark 92 = some (.getfield 106) := by decide +kernel
theorem i_X8_mark_95 : ins MX8_mark 95 = some (.ireturn) := by decide +kernel
theorem i_X8_back_0 : ins MX8_back 0 = some (.iload_n 1) := by decide +kernel
theorem i_X8_back_1 : ins MX8_back 1 = some (.i2l) := by decide +kernel
theorem i_X8_back_2 : ins MX8_back 2 = some (.lconst 0) := by decide +kernel
theorem i_X8_back_3 : ins MX8_back 3 = some (.aload_n 0) := by decide +kernel
theorem i_X8_back_4 : ins MX8_back 4 = some (.getfield 106) := by decide +kernel
theorem i_X8_back_7 : ins MX8_back 7 = some (.iconst 1) := by decide +kernel
theorem i_X8_back_8 : ins MX8_back 8 = some (.isub) := by decide +kernel
theorem i_X8_back_9 : ins MX8_back 9 = some (.i2l) := by decide +kernel
theorem i_X8_back_10 : ins MX8_back 10 = some (.invokestatic 88) := by decide +kernel
theorem i_X8_back_13 : ins MX8_back 13 = some (.ifCond .ne 6) := by decide +kernel
theorem i_X8_back_16 : ins MX8_back 16 = some (.bipush (-101)) := by decide +kernel
theorem i_X8_back_18 : ins MX8_back 18 = some (.ireturn) := by decide +kernel
theorem i_X8_back_19 : ins MX8_back 19 = some (.iconst 0) := by decide +kernel
theorem i_X8_back_20 : ins MX8_back 20 = some (.istore_n 2) := by decide +kernel
theorem i_X8_back_21 : ins MX8_back 21 = some (.iload_n 2) := by decide +kernel
theorem i_X8_back_22 : ins MX8_back 22 = some (.bipush 64) := by decide +kernel
theorem i_X8_back_24 : ins MX8_back 24 = some (.if_icmp .ge 26) := by decide +kernel
theorem i_X8_back_27 : ins MX8_back 27 = some (.aload_n 0) := by decide +kernel
theorem i_X8_back_28 : ins MX8_back 28 = some (.getfield 16) := by decide +kernel
theorem i_X8_back_31 : ins MX8_back 31 = some (.iload_n 2) := by decide +kernel
theorem i_X8_back_32 : ins MX8_back 32 = some (.aload_n 0) := by decide +kernel
theorem i_X8_back_33 : ins MX8_back 33 = some (.getfield 29) := by decide +kernel
theorem i_X8_back_36 : ins MX8_back 36 = some (.bipush 64) := by decide +kernel
theorem i_X8_back_38 : ins MX8_back 38 = some (.iload_n 1) := by decide +kernel
theorem i_X8_back_39 : ins MX8_back 39 = some (.imul) := by decide +kernel
theorem i_X8_back_40 : ins MX8_back 40 = some (.iload_n 2) := by decide +kernel
theorem i_X8_back_41 : ins MX8_back 41 = some (.iadd) := by decide +kernel
theorem i_X8_back_42 : ins MX8_back 42 = some (.baload) := by decide +kernel
theorem i_X8_back_43 : ins MX8_back 43 = some (.bastore) := by decide +kernel
theorem i_X8_back_44 : ins MX8_back 44 = some (.iinc 2 1) := by decide +kernel
theorem i_X8_back_47 : ins MX8_back 47 = some (.goto (-26)) := by decide +kernel
theorem i_X8_back_50 : ins MX8_back 50 = some (.iconst 0) := by decide +kernel
theorem i_X8_back_51 : ins MX8_back 51 = some (.istore_n 2) := by decide +kernel
theorem i_X8_back_52 : ins MX8_back 52 = some (.iload_n 2) := by decide +kernel
theorem i_X8_back_53 : ins MX8_back 53 = some (.sipush 256) := by decide +kernel
theorem i_X8_back_56 : ins MX8_back 56 = some (.if_icmp .ge 27) := by decide +kernel
theorem i_X8_back_59 : ins MX8_back 59 = some (.aload_n 0) := by decide +kernel
theorem i_X8_back_60 : ins MX8_back 60 = some (.getfield 13) := by decide +kernel
theorem i_X8_back_63 : ins MX8_back 63 = some (.iload_n 2) := by decide +kernel
theorem i_X8_back_64 : ins MX8_back 64 = some (.aload_n 0) := by decide +kernel
theorem i_X8_back_65 : ins MX8_back 65 = some (.getfield 32) := by decide +kernel
theorem i_X8_back_68 : ins MX8_back 68 = some (.sipush 256) := by decide +kernel
theorem i_X8_back_71 : ins MX8_back 71 = some (.iload_n 1) := by decide +kernel
theorem i_X8_back_72 : ins MX8_back 72 = some (.imul) := by decide +kernel
theorem i_X8_back_73 : ins MX8_back 73 = some (.iload_n 2) := by decide +kernel
theorem i_X8_back_74 : ins MX8_back 74 = some (.iadd) := by decide +kernel
theorem i_X8_back_75 : ins MX8_back 75 = some (.iaload) := by decide +kernel
theorem i_X8_back_76 : ins MX8_back 76 = some (.iastore) := by decide +kernel
theorem i_X8_back_77 : ins MX8_back 77 = some (.iinc 2 1) := by decide +kernel
theorem i_X8_back_80 : ins MX8_back 80 = some (.goto (-28)) := by decide +kernel
theorem i_X8_back_83 : ins MX8_back 83 = some (.aload_n 0) := by decide +kernel
theorem i_X8_back_84 : ins MX8_back 84 = some (.iload_n 1) := by decide +kernel
theorem i_X8_back_85 : ins MX8_back 85 = some (.iconst 1) := by decide +kernel
theorem i_X8_back_86 : ins MX8_back 86 = some (.iadd) := by decide +kernel
theorem i_X8_back_87 : ins MX8_back 87 = some (.putfield 106) := by decide +kernel
theorem i_X8_back_90 : ins MX8_back 90 = some (.aload_n 0) := by decide +kernel
theorem i_X8_back_91 : ins MX8_back 91 = some (.iconst 0) := by decide +kernel
theorem i_X8_back_92 : ins MX8_back 92 = some (.putfield 110) := by decide +kernel
theorem i_X8_back_95 : ins MX8_back 95 = some (.aload_n 0) := by decide +kernel
theorem i_X8_back_96 : ins MX8_back 96 = some (.invokevirtual 102) := by decide +kernel
theorem i_X8_back_99 : ins MX8_back 99 = some (.ireturn) := by decide +kernel
theorem i_X8_countOf_0 : ins MX8_countOf 0 = some (.iconst 0) := by decide +kernel
theorem i_X8_countOf_1 : ins MX8_countOf 1 = some (.istore_n 2) := by decide +kernel
theorem i_X8_countOf_2 : ins MX8_countOf 2 = some (.iload_n 1) := by decide +kernel
theorem i_X8_countOf_3 : ins MX8_countOf 3 = some (.tableswitch 120 0 8 #[49, 54, 59, 64, 69, 74, 74, 110, 115]) := by decide +kernel
theorem i_X8_countOf_52 : ins MX8_countOf 52 = some (.aload_n 0) := by decide +kernel
theorem i_X8_countOf_53 : ins MX8_countOf 53 = some (.invokevirtual 102) := by decide +kernel
theorem i_X8_countOf_56 : ins MX8_countOf 56 = some (.ireturn) := by decide +kernel
theorem i_X8_countOf_57 : ins MX8_countOf 57 = some (.aload_n 0) := by decide +kernel
theorem i_X8_countOf_58 : ins MX8_countOf 58 = some (.getfield 309) := by decide +kernel
theorem i_X8_countOf_61 : ins MX8_countOf 61 = some (.ireturn) := by decide +kernel
theorem i_X8_countOf_62 : ins MX8_countOf 62 = some (.aload_n 0) := by decide +kernel
theorem i_X8_countOf_63 : ins MX8_countOf 63 = some (.getfield 259) := by decide +kernel
theorem i_X8_countOf_66 : ins MX8_countOf 66 = some (.ireturn) := by decide +kernel
theorem i_X8_countOf_67 : ins MX8_countOf 67 = some (.aload_n 0) := by decide +kernel
theorem i_X8_countOf_68 : ins MX8_countOf 68 = some (.getfield 110) := by decide +kernel
theorem i_X8_countOf_71 : ins MX8_countOf 71 = some (.ireturn) := by decide +kernel
theorem i_X8_countOf_72 : ins MX8_countOf 72 = some (.aload_n 0) := by decide +kernel
theorem i_X8_countOf_73 : ins MX8_countOf 73 = some (.getfield 106) := by decide +kernel
theorem i_X8_countOf_76 : ins MX8_countOf 76 = some (.ireturn) := by decide +kernel
theorem i_X8_countOf_77 : ins MX8_countOf 77 = some (.iconst 0) := by decide +kernel
theorem i_X8_countOf_78 : ins MX8_countOf 78 = some (.istore_n 3) := by decide +kernel
theorem i_X8_countOf_79 : ins MX8_countOf 79 = some (.iload_n 3) := by decide +kernel
theorem i_X8_countOf_80 : ins MX8_countOf 80 = some (.iconst 4) := by decide +kernel
theorem i_X8_countOf_81 : ins MX8_countOf 81 = some (.if_icmp .ge 30) := by decide +kernel
theorem i_X8_countOf_84 : ins MX8_countOf 84 = some (.iload_n 2) := by decide +kernel
theorem i_X8_countOf_85 : ins MX8_countOf 85 = some (.iload_n 1) := by decide +kernel
theorem i_X8_countOf_86 : ins MX8_countOf 86 = some (.iconst 5) := by decide +kernel
theorem i_X8_countOf_87 : ins MX8_countOf 87 = some (.if_icmp .ne 11) := by decide +kernel
theorem i_X8_countOf_90 : ins MX8_countOf 90 = some (.aload_n 0) := by decide +kernel
theorem i_X8_countOf_91 : ins MX8_countOf 91 = some (.iload_n 3) := by decide +kernel
theorem i_X8_countOf_92 : ins MX8_countOf 92 = some (.invokevirtual 156) := by decide +kernel
theorem i_X8_countOf_95 : ins MX8_countOf 95 = some (.goto 8) := by decide +kernel
theorem i_X8_countOf_98 : ins MX8_countOf 98 = some (.aload_n 0) := by decide +kernel
theorem i_X8_countOf_99 : ins MX8_countOf 99 = some (.iload_n 3) := by decide +kernel
theorem i_X8_countOf_100 : ins MX8_countOf 100 = some (.invokevirtual 160) := by decide +kernel
theorem i_X8_countOf_103 : ins MX8_countOf 103 = some (.iadd) := by decide +kernel
theorem i_X8_countOf_104 : ins MX8_countOf 104 = some (.istore_n 2) := by decide +kernel
theorem i_X8_countOf_105 : ins MX8_countOf 105 = some (.iinc 3 1) := by decide +kernel
theorem i_X8_countOf_108 : ins MX8_countOf 108 = some (.goto (-29)) := by decide +kernel
theorem i_X8_countOf_111 : ins MX8_countOf 111 = some (.iload_n 2) := by decide +kernel
theorem i_X8_countOf_112 : ins MX8_countOf 112 = some (.ireturn) := by decide +kernel
theorem i_X8_countOf_113 : ins MX8_countOf 113 = some (.aload_n 0) := by decide +kernel
theorem i_X8_countOf_114 : ins MX8_countOf 114 = some (.getfield 251) := by decide +kernel
theorem i_X8_countOf_117 : ins MX8_countOf 117 = some (.ireturn) := by decide +kernel
theorem i_X8_countOf_118 : ins MX8_countOf 118 = some (.aload_n 0) := by decide +kernel
theorem i_X8_countOf_119 : ins MX8_countOf 119 = some (.getfield 355) := by decide +kernel
theorem i_X8_countOf_122 : ins MX8_countOf 122 = some (.ireturn) := by decide +kernel
theorem i_X8_countOf_123 : ins MX8_countOf 123 = some (.bipush (-102)) := by decide +kernel
theorem i_X8_countOf_125 : ins MX8_countOf 125 = some (.ireturn) := by decide +kernel
theorem i_X8_count_0 : ins MX8_count 0 = some (.aload_n 0) := by decide +kernel
theorem i_X8_count_1 : ins MX8_count 1 = some (.iload_n 1) := by decide +kernel
theorem i_X8_count_2 : ins MX8_count 2 = some (.invokevirtual 358) := by decide +kernel
theorem i_X8_count_5 : ins MX8_count 5 = some (.ireturn) := by decide +kernel
theorem i_X8_digest_0 : ins MX8_digest 0 = some (.ldc2_w 361) := by decide +kernel
theorem i_X8_digest_3 : ins MX8_digest 3 = some (.lstore_n 1) := by decide +kernel
theorem i_X8_digest_4 : ins MX8_digest 4 = some (.iconst 0) := by decide +kernel
theorem i_X8_digest_5 : ins MX8_digest 5 = some (.istore_n 3) := by decide +kernel
theorem i_X8_digest_6 : ins MX8_digest 6 = some (.iload_n 3) := by decide +kernel
theorem i_X8_digest_7 : ins MX8_digest 7 = some (.bipush 64) := by decide +kernel
theorem i_X8_digest_9 : ins MX8_digest 9 = some (.if_icmp .ge 39) := by decide +kernel
theorem i_X8_digest_12 : ins MX8_digest 12 = some (.iconst 0) := by decide +kernel
theorem i_X8_digest_13 : ins MX8_digest 13 = some (.istore 4) := by decide +kernel
theorem i_X8_digest_15 : ins MX8_digest 15 = some (.iload 4) := by decide +kernel
theorem i_X8_digest_17 : ins MX8_digest 17 = some (.iconst 4) := by decide +kernel
theorem i_X8_digest_18 : ins MX8_digest 18 = some (.if_icmp .ge 24) := by decide +kernel
theorem i_X8_digest_21 : ins MX8_digest 21 = some (.ldc2_w 363) := by decide +kernel
theorem i_X8_digest_24 : ins MX8_digest 24 = some (.lload_n 1) := by decide +kernel
theorem i_X8_digest_25 : ins MX8_digest 25 = some (.lmul) := by decide +kernel
theorem i_X8_digest_26 : ins MX8_digest 26 = some (.aload_n 0) := by decide +kernel
theorem i_X8_digest_27 : ins MX8_digest 27 = some (.iload_n 3) := by decide +kernel
theorem i_X8_digest_28 : ins MX8_digest 28 = some (.iload 4) := by decide +kernel
theorem i_X8_digest_30 : ins MX8_digest 30 = some (.invokevirtual 140) := by decide +kernel
theorem i_X8_digest_33 : ins MX8_digest 33 = some (.i2l) := by decide +kernel
theorem i_X8_digest_34 : ins MX8_digest 34 = some (.ladd) := by decide +kernel
theorem i_X8_digest_35 : ins MX8_digest 35 = some (.lstore_n 1) := by decide +kernel
theorem i_X8_digest_36 : ins MX8_digest 36 = some (.iinc 4 1) := by decide +kernel
theorem i_X8_digest_39 : ins MX8_digest 39 = some (.goto (-24)) := by decide +kernel
theorem i_X8_digest_42 : ins MX8_digest 42 = some (.iinc 3 1) := by decide +kernel
theorem i_X8_digest_45 : ins MX8_digest 45 = some (.goto (-39)) := by decide +kernel
theorem i_X8_digest_48 : ins MX8_digest 48 = some (.iconst 0) := by decide +kernel
theorem i_X8_digest_49 : ins MX8_digest 49 = some (.istore_n 3) := by decide +kernel
theorem i_X8_digest_50 : ins MX8_digest 50 = some (.iload_n 3) := by decide +kernel
theorem i_X8_digest_51 : ins MX8_digest 51 = some (.iconst 4) := by decide +kernel
theorem i_X8_digest_52 : ins MX8_digest 52 = some (.if_icmp .ge 83) := by decide +kernel
theorem i_X8_digest_55 : ins MX8_digest 55 = some (.iconst 0) := by decide +kernel
theorem i_X8_digest_56 : ins MX8_digest 56 = some (.istore 4) := by decide +kernel
theorem i_X8_digest_58 : ins MX8_digest 58 = some (.iload 4) := by decide +kernel
theorem i_X8_digest_60 : ins MX8_digest 60 = some (.iconst 5) := by decide +kernel
theorem i_X8_digest_61 : ins MX8_digest 61 = some (.if_icmp .ge 24) := by decide +kernel
theorem i_X8_digest_64 : ins MX8_digest 64 = some (.ldc2_w 363) := by decide +kernel
theorem i_X8_digest_67 : ins MX8_digest 67 = some (.lload_n 1) := by decide +kernel
theorem i_X8_digest_68 : ins MX8_digest 68 = some (.lmul) := by decide +kernel
theorem i_X8_digest_69 : ins MX8_digest 69 = some (.aload_n 0) := by decide +kernel
theorem i_X8_digest_70 : ins MX8_digest 70 = some (.iload_n 3) := by decide +kernel
theorem i_X8_digest_71 : ins MX8_digest 71 = some (.iload 4) := by decide +kernel
theorem i_X8_digest_73 : ins MX8_digest 73 = some (.invokevirtual 169) := by decide +kernel
theorem i_X8_digest_76 : ins MX8_digest 76 = some (.i2l) := by decide +kernel
theorem i_X8_digest_77 : ins MX8_digest 77 = some (.ladd) := by decide +kernel
theorem i_X8_digest_78 : ins MX8_digest 78 = some (.lstore_n 1) := by decide +kernel
theorem i_X8_digest_79 : ins MX8_digest 79 = some (.iinc 4 1) := by decide +kernel
theorem i_X8_digest_82 : ins MX8_digest 82 = some (.goto (-24)) := by decide +kernel
theorem i_X8_digest_85 : ins MX8_digest 85 = some (.bipush 10) := by decide +kernel
theorem i_X8_digest_87 : ins MX8_digest 87 = some (.istore 4) := by decide +kernel
theorem i_X8_digest_89 : ins MX8_digest 89 = some (.iload 4) := by decide +kernel
theorem i_X8_digest_91 : ins MX8_digest 91 = some (.bipush 15) := by decide +kernel
theorem i_X8_digest_93 : ins MX8_digest 93 = some (.if_icmp .ge 24) := by decide +kernel
theorem i_X8_digest_96 : ins MX8_digest 96 = some (.ldc2_w 363) := by decide +kernel
theorem i_X8_digest_99 : ins MX8_digest 99 = some (.lload_n 1) := by decide +kernel
theorem i_X8_digest_100 : ins MX8_digest 100 = some (.lmul) := by decide +kernel
theorem i_X8_digest_101 : ins MX8_digest 101 = some (.aload_n 0) := by decide +kernel
theorem i_X8_digest_102 : ins MX8_digest 102 = some (.iload_n 3) := by decide +kernel
theorem i_X8_digest_103 : ins MX8_digest 103 = some (.iload 4) := by decide +kernel
theorem i_X8_digest_105 : ins MX8_digest 105 = some (.invokevirtual 169) := by decide +kernel
theorem i_X8_digest_108 : ins MX8_digest 108 = some (.i2l) := by decide +kernel
theorem i_X8_digest_109 : ins MX8_digest 109 = some (.ladd) := by decide +kernel
theorem i_X8_digest_110 : ins MX8_digest 110 = some (.lstore_n 1) := by decide +kernel
theorem i_X8_digest_111 : ins MX8_digest 111 = some (.iinc 4 1) := by decide +kernel
theorem i_X8_digest_114 : ins MX8_digest 114 = some (.goto (-25)) := by decide +kernel
theorem i_X8_digest_117 : ins MX8_digest 117 = some (.ldc2_w 363) := by decide +kernel
theorem i_X8_digest_120 : ins MX8_digest 120 = some (.lload_n 1) := by decide +kernel
theorem i_X8_digest_121 : ins MX8_digest 121 = some (.lmul) := by decide +kernel
theorem i_X8_digest_122 : ins MX8_digest 122 = some (.aload_n 0) := by decide +kernel
theorem i_X8_digest_123 : ins MX8_digest 123 = some (.iload_n 3) := by decide +kernel
theorem i_X8_digest_124 : ins MX8_digest 124 = some (.invokevirtual 330) := by decide +kernel
theorem i_X8_digest_127 : ins MX8_digest 127 = some (.ladd) := by decide +kernel
theorem i_X8_digest_128 : ins MX8_digest 128 = some (.lstore_n 1) := by decide +kernel
theorem i_X8_digest_129 : ins MX8_digest 129 = some (.iinc 3 1) := by decide +kernel
theorem i_X8_digest_132 : ins MX8_digest 132 = some (.goto (-82)) := by decide +kernel
theorem i_X8_digest_135 : ins MX8_digest 135 = some (.iconst 0) := by decide +kernel
theorem i_X8_digest_136 : ins MX8_digest 136 = some (.istore_n 3) := by decide +kernel
theorem i_X8_digest_137 : ins MX8_digest 137 = some (.iload_n 3) := by decide +kernel
theorem i_X8_digest_138 : ins MX8_digest 138 = some (.aload_n 0) := by decide +kernel
theorem i_X8_digest_139 : ins MX8_digest 139 = some (.getfield 309) := by decide +kernel
theorem i_X8_digest_142 : ins MX8_digest 142 = some (.if_icmp .ge 39) := by decide +kernel
theorem i_X8_digest_145 : ins MX8_digest 145 = some (.iconst 0) := by decide +kernel
theorem i_X8_digest_146 : ins MX8_digest 146 = some (.istore 4) := by decide +kernel
theorem i_X8_digest_148 : ins MX8_digest 148 = some (.iload 4) := by decide +kernel
theorem i_X8_digest_150 : ins MX8_digest 150 = some (.iconst 3) := by decide +kernel
theorem i_X8_digest_151 : ins MX8_digest 151 = some (.if_icmp .ge 24) := by decide +kernel
theorem i_X8_digest_154 : ins MX8_digest 154 = some (.ldc2_w 363) := by decide +kernel
theorem i_X8_digest_157 : ins MX8_digest 157 = some (.lload_n 1) := by decide +kernel
theorem i_X8_digest_158 : ins MX8_digest 158 = some (.lmul) := by decide +kernel
theorem i_X8_digest_159 : ins MX8_digest 159 = some (.aload_n 0) := by decide +kernel
theorem i_X8_digest_160 : ins MX8_digest 160 = some (.iload_n 3) := by decide +kernel
theorem i_X8_digest_161 : ins MX8_digest 161 = some (.iload 4) := by decide +kernel
theorem i_X8_digest_163 : ins MX8_digest 163 = some (.invokevirtual 327) := by decide +kernel
theorem i_X8_digest_166 : ins MX8_digest 166 = some (.i2l) := by decide +kernel
theorem i_X8_digest_167 : ins MX8_digest 167 = some (.ladd) := by decide +kernel
theorem i_X8_digest_168 : ins MX8_digest 168 = some (.lstore_n 1) := by decide +kernel
theorem i_X8_digest_169 : ins MX8_digest 169 = some (.iinc 4 1) := by decide +kernel
theorem i_X8_digest_172 : ins MX8_digest 172 = some (.goto (-24)) := by decide +kernel
theorem i_X8_digest_175 : ins MX8_digest 175 = some (.iinc 3 1) := by decide +kernel
theorem i_X8_digest_178 : ins MX8_digest 178 = some (.goto (-41)) := by decide +kernel
theorem i_X8_digest_181 : ins MX8_digest 181 = some (.iconst 0) := by decide +kernel
theorem i_X8_digest_182 : ins MX8_digest 182 = some (.istore_n 3) := by decide +kernel
theorem i_X8_digest_183 : ins MX8_digest 183 = some (.iload_n 3) := by decide +kernel
theorem i_X8_digest_184 : ins MX8_digest 184 = some (.aload_n 0) := by decide +kernel
theorem i_X8_digest_185 : ins MX8_digest 185 = some (.getfield 259) := by decide +kernel
theorem i_X8_digest_188 : ins MX8_digest 188 = some (.if_icmp .ge 23) := by decide +kernel
theorem i_X8_digest_191 : ins MX8_digest 191 = some (.ldc2_w 363) := by decide +kernel
theorem i_X8_digest_194 : ins MX8_digest 194 = some (.lload_n 1) := by decide +kernel
theorem i_X8_digest_195 : ins MX8_digest 195 = some (.lmul) := by decide +kernel
theorem i_X8_digest_196 : ins MX8_digest 196 = some (.aload_n 0) := by decide +kernel
theorem i_X8_digest_197 : ins MX8_digest 197 = some (.getfield 56) := by decide +kernel
theorem i_X8_digest_200 : ins MX8_digest 200 = some (.iload_n 3) := by decide +kernel
theorem i_X8_digest_201 : ins MX8_digest 201 = some (.iaload) := by decide +kernel
theorem i_X8_digest_202 : ins MX8_digest 202 = some (.i2l) := by decide +kernel
theorem i_X8_digest_203 : ins MX8_digest 203 = some (.ladd) := by decide +kernel
theorem i_X8_digest_204 : ins MX8_digest 204 = some (.lstore_n 1) := by decide +kernel
theorem i_X8_digest_205 : ins MX8_digest 205 = some (.iinc 3 1) := by decide +kernel
theorem i_X8_digest_208 : ins MX8_digest 208 = some (.goto (-25)) := by decide +kernel
theorem i_X8_digest_211 : ins MX8_digest 211 = some (.iconst 0) := by decide +kernel
theorem i_X8_digest_212 : ins MX8_digest 212 = some (.istore_n 3) := by decide +kernel
theorem i_X8_digest_213 : ins MX8_digest 213 = some (.iload_n 3) := by decide +kernel
theorem i_X8_digest_214 : ins MX8_digest 214 = some (.bipush 9) := by decide +kernel
theorem i_X8_digest_216 : ins MX8_digest 216 = some (.if_icmp .ge 22) := by decide +kernel
theorem i_X8_digest_219 : ins MX8_digest 219 = some (.ldc2_w 363) := by decide +kernel
theorem i_X8_digest_222 : ins MX8_digest 222 = some (.lload_n 1) := by decide +kernel
theorem i_X8_digest_223 : ins MX8_digest 223 = some (.lmul) := by decide +kernel
theorem i_X8_digest_224 : ins MX8_digest 224 = some (.aload_n 0) := by decide +kernel
theorem i_X8_digest_225 : ins MX8_digest 225 = some (.iload_n 3) := by decide +kernel
theorem i_X8_digest_226 : ins MX8_digest 226 = some (.invokevirtual 358) := by decide +kernel
theorem i_X8_digest_229 : ins MX8_digest 229 = some (.i2l) := by decide +kernel
theorem i_X8_digest_230 : ins MX8_digest 230 = some (.ladd) := by decide +kernel
theorem i_X8_digest_231 : ins MX8_digest 231 = some (.lstore_n 1) := by decide +kernel
theorem i_X8_digest_232 : ins MX8_digest 232 = some (.iinc 3 1) := by decide +kernel
theorem i_X8_digest_235 : ins MX8_digest 235 = some (.goto (-22)) := by decide +kernel
theorem i_X8_digest_238 : ins MX8_digest 238 = some (.lload_n 1) := by decide +kernel
theorem i_X8_digest_239 : ins MX8_digest 239 = some (.lreturn) := by decide +kernel
