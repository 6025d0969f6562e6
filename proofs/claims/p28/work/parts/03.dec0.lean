theorem dX0_init_0 : decode cX0_init 0 = .ok (.aload_n 0, 1) := by decide +kernel
theorem dX0_init_1 : decode cX0_init 1 = .ok (.invokespecial 3, 3) := by decide +kernel
theorem dX0_init_4 : decode cX0_init 4 = .ok (.aload_n 0, 1) := by decide +kernel
theorem dX0_init_5 : decode cX0_init 5 = .ok (.bipush 8, 2) := by decide +kernel
theorem dX0_init_7 : decode cX0_init 7 = .ok (.newarray .int, 2) := by decide +kernel
theorem dX0_init_9 : decode cX0_init 9 = .ok (.putfield 9, 3) := by decide +kernel
theorem dX0_init_12 : decode cX0_init 12 = .ok (.aload_n 0, 1) := by decide +kernel
theorem dX0_init_13 : decode cX0_init 13 = .ok (.bipush 8, 2) := by decide +kernel
theorem dX0_init_15 : decode cX0_init 15 = .ok (.newarray .int, 2) := by decide +kernel
theorem dX0_init_17 : decode cX0_init 17 = .ok (.putfield 15, 3) := by decide +kernel
theorem dX0_init_20 : decode cX0_init 20 = .ok (.aload_n 0, 1) := by decide +kernel
theorem dX0_init_21 : decode cX0_init 21 = .ok (.bipush 8, 2) := by decide +kernel
theorem dX0_init_23 : decode cX0_init 23 = .ok (.newarray .int, 2) := by decide +kernel
theorem dX0_init_25 : decode cX0_init 25 = .ok (.putfield 18, 3) := by decide +kernel
theorem dX0_init_28 : decode cX0_init 28 = .ok (.aload_n 0, 1) := by decide +kernel
theorem dX0_init_29 : decode cX0_init 29 = .ok (.bipush 48, 2) := by decide +kernel
theorem dX0_init_31 : decode cX0_init 31 = .ok (.newarray .int, 2) := by decide +kernel
theorem dX0_init_33 : decode cX0_init 33 = .ok (.putfield 21, 3) := by decide +kernel
theorem dX0_init_36 : decode cX0_init 36 = .ok (.aload_n 0, 1) := by decide +kernel
theorem dX0_init_37 : decode cX0_init 37 = .ok (.iconst 3, 1) := by decide +kernel
theorem dX0_init_38 : decode cX0_init 38 = .ok (.newarray .int, 2) := by decide +kernel
theorem dX0_init_40 : decode cX0_init 40 = .ok (.putfield 24, 3) := by decide +kernel
theorem dX0_init_43 : decode cX0_init 43 = .ok (.aload_n 0, 1) := by decide +kernel
theorem dX0_init_44 : decode cX0_init 44 = .ok (.bipush 18, 2) := by decide +kernel
theorem dX0_init_46 : decode cX0_init 46 = .ok (.newarray .int, 2) := by decide +kernel
theorem dX0_init_48 : decode cX0_init 48 = .ok (.putfield 27, 3) := by decide +kernel
theorem dX0_init_51 : decode cX0_init 51 = .ok (.aload_n 0, 1) := by decide +kernel
theorem dX0_init_52 : decode cX0_init 52 = .ok (.bipush 18, 2) := by decide +kernel
theorem dX0_init_54 : decode cX0_init 54 = .ok (.newarray .int, 2) := by decide +kernel
theorem dX0_init_56 : decode cX0_init 56 = .ok (.putfield 30, 3) := by decide +kernel
theorem dX0_init_59 : decode cX0_init 59 = .ok (.aload_n 0, 1) := by decide +kernel
theorem dX0_init_60 : decode cX0_init 60 = .ok (.iconst 3, 1) := by decide +kernel
theorem dX0_init_61 : decode cX0_init 61 = .ok (.newarray .int, 2) := by decide +kernel
theorem dX0_init_63 : decode cX0_init 63 = .ok (.putfield 33, 3) := by decide +kernel
theorem dX0_init_66 : decode cX0_init 66 = .ok (.aload_n 0, 1) := by decide +kernel
theorem dX0_init_67 : decode cX0_init 67 = .ok (.bipush 24, 2) := by decide +kernel
theorem dX0_init_69 : decode cX0_init 69 = .ok (.newarray .int, 2) := by decide +kernel
theorem dX0_init_71 : decode cX0_init 71 = .ok (.putfield 36, 3) := by decide +kernel
theorem dX0_init_74 : decode cX0_init 74 = .ok (.aload_n 0, 1) := by decide +kernel
theorem dX0_init_75 : decode cX0_init 75 = .ok (.bipush 24, 2) := by decide +kernel
theorem dX0_init_77 : decode cX0_init 77 = .ok (.newarray .int, 2) := by decide +kernel
theorem dX0_init_79 : decode cX0_init 79 = .ok (.putfield 39, 3) := by decide +kernel
theorem dX0_init_82 : decode cX0_init 82 = .ok (.aload_n 0, 1) := by decide +kernel
theorem dX0_init_83 : decode cX0_init 83 = .ok (.bipush 24, 2) := by decide +kernel
theorem dX0_init_85 : decode cX0_init 85 = .ok (.newarray .int, 2) := by decide +kernel
theorem dX0_init_87 : decode cX0_init 87 = .ok (.putfield 42, 3) := by decide +kernel
theorem dX0_init_90 : decode cX0_init 90 = .ok (.aload_n 0, 1) := by decide +kernel
theorem dX0_init_91 : decode cX0_init 91 = .ok (.bipush 24, 2) := by decide +kernel
theorem dX0_init_93 : decode cX0_init 93 = .ok (.newarray .int, 2) := by decide +kernel
theorem dX0_init_95 : decode cX0_init 95 = .ok (.putfield 45, 3) := by decide +kernel
theorem dX0_init_98 : decode cX0_init 98 = .ok (.aload_n 0, 1) := by decide +kernel
theorem dX0_init_99 : decode cX0_init 99 = .ok (.bipush 24, 2) := by decide +kernel
theorem dX0_init_101 : decode cX0_init 101 = .ok (.newarray .int, 2) := by decide +kernel
theorem dX0_init_103 : decode cX0_init 103 = .ok (.putfield 48, 3) := by decide +kernel
theorem dX0_init_106 : decode cX0_init 106 = .ok (.aload_n 0, 1) := by decide +kernel
theorem dX0_init_107 : decode cX0_init 107 = .ok (.getfield 21, 3) := by decide +kernel
theorem dX0_init_110 : decode cX0_init 110 = .ok (.iconst (-1), 1) := by decide +kernel
theorem dX0_init_111 : decode cX0_init 111 = .ok (.invokestatic 51, 3) := by decide +kernel
theorem dX0_init_114 : decode cX0_init 114 = .ok (.aload_n 0, 1) := by decide +kernel
theorem dX0_init_115 : decode cX0_init 115 = .ok (.getfield 24, 3) := by decide +kernel
theorem dX0_init_118 : decode cX0_init 118 = .ok (.iconst (-1), 1) := by decide +kernel
theorem dX0_init_119 : decode cX0_init 119 = .ok (.invokestatic 51, 3) := by decide +kernel
theorem dX0_init_122 : decode cX0_init 122 = .ok (.aload_n 0, 1) := by decide +kernel
theorem dX0_init_123 : decode cX0_init 123 = .ok (.getfield 27, 3) := by decide +kernel
theorem dX0_init_126 : decode cX0_init 126 = .ok (.iconst (-1), 1) := by decide +kernel
theorem dX0_init_127 : decode cX0_init 127 = .ok (.invokestatic 51, 3) := by decide +kernel
theorem dX0_init_130 : decode cX0_init 130 = .ok (.return_, 1) := by decide +kernel
theorem dX0_copyFrom_0 : decode cX0_copyFrom 0 = .ok (.aload_n 0, 1) := by decide +kernel
theorem dX0_copyFrom_1 : decode cX0_copyFrom 1 = .ok (.aload_n 1, 1) := by decide +kernel
theorem dX0_copyFrom_2 : decode cX0_copyFrom 2 = .ok (.getfield 57, 3) := by decide +kernel
theorem dX0_copyFrom_5 : decode cX0_copyFrom 5 = .ok (.putfield 57, 3) := by decide +kernel
theorem dX0_copyFrom_8 : decode cX0_copyFrom 8 = .ok (.aload_n 0, 1) := by decide +kernel
theorem dX0_copyFrom_9 : decode cX0_copyFrom 9 = .ok (.aload_n 1, 1) := by decide +kernel
theorem dX0_copyFrom_10 : decode cX0_copyFrom 10 = .ok (.getfield 61, 3) := by decide +kernel
theorem dX0_copyFrom_13 : decode cX0_copyFrom 13 = .ok (.putfield 61, 3) := by decide +kernel
theorem dX0_copyFrom_16 : decode cX0_copyFrom 16 = .ok (.aload_n 0, 1) := by decide +kernel
theorem dX0_copyFrom_17 : decode cX0_copyFrom 17 = .ok (.aload_n 1, 1) := by decide +kernel
theorem dX0_copyFrom_18 : decode cX0_copyFrom 18 = .ok (.getfield 64, 3) := by decide +kernel
theorem dX0_copyFrom_21 : decode cX0_copyFrom 21 = .ok (.putfield 64, 3) := by decide +kernel
theorem dX0_copyFrom_24 : decode cX0_copyFrom 24 = .ok (.aload_n 0, 1) := by decide +kernel
theorem dX0_copyFrom_25 : decode cX0_copyFrom 25 = .ok (.aload_n 1, 1) := by decide +kernel
theorem dX0_copyFrom_26 : decode cX0_copyFrom 26 = .ok (.getfield 67, 3) := by decide +kernel
theorem dX0_copyFrom_29 : decode cX0_copyFrom 29 = .ok (.putfield 67, 3) := by decide +kernel
theorem dX0_copyFrom_32 : decode cX0_copyFrom 32 = .ok (.aload_n 0, 1) := by decide +kernel
theorem dX0_copyFrom_33 : decode cX0_copyFrom 33 = .ok (.aload_n 1, 1) := by decide +kernel
theorem dX0_copyFrom_34 : decode cX0_copyFrom 34 = .ok (.getfield 70, 3) := by decide +kernel
theorem dX0_copyFrom_37 : decode cX0_copyFrom 37 = .ok (.putfield 70, 3) := by decide +kernel
theorem dX0_copyFrom_40 : decode cX0_copyFrom 40 = .ok (.aload_n 1, 1) := by decide +kernel
theorem dX0_copyFrom_41 : decode cX0_copyFrom 41 = .ok (.getfield 9, 3) := by decide +kernel
theorem dX0_copyFrom_44 : decode cX0_copyFrom 44 = .ok (.iconst 0, 1) := by decide +kernel
theorem dX0_copyFrom_45 : decode cX0_copyFrom 45 = .ok (.aload_n 0, 1) := by decide +kernel
theorem dX0_copyFrom_46 : decode cX0_copyFrom 46 = .ok (.getfield 9, 3) := by decide +kernel
theorem dX0_copyFrom_49 : decode cX0_copyFrom 49 = .ok (.iconst 0, 1) := by decide +kernel
theorem dX0_copyFrom_50 : decode cX0_copyFrom 50 = .ok (.bipush 8, 2) := by decide +kernel
theorem dX0_copyFrom_52 : decode cX0_copyFrom 52 = .ok (.invokestatic 73, 3) := by decide +kernel
theorem dX0_copyFrom_55 : decode cX0_copyFrom 55 = .ok (.aload_n 1, 1) := by decide +kernel
theorem dX0_copyFrom_56 : decode cX0_copyFrom 56 = .ok (.getfield 15, 3) := by decide +kernel
theorem dX0_copyFrom_59 : decode cX0_copyFrom 59 = .ok (.iconst 0, 1) := by decide +kernel
theorem dX0_copyFrom_60 : decode cX0_copyFrom 60 = .ok (.aload_n 0, 1) := by decide +kernel
theorem dX0_copyFrom_61 : decode cX0_copyFrom 61 = .ok (.getfield 15, 3) := by decide +kernel
theorem dX0_copyFrom_64 : decode cX0_copyFrom 64 = .ok (.iconst 0, 1) := by decide +kernel
theorem dX0_copyFrom_65 : decode cX0_copyFrom 65 = .ok (.bipush 8, 2) := by decide +kernel
theorem dX0_copyFrom_67 : decode cX0_copyFrom 67 = .ok (.invokestatic 73, 3) := by decide +kernel
theorem dX0_copyFrom_70 : decode cX0_copyFrom 70 = .ok (.aload_n 1, 1) := by decide +kernel
theorem dX0_copyFrom_71 : decode cX0_copyFrom 71 = .ok (.getfield 18, 3) := by decide +kernel
theorem dX0_copyFrom_74 : decode cX0_copyFrom 74 = .ok (.iconst 0, 1) := by decide +kernel
theorem dX0_copyFrom_75 : decode cX0_copyFrom 75 = .ok (.aload_n 0, 1) := by decide +kernel
theorem dX0_copyFrom_76 : decode cX0_copyFrom 76 = .ok (.getfield 18, 3) := by decide +kernel
theorem dX0_copyFrom_79 : decode cX0_copyFrom 79 = .ok (.iconst 0, 1) := by decide +kernel
theorem dX0_copyFrom_80 : decode cX0_copyFrom 80 = .ok (.bipush 8, 2) := by decide +kernel
theorem dX0_copyFrom_82 : decode cX0_copyFrom 82 = .ok (.invokestatic 73, 3) := by decide +kernel
theorem dX0_copyFrom_85 : decode cX0_copyFrom 85 = .ok (.aload_n 1, 1) := by decide +kernel
theorem dX0_copyFrom_86 : decode cX0_copyFrom 86 = .ok (.getfield 21, 3) := by decide +kernel
theorem dX0_copyFrom_89 : decode cX0_copyFrom 89 = .ok (.iconst 0, 1) := by decide +kernel
theorem dX0_copyFrom_90 : decode cX0_copyFrom 90 = .ok (.aload_n 0, 1) := by decide +kernel
theorem dX0_copyFrom_91 : decode cX0_copyFrom 91 = .ok (.getfield 21, 3) := by decide +kernel
theorem dX0_copyFrom_94 : decode cX0_copyFrom 94 = .ok (.iconst 0, 1) := by decide +kernel
theorem dX0_copyFrom_95 : decode cX0_copyFrom 95 = .ok (.bipush 48, 2) := by decide +kernel
theorem dX0_copyFrom_97 : decode cX0_copyFrom 97 = .ok (.invokestatic 73, 3) := by decide +kernel
theorem dX0_copyFrom_100 : decode cX0_copyFrom 100 = .ok (.aload_n 1, 1) := by decide +kernel
theorem dX0_copyFrom_101 : decode cX0_copyFrom 101 = .ok (.getfield 24, 3) := by decide +kernel
theorem dX0_copyFrom_104 : decode cX0_copyFrom 104 = .ok (.iconst 0, 1) := by decide +kernel
theorem dX0_copyFrom_105 : decode cX0_copyFrom 105 = .ok (.aload_n 0, 1) := by decide +kernel
theorem dX0_copyFrom_106 : decode cX0_copyFrom 106 = .ok (.getfield 24, 3) := by decide +kernel
theorem dX0_copyFrom_109 : decode cX0_copyFrom 109 = .ok (.iconst 0, 1) := by decide +kernel
theorem dX0_copyFrom_110 : decode cX0_copyFrom 110 = .ok (.iconst 3, 1) := by decide +kernel
theorem dX0_copyFrom_111 : decode cX0_copyFrom 111 = .ok (.invokestatic 73, 3) := by decide +kernel
theorem dX0_copyFrom_114 : decode cX0_copyFrom 114 = .ok (.aload_n 1, 1) := by decide +kernel
theorem dX0_copyFrom_115 : decode cX0_copyFrom 115 = .ok (.getfield 27, 3) := by decide +kernel
theorem dX0_copyFrom_118 : decode cX0_copyFrom 118 = .ok (.iconst 0, 1) := by decide +kernel
theorem dX0_copyFrom_119 : decode cX0_copyFrom 119 = .ok (.aload_n 0, 1) := by decide +kernel
theorem dX0_copyFrom_120 : decode cX0_copyFrom 120 = .ok (.getfield 27, 3) := by decide +kernel
theorem dX0_copyFrom_123 : decode cX0_copyFrom 123 = .ok (.iconst 0, 1) := by decide +kernel
theorem dX0_copyFrom_124 : decode cX0_copyFrom 124 = .ok (.bipush 18, 2) := by decide +kernel
theorem dX0_copyFrom_126 : decode cX0_copyFrom 126 = .ok (.invokestatic 73, 3) := by decide +kernel
theorem dX0_copyFrom_129 : decode cX0_copyFrom 129 = .ok (.aload_n 1, 1) := by decide +kernel
theorem dX0_copyFrom_130 : decode cX0_copyFrom 130 = .ok (.getfield 30, 3) := by decide +kernel
theorem dX0_copyFrom_133 : decode cX0_copyFrom 133 = .ok (.iconst 0, 1) := by decide +kernel
theorem dX0_copyFrom_134 : decode cX0_copyFrom 134 = .ok (.aload_n 0, 1) := by decide +kernel
theorem dX0_copyFrom_135 : decode cX0_copyFrom 135 = .ok (.getfield 30, 3) := by decide +kernel
theorem dX0_copyFrom_138 : decode cX0_copyFrom 138 = .ok (.iconst 0, 1) := by decide +kernel
theorem dX0_copyFrom_139 : decode cX0_copyFrom 139 = .ok (.bipush 18, 2) := by decide +kernel
theorem dX0_copyFrom_141 : decode cX0_copyFrom 141 = .ok (.invokestatic 73, 3) := by decide +kernel
theorem dX0_copyFrom_144 : decode cX0_copyFrom 144 = .ok (.aload_n 1, 1) := by decide +kernel
theorem dX0_copyFrom_145 : decode cX0_copyFrom 145 = .ok (.getfield 33, 3) := by decide +kernel
theorem dX0_copyFrom_148 : decode cX0_copyFrom 148 = .ok (.iconst 0, 1) := by decide +kernel
theorem dX0_copyFrom_149 : decode cX0_copyFrom 149 = .ok (.aload_n 0, 1) := by decide +kernel
theorem dX0_copyFrom_150 : decode cX0_copyFrom 150 = .ok (.getfield 33, 3) := by decide +kernel
theorem dX0_copyFrom_153 : decode cX0_copyFrom 153 = .ok (.iconst 0, 1) := by decide +kernel
theorem dX0_copyFrom_154 : decode cX0_copyFrom 154 = .ok (.iconst 3, 1) := by decide +kernel
theorem dX0_copyFrom_155 : decode cX0_copyFrom 155 = .ok (.invokestatic 73, 3) := by decide +kernel
theorem dX0_copyFrom_158 : decode cX0_copyFrom 158 = .ok (.aload_n 1, 1) := by decide +kernel
theorem dX0_copyFrom_159 : decode cX0_copyFrom 159 = .ok (.getfield 36, 3) := by decide +kernel
theorem dX0_copyFrom_162 : decode cX0_copyFrom 162 = .ok (.iconst 0, 1) := by decide +kernel
theorem dX0_copyFrom_163 : decode cX0_copyFrom 163 = .ok (.aload_n 0, 1) := by decide +kernel
theorem dX0_copyFrom_164 : decode cX0_copyFrom 164 = .ok (.getfield 36, 3) := by decide +kernel
theorem dX0_copyFrom_167 : decode cX0_copyFrom 167 = .ok (.iconst 0, 1) := by decide +kernel
theorem dX0_copyFrom_168 : decode cX0_copyFrom 168 = .ok (.bipush 24, 2) := by decide +kernel
theorem dX0_copyFrom_170 : decode cX0_copyFrom 170 = .ok (.invokestatic 73, 3) := by decide +kernel
theorem dX0_copyFrom_173 : decode cX0_copyFrom 173 = .ok (.aload_n 1, 1) := by decide +kernel
theorem dX0_copyFrom_174 : decode cX0_copyFrom 174 = .ok (.getfield 39, 3) := by decide +kernel
theorem dX0_copyFrom_177 : decode cX0_copyFrom 177 = .ok (.iconst 0, 1) := by decide +kernel
theorem dX0_copyFrom_178 : decode cX0_copyFrom 178 = .ok (.aload_n 0, 1) := by decide +kernel
theorem dX0_copyFrom_179 : decode cX0_copyFrom 179 = .ok (.getfield 39, 3) := by decide +kernel
theorem dX0_copyFrom_182 : decode cX0_copyFrom 182 = .ok (.iconst 0, 1) := by decide +kernel
theorem dX0_copyFrom_183 : decode cX0_copyFrom 183 = .ok (.bipush 24, 2) := by decide +kernel
theorem dX0_copyFrom_185 : decode cX0_copyFrom 185 = .ok (.invokestatic 73, 3) := by decide +kernel
theorem dX0_copyFrom_188 : decode cX0_copyFrom 188 = .ok (.aload_n 1, 1) := by decide +kernel
theorem dX0_copyFrom_189 : decode cX0_copyFrom 189 = .ok (.getfield 42, 3) := by decide +kernel
theorem dX0_copyFrom_192 : decode cX0_copyFrom 192 = .ok (.iconst 0, 1) := by decide +kernel
theorem dX0_copyFrom_193 : decode cX0_copyFrom 193 = .ok (.aload_n 0, 1) := by decide +kernel
theorem dX0_copyFrom_194 : decode cX0_copyFrom 194 = .ok (.getfield 42, 3) := by decide +kernel
theorem dX0_copyFrom_197 : decode cX0_copyFrom 197 = .ok (.iconst 0, 1) := by decide +kernel
theorem dX0_copyFrom_198 : decode cX0_copyFrom 198 = .ok (.bipush 24, 2) := by decide +kernel
theorem dX0_copyFrom_200 : decode cX0_copyFrom 200 = .ok (.invokestatic 73, 3) := by decide +kernel
theorem dX0_copyFrom_203 : decode cX0_copyFrom 203 = .ok (.aload_n 1, 1) := by decide +kernel
theorem dX0_copyFrom_204 : decode cX0_copyFrom 204 = .ok (.getfield 45, 3) := by decide +kernel
theorem dX0_copyFrom_207 : decode cX0_copyFrom 207 = .ok (.iconst 0, 1) := by decide +kernel
theorem dX0_copyFrom_208 : decode cX0_copyFrom 208 = .ok (.aload_n 0, 1) := by decide +kernel
theorem dX0_copyFrom_209 : decode cX0_copyFrom 209 = .ok (.getfield 45, 3) := by decide +kernel
theorem dX0_copyFrom_212 : decode cX0_copyFrom 212 = .ok (.iconst 0, 1) := by decide +kernel
theorem dX0_copyFrom_213 : decode cX0_copyFrom 213 = .ok (.bipush 24, 2) := by decide +kernel
theorem dX0_copyFrom_215 : decode cX0_copyFrom 215 = .ok (.invokestatic 73, 3) := by decide +kernel
theorem dX0_copyFrom_218 : decode cX0_copyFrom 218 = .ok (.aload_n 1, 1) := by decide +kernel
theorem dX0_copyFrom_219 : decode cX0_copyFrom 219 = .ok (.getfield 48, 3) := by decide +kernel
theorem dX0_copyFrom_222 : decode cX0_copyFrom 222 = .ok (.iconst 0, 1) := by decide +kernel
theorem dX0_copyFrom_223 : decode cX0_copyFrom 223 = .ok (.aload_n 0, 1) := by decide +kernel
theorem dX0_copyFrom_224 : decode cX0_copyFrom 224 = .ok (.getfield 48, 3) := by decide +kernel
theorem dX0_copyFrom_227 : decode cX0_copyFrom 227 = .ok (.iconst 0, 1) := by decide +kernel
theorem dX0_copyFrom_228 : decode cX0_copyFrom 228 = .ok (.bipush 24, 2) := by decide +kernel
theorem dX0_copyFrom_230 : decode cX0_copyFrom 230 = .ok (.invokestatic 73, 3) := by decide +kernel
theorem dX0_copyFrom_233 : decode cX0_copyFrom 233 = .ok (.return_, 1) := by decide +kernel
theorem dX0_hasChip_0 : decode cX0_hasChip 0 = .ok (.iload_n 1, 1) := by decide +kernel
theorem dX0_hasChip_1 : decode cX0_hasChip 1 = .ok (.ifCond .lt 15, 3) := by decide +kernel
theorem dX0_hasChip_4 : decode cX0_hasChip 4 = .ok (.iload_n 1, 1) := by decide +kernel
theorem dX0_hasChip_5 : decode cX0_hasChip 5 = .ok (.aload_n 0, 1) := by decide +kernel
theorem dX0_hasChip_6 : decode cX0_hasChip 6 = .ok (.getfield 57, 3) := by decide +kernel
theorem dX0_hasChip_9 : decode cX0_hasChip 9 = .ok (.if_icmp .ge 7, 3) := by decide +kernel
theorem dX0_hasChip_12 : decode cX0_hasChip 12 = .ok (.iconst 1, 1) := by decide +kernel
theorem dX0_hasChip_13 : decode cX0_hasChip 13 = .ok (.goto 4, 3) := by decide +kernel
theorem dX0_hasChip_16 : decode cX0_hasChip 16 = .ok (.iconst 0, 1) := by decide +kernel
theorem dX0_hasChip_17 : decode cX0_hasChip 17 = .ok (.ireturn, 1) := by decide +kernel
theorem dX0_hasWord_0 : decode cX0_hasWord 0 = .ok (.iload_n 1, 1) := by decide +kernel
theorem dX0_hasWord_1 : decode cX0_hasWord 1 = .ok (.ifCond .lt 15, 3) := by decide +kernel
theorem dX0_hasWord_4 : decode cX0_hasWord 4 = .ok (.iload_n 1, 1) := by decide +kernel
theorem dX0_hasWord_5 : decode cX0_hasWord 5 = .ok (.aload_n 0, 1) := by decide +kernel
theorem dX0_hasWord_6 : decode cX0_hasWord 6 = .ok (.getfield 64, 3) := by decide +kernel
theorem dX0_hasWord_9 : decode cX0_hasWord 9 = .ok (.if_icmp .ge 7, 3) := by decide +kernel
theorem dX0_hasWord_12 : decode cX0_hasWord 12 = .ok (.iconst 1, 1) := by decide +kernel
theorem dX0_hasWord_13 : decode cX0_hasWord 13 = .ok (.goto 4, 3) := by decide +kernel
theorem dX0_hasWord_16 : decode cX0_hasWord 16 = .ok (.iconst 0, 1) := by decide +kernel
theorem dX0_hasWord_17 : decode cX0_hasWord 17 = .ok (.ireturn, 1) := by decide +kernel
theorem dX0_lives_0 : decode cX0_lives 0 = .ok (.aload_n 0, 1) := by decide +kernel
theorem dX0_lives_1 : decode cX0_lives 1 = .ok (.getfield 61, 3) := by decide +kernel
theorem dX0_lives_4 : decode cX0_lives 4 = .ok (.iload_n 1, 1) := by decide +kernel
theorem dX0_lives_5 : decode cX0_lives 5 = .ok (.ishr, 1) := by decide +kernel
theorem dX0_lives_6 : decode cX0_lives 6 = .ok (.iconst 1, 1) := by decide +kernel
theorem dX0_lives_7 : decode cX0_lives 7 = .ok (.iand, 1) := by decide +kernel
theorem dX0_lives_8 : decode cX0_lives 8 = .ok (.iconst 1, 1) := by decide +kernel
theorem dX0_lives_9 : decode cX0_lives 9 = .ok (.if_icmp .ne 7, 3) := by decide +kernel
theorem dX0_lives_12 : decode cX0_lives 12 = .ok (.iconst 1, 1) := by decide +kernel
theorem dX0_lives_13 : decode cX0_lives 13 = .ok (.goto 4, 3) := by decide +kernel
theorem dX0_lives_16 : decode cX0_lives 16 = .ok (.iconst 0, 1) := by decide +kernel
theorem dX0_lives_17 : decode cX0_lives 17 = .ok (.ireturn, 1) := by decide +kernel
theorem dX0_isGodfather_0 : decode cX0_isGodfather 0 = .ok (.aload_n 0, 1) := by decide +kernel
theorem dX0_isGodfather_1 : decode cX0_isGodfather 1 = .ok (.getfield 24, 3) := by decide +kernel
theorem dX0_isGodfather_4 : decode cX0_isGodfather 4 = .ok (.aload_n 0, 1) := by decide +kernel
theorem dX0_isGodfather_5 : decode cX0_isGodfather 5 = .ok (.getfield 9, 3) := by decide +kernel
theorem dX0_isGodfather_8 : decode cX0_isGodfather 8 = .ok (.iload_n 1, 1) := by decide +kernel
theorem dX0_isGodfather_9 : decode cX0_isGodfather 9 = .ok (.iaload, 1) := by decide +kernel
theorem dX0_isGodfather_10 : decode cX0_isGodfather 10 = .ok (.iaload, 1) := by decide +kernel
theorem dX0_isGodfather_11 : decode cX0_isGodfather 11 = .ok (.iload_n 1, 1) := by decide +kernel
theorem dX0_isGodfather_12 : decode cX0_isGodfather 12 = .ok (.if_icmp .ne 7, 3) := by decide +kernel
theorem dX0_isGodfather_15 : decode cX0_isGodfather 15 = .ok (.iconst 1, 1) := by decide +kernel
theorem dX0_isGodfather_16 : decode cX0_isGodfather 16 = .ok (.goto 4, 3) := by decide +kernel
theorem dX0_isGodfather_19 : decode cX0_isGodfather 19 = .ok (.iconst 0, 1) := by decide +kernel
theorem dX0_isGodfather_20 : decode cX0_isGodfather 20 = .ok (.ireturn, 1) := by decide +kernel
theorem dX0_isBroken_0 : decode cX0_isBroken 0 = .ok (.aload_n 0, 1) := by decide +kernel
theorem dX0_isBroken_1 : decode cX0_isBroken 1 = .ok (.getfield 15, 3) := by decide +kernel
theorem dX0_isBroken_4 : decode cX0_isBroken 4 = .ok (.iload_n 1, 1) := by decide +kernel
theorem dX0_isBroken_5 : decode cX0_isBroken 5 = .ok (.iaload, 1) := by decide +kernel
theorem dX0_isBroken_6 : decode cX0_isBroken 6 = .ok (.iload_n 2, 1) := by decide +kernel
theorem dX0_isBroken_7 : decode cX0_isBroken 7 = .ok (.ishr, 1) := by decide +kernel
theorem dX0_isBroken_8 : decode cX0_isBroken 8 = .ok (.iconst 1, 1) := by decide +kernel
theorem dX0_isBroken_9 : decode cX0_isBroken 9 = .ok (.iand, 1) := by decide +kernel
theorem dX0_isBroken_10 : decode cX0_isBroken 10 = .ok (.iconst 1, 1) := by decide +kernel
theorem dX0_isBroken_11 : decode cX0_isBroken 11 = .ok (.if_icmp .ne 7, 3) := by decide +kernel
theorem dX0_isBroken_14 : decode cX0_isBroken 14 = .ok (.iconst 1, 1) := by decide +kernel
theorem dX0_isBroken_15 : decode cX0_isBroken 15 = .ok (.goto 4, 3) := by decide +kernel
theorem dX0_isBroken_18 : decode cX0_isBroken 18 = .ok (.iconst 0, 1) := by decide +kernel
theorem dX0_isBroken_19 : decode cX0_isBroken 19 = .ok (.ireturn, 1) := by decide +kernel
theorem dX0_fateOf_0 : decode cX0_fateOf 0 = .ok (.aload_n 0, 1) := by decide +kernel
theorem dX0_fateOf_1 : decode cX0_fateOf 1 = .ok (.getfield 39, 3) := by decide +kernel
theorem dX0_fateOf_4 : decode cX0_fateOf 4 = .ok (.iload_n 1, 1) := by decide +kernel
theorem dX0_fateOf_5 : decode cX0_fateOf 5 = .ok (.iaload, 1) := by decide +kernel
theorem dX0_fateOf_6 : decode cX0_fateOf 6 = .ok (.iconst (-1), 1) := by decide +kernel
theorem dX0_fateOf_7 : decode cX0_fateOf 7 = .ok (.if_icmp .eq 5, 3) := by decide +kernel
theorem dX0_fateOf_10 : decode cX0_fateOf 10 = .ok (.iconst 0, 1) := by decide +kernel
theorem dX0_fateOf_11 : decode cX0_fateOf 11 = .ok (.ireturn, 1) := by decide +kernel
theorem dX0_fateOf_12 : decode cX0_fateOf 12 = .ok (.aload_n 0, 1) := by decide +kernel
theorem dX0_fateOf_13 : decode cX0_fateOf 13 = .ok (.getfield 42, 3) := by decide +kernel
theorem dX0_fateOf_16 : decode cX0_fateOf 16 = .ok (.iload_n 1, 1) := by decide +kernel
theorem dX0_fateOf_17 : decode cX0_fateOf 17 = .ok (.iaload, 1) := by decide +kernel
theorem dX0_fateOf_18 : decode cX0_fateOf 18 = .ok (.iconst (-1), 1) := by decide +kernel
theorem dX0_fateOf_19 : decode cX0_fateOf 19 = .ok (.if_icmp .eq 7, 3) := by decide +kernel
theorem dX0_fateOf_22 : decode cX0_fateOf 22 = .ok (.iconst 1, 1) := by decide +kernel
theorem dX0_fateOf_23 : decode cX0_fateOf 23 = .ok (.goto 4, 3) := by decide +kernel
theorem dX0_fateOf_26 : decode cX0_fateOf 26 = .ok (.iconst 2, 1) := by decide +kernel
theorem dX0_fateOf_27 : decode cX0_fateOf 27 = .ok (.ireturn, 1) := by decide +kernel
theorem dX0_guardedRows_0 : decode cX0_guardedRows 0 = .ok (.aload_n 0, 1) := by decide +kernel
theorem dX0_guardedRows_1 : decode cX0_guardedRows 1 = .ok (.getfield 24, 3) := by decide +kernel
theorem dX0_guardedRows_4 : decode cX0_guardedRows 4 = .ok (.iload_n 1, 1) := by decide +kernel
theorem dX0_guardedRows_5 : decode cX0_guardedRows 5 = .ok (.iaload, 1) := by decide +kernel
theorem dX0_guardedRows_6 : decode cX0_guardedRows 6 = .ok (.istore_n 2, 1) := by decide +kernel
theorem dX0_guardedRows_7 : decode cX0_guardedRows 7 = .ok (.iload_n 2, 1) := by decide +kernel
theorem dX0_guardedRows_8 : decode cX0_guardedRows 8 = .ok (.iconst (-1), 1) := by decide +kernel
theorem dX0_guardedRows_9 : decode cX0_guardedRows 9 = .ok (.if_icmp .ne 7, 3) := by decide +kernel
theorem dX0_guardedRows_12 : decode cX0_guardedRows 12 = .ok (.iconst 0, 1) := by decide +kernel
theorem dX0_guardedRows_13 : decode cX0_guardedRows 13 = .ok (.goto 14, 3) := by decide +kernel
theorem dX0_guardedRows_16 : decode cX0_guardedRows 16 = .ok (.bipush 63, 2) := by decide +kernel
theorem dX0_guardedRows_18 : decode cX0_guardedRows 18 = .ok (.aload_n 0, 1) := by decide +kernel
theorem dX0_guardedRows_19 : decode cX0_guardedRows 19 = .ok (.getfield 15, 3) := by decide +kernel
theorem dX0_guardedRows_22 : decode cX0_guardedRows 22 = .ok (.iload_n 2, 1) := by decide +kernel
theorem dX0_guardedRows_23 : decode cX0_guardedRows 23 = .ok (.iaload, 1) := by decide +kernel
theorem dX0_guardedRows_24 : decode cX0_guardedRows 24 = .ok (.iconst (-1), 1) := by decide +kernel
theorem dX0_guardedRows_25 : decode cX0_guardedRows 25 = .ok (.ixor, 1) := by decide +kernel
theorem dX0_guardedRows_26 : decode cX0_guardedRows 26 = .ok (.iand, 1) := by decide +kernel
theorem dX0_guardedRows_27 : decode cX0_guardedRows 27 = .ok (.ireturn, 1) := by decide +kernel
theorem dX0_livingOf_0 : decode cX0_livingOf 0 = .ok (.iconst 0, 1) := by decide +kernel
theorem dX0_livingOf_1 : decode cX0_livingOf 1 = .ok (.istore_n 2, 1) := by decide +kernel
theorem dX0_livingOf_2 : decode cX0_livingOf 2 = .ok (.iconst 0, 1) := by decide +kernel
theorem dX0_livingOf_3 : decode cX0_livingOf 3 = .ok (.istore_n 3, 1) := by decide +kernel
theorem dX0_livingOf_4 : decode cX0_livingOf 4 = .ok (.iload_n 3, 1) := by decide +kernel
theorem dX0_livingOf_5 : decode cX0_livingOf 5 = .ok (.aload_n 0, 1) := by decide +kernel
theorem dX0_livingOf_6 : decode cX0_livingOf 6 = .ok (.getfield 57, 3) := by decide +kernel
theorem dX0_livingOf_9 : decode cX0_livingOf 9 = .ok (.if_icmp .ge 33, 3) := by decide +kernel
theorem dX0_livingOf_12 : decode cX0_livingOf 12 = .ok (.aload_n 0, 1) := by decide +kernel
theorem dX0_livingOf_13 : decode cX0_livingOf 13 = .ok (.getfield 9, 3) := by decide +kernel
theorem dX0_livingOf_16 : decode cX0_livingOf 16 = .ok (.iload_n 3, 1) := by decide +kernel
theorem dX0_livingOf_17 : decode cX0_livingOf 17 = .ok (.iaload, 1) := by decide +kernel
theorem dX0_livingOf_18 : decode cX0_livingOf 18 = .ok (.iload_n 1, 1) := by decide +kernel
theorem dX0_livingOf_19 : decode cX0_livingOf 19 = .ok (.if_icmp .ne 17, 3) := by decide +kernel
theorem dX0_livingOf_22 : decode cX0_livingOf 22 = .ok (.aload_n 0, 1) := by decide +kernel
theorem dX0_livingOf_23 : decode cX0_livingOf 23 = .ok (.iload_n 3, 1) := by decide +kernel
theorem dX0_livingOf_24 : decode cX0_livingOf 24 = .ok (.invokevirtual 79, 3) := by decide +kernel
theorem dX0_livingOf_27 : decode cX0_livingOf 27 = .ok (.ifCond .eq 9, 3) := by decide +kernel
theorem dX0_livingOf_30 : decode cX0_livingOf 30 = .ok (.iload_n 2, 1) := by decide +kernel
theorem dX0_livingOf_31 : decode cX0_livingOf 31 = .ok (.iconst 1, 1) := by decide +kernel
theorem dX0_livingOf_32 : decode cX0_livingOf 32 = .ok (.iload_n 3, 1) := by decide +kernel
theorem dX0_livingOf_33 : decode cX0_livingOf 33 = .ok (.ishl, 1) := by decide +kernel
theorem dX0_livingOf_34 : decode cX0_livingOf 34 = .ok (.ior, 1) := by decide +kernel
theorem dX0_livingOf_35 : decode cX0_livingOf 35 = .ok (.istore_n 2, 1) := by decide +kernel
theorem dX0_livingOf_36 : decode cX0_livingOf 36 = .ok (.iinc 3 1, 3) := by decide +kernel
theorem dX0_livingOf_39 : decode cX0_livingOf 39 = .ok (.goto (-35), 3) := by decide +kernel
theorem dX0_livingOf_42 : decode cX0_livingOf 42 = .ok (.iload_n 2, 1) := by decide +kernel
theorem dX0_livingOf_43 : decode cX0_livingOf 43 = .ok (.ireturn, 1) := by decide +kernel
theorem dX0_placeSet_0 : decode cX0_placeSet 0 = .ok (.aload_n 0, 1) := by decide +kernel
theorem dX0_placeSet_1 : decode cX0_placeSet 1 = .ok (.getfield 9, 3) := by decide +kernel
theorem dX0_placeSet_4 : decode cX0_placeSet 4 = .ok (.iload_n 1, 1) := by decide +kernel
theorem dX0_placeSet_5 : decode cX0_placeSet 5 = .ok (.iaload, 1) := by decide +kernel
theorem dX0_placeSet_6 : decode cX0_placeSet 6 = .ok (.istore_n 2, 1) := by decide +kernel
theorem dX0_placeSet_7 : decode cX0_placeSet 7 = .ok (.aload_n 0, 1) := by decide +kernel
theorem dX0_placeSet_8 : decode cX0_placeSet 8 = .ok (.getfield 61, 3) := by decide +kernel
theorem dX0_placeSet_11 : decode cX0_placeSet 11 = .ok (.iload_n 1, 1) := by decide +kernel
theorem dX0_placeSet_12 : decode cX0_placeSet 12 = .ok (.ishr, 1) := by decide +kernel
theorem dX0_placeSet_13 : decode cX0_placeSet 13 = .ok (.iconst 1, 1) := by decide +kernel
theorem dX0_placeSet_14 : decode cX0_placeSet 14 = .ok (.iand, 1) := by decide +kernel
theorem dX0_placeSet_15 : decode cX0_placeSet 15 = .ok (.ifCond .eq 13, 3) := by decide +kernel
theorem dX0_placeSet_18 : decode cX0_placeSet 18 = .ok (.aload_n 0, 1) := by decide +kernel
theorem dX0_placeSet_19 : decode cX0_placeSet 19 = .ok (.getfield 24, 3) := by decide +kernel
theorem dX0_placeSet_22 : decode cX0_placeSet 22 = .ok (.iload_n 2, 1) := by decide +kernel
theorem dX0_placeSet_23 : decode cX0_placeSet 23 = .ok (.iaload, 1) := by decide +kernel
theorem dX0_placeSet_24 : decode cX0_placeSet 24 = .ok (.iload_n 1, 1) := by decide +kernel
theorem dX0_placeSet_25 : decode cX0_placeSet 25 = .ok (.if_icmp .ne 5, 3) := by decide +kernel
theorem dX0_placeSet_28 : decode cX0_placeSet 28 = .ok (.iconst 0, 1) := by decide +kernel
theorem dX0_placeSet_29 : decode cX0_placeSet 29 = .ok (.ireturn, 1) := by decide +kernel
theorem dX0_placeSet_30 : decode cX0_placeSet 30 = .ok (.iconst 0, 1) := by decide +kernel
theorem dX0_placeSet_31 : decode cX0_placeSet 31 = .ok (.istore_n 3, 1) := by decide +kernel
theorem dX0_placeSet_32 : decode cX0_placeSet 32 = .ok (.iconst 0, 1) := by decide +kernel
theorem dX0_placeSet_33 : decode cX0_placeSet 33 = .ok (.istore 4, 2) := by decide +kernel
theorem dX0_placeSet_35 : decode cX0_placeSet 35 = .ok (.iload 4, 2) := by decide +kernel
theorem dX0_placeSet_37 : decode cX0_placeSet 37 = .ok (.bipush 6, 2) := by decide +kernel
theorem dX0_placeSet_39 : decode cX0_placeSet 39 = .ok (.if_icmp .ge 48, 3) := by decide +kernel
theorem dX0_placeSet_42 : decode cX0_placeSet 42 = .ok (.aload_n 0, 1) := by decide +kernel
theorem dX0_placeSet_43 : decode cX0_placeSet 43 = .ok (.getfield 21, 3) := by decide +kernel
theorem dX0_placeSet_46 : decode cX0_placeSet 46 = .ok (.iload_n 1, 1) := by decide +kernel
theorem dX0_placeSet_47 : decode cX0_placeSet 47 = .ok (.bipush 6, 2) := by decide +kernel
theorem dX0_placeSet_49 : decode cX0_placeSet 49 = .ok (.imul, 1) := by decide +kernel
theorem dX0_placeSet_50 : decode cX0_placeSet 50 = .ok (.iload 4, 2) := by decide +kernel
theorem dX0_placeSet_52 : decode cX0_placeSet 52 = .ok (.iadd, 1) := by decide +kernel
theorem dX0_placeSet_53 : decode cX0_placeSet 53 = .ok (.iaload, 1) := by decide +kernel
theorem dX0_placeSet_54 : decode cX0_placeSet 54 = .ok (.iconst (-1), 1) := by decide +kernel
theorem dX0_placeSet_55 : decode cX0_placeSet 55 = .ok (.if_icmp .ne 26, 3) := by decide +kernel
theorem dX0_placeSet_58 : decode cX0_placeSet 58 = .ok (.aload_n 0, 1) := by decide +kernel
theorem dX0_placeSet_59 : decode cX0_placeSet 59 = .ok (.getfield 27, 3) := by decide +kernel
theorem dX0_placeSet_62 : decode cX0_placeSet 62 = .ok (.iload_n 2, 1) := by decide +kernel
theorem dX0_placeSet_63 : decode cX0_placeSet 63 = .ok (.bipush 6, 2) := by decide +kernel
theorem dX0_placeSet_65 : decode cX0_placeSet 65 = .ok (.imul, 1) := by decide +kernel
theorem dX0_placeSet_66 : decode cX0_placeSet 66 = .ok (.iload 4, 2) := by decide +kernel
theorem dX0_placeSet_68 : decode cX0_placeSet 68 = .ok (.iadd, 1) := by decide +kernel
theorem dX0_placeSet_69 : decode cX0_placeSet 69 = .ok (.iaload, 1) := by decide +kernel
theorem dX0_placeSet_70 : decode cX0_placeSet 70 = .ok (.iconst (-1), 1) := by decide +kernel
theorem dX0_placeSet_71 : decode cX0_placeSet 71 = .ok (.if_icmp .ne 10, 3) := by decide +kernel
theorem dX0_placeSet_74 : decode cX0_placeSet 74 = .ok (.iload_n 3, 1) := by decide +kernel
theorem dX0_placeSet_75 : decode cX0_placeSet 75 = .ok (.iconst 1, 1) := by decide +kernel
theorem dX0_placeSet_76 : decode cX0_placeSet 76 = .ok (.iload 4, 2) := by decide +kernel
theorem dX0_placeSet_78 : decode cX0_placeSet 78 = .ok (.ishl, 1) := by decide +kernel
theorem dX0_placeSet_79 : decode cX0_placeSet 79 = .ok (.ior, 1) := by decide +kernel
theorem dX0_placeSet_80 : decode cX0_placeSet 80 = .ok (.istore_n 3, 1) := by decide +kernel
theorem dX0_placeSet_81 : decode cX0_placeSet 81 = .ok (.iinc 4 1, 3) := by decide +kernel
theorem dX0_placeSet_84 : decode cX0_placeSet 84 = .ok (.goto (-49), 3) := by decide +kernel
theorem dX0_placeSet_87 : decode cX0_placeSet 87 = .ok (.iload_n 3, 1) := by decide +kernel
theorem dX0_placeSet_88 : decode cX0_placeSet 88 = .ok (.aload_n 0, 1) := by decide +kernel
theorem dX0_placeSet_89 : decode cX0_placeSet 89 = .ok (.getfield 15, 3) := by decide +kernel
theorem dX0_placeSet_92 : decode cX0_placeSet 92 = .ok (.iload_n 1, 1) := by decide +kernel
theorem dX0_placeSet_93 : decode cX0_placeSet 93 = .ok (.iaload, 1) := by decide +kernel
theorem dX0_placeSet_94 : decode cX0_placeSet 94 = .ok (.iconst (-1), 1) := by decide +kernel
theorem dX0_placeSet_95 : decode cX0_placeSet 95 = .ok (.ixor, 1) := by decide +kernel
theorem dX0_placeSet_96 : decode cX0_placeSet 96 = .ok (.iand, 1) := by decide +kernel
theorem dX0_placeSet_97 : decode cX0_placeSet 97 = .ok (.ireturn, 1) := by decide +kernel
theorem dX0_allPlaces_0 : decode cX0_allPlaces 0 = .ok (.iconst 0, 1) := by decide +kernel
theorem dX0_allPlaces_1 : decode cX0_allPlaces 1 = .ok (.istore_n 1, 1) := by decide +kernel
theorem dX0_allPlaces_2 : decode cX0_allPlaces 2 = .ok (.iconst 0, 1) := by decide +kernel
theorem dX0_allPlaces_3 : decode cX0_allPlaces 3 = .ok (.istore_n 2, 1) := by decide +kernel
theorem dX0_allPlaces_4 : decode cX0_allPlaces 4 = .ok (.iload_n 2, 1) := by decide +kernel
theorem dX0_allPlaces_5 : decode cX0_allPlaces 5 = .ok (.aload_n 0, 1) := by decide +kernel
theorem dX0_allPlaces_6 : decode cX0_allPlaces 6 = .ok (.getfield 57, 3) := by decide +kernel
theorem dX0_allPlaces_9 : decode cX0_allPlaces 9 = .ok (.if_icmp .ge 20, 3) := by decide +kernel
theorem dX0_allPlaces_12 : decode cX0_allPlaces 12 = .ok (.iload_n 1, 1) := by decide +kernel
theorem dX0_allPlaces_13 : decode cX0_allPlaces 13 = .ok (.aload_n 0, 1) := by decide +kernel
theorem dX0_allPlaces_14 : decode cX0_allPlaces 14 = .ok (.iload_n 2, 1) := by decide +kernel
theorem dX0_allPlaces_15 : decode cX0_allPlaces 15 = .ok (.invokevirtual 83, 3) := by decide +kernel
theorem dX0_allPlaces_18 : decode cX0_allPlaces 18 = .ok (.invokestatic 87, 3) := by decide +kernel
theorem dX0_allPlaces_21 : decode cX0_allPlaces 21 = .ok (.iadd, 1) := by decide +kernel
theorem dX0_allPlaces_22 : decode cX0_allPlaces 22 = .ok (.istore_n 1, 1) := by decide +kernel
theorem dX0_allPlaces_23 : decode cX0_allPlaces 23 = .ok (.iinc 2 1, 3) := by decide +kernel
theorem dX0_allPlaces_26 : decode cX0_allPlaces 26 = .ok (.goto (-22), 3) := by decide +kernel
theorem dX0_allPlaces_29 : decode cX0_allPlaces 29 = .ok (.iload_n 1, 1) := by decide +kernel
theorem dX0_allPlaces_30 : decode cX0_allPlaces 30 = .ok (.ireturn, 1) := by decide +kernel
theorem dX0_sumOf_0 : decode cX0_sumOf 0 = .ok (.iconst 0, 1) := by decide +kernel
theorem dX0_sumOf_1 : decode cX0_sumOf 1 = .ok (.istore_n 3, 1) := by decide +kernel
theorem dX0_sumOf_2 : decode cX0_sumOf 2 = .ok (.iconst 0, 1) := by decide +kernel
theorem dX0_sumOf_3 : decode cX0_sumOf 3 = .ok (.istore 4, 2) := by decide +kernel
theorem dX0_sumOf_5 : decode cX0_sumOf 5 = .ok (.iload 4, 2) := by decide +kernel
theorem dX0_sumOf_7 : decode cX0_sumOf 7 = .ok (.aload_n 0, 1) := by decide +kernel
theorem dX0_sumOf_8 : decode cX0_sumOf 8 = .ok (.getfield 64, 3) := by decide +kernel
theorem dX0_sumOf_11 : decode cX0_sumOf 11 = .ok (.if_icmp .ge 41, 3) := by decide +kernel
theorem dX0_sumOf_14 : decode cX0_sumOf 14 = .ok (.aload_n 0, 1) := by decide +kernel
theorem dX0_sumOf_15 : decode cX0_sumOf 15 = .ok (.getfield 45, 3) := by decide +kernel
theorem dX0_sumOf_18 : decode cX0_sumOf 18 = .ok (.iload 4, 2) := by decide +kernel
theorem dX0_sumOf_20 : decode cX0_sumOf 20 = .ok (.iaload, 1) := by decide +kernel
theorem dX0_sumOf_21 : decode cX0_sumOf 21 = .ok (.iload_n 1, 1) := by decide +kernel
theorem dX0_sumOf_22 : decode cX0_sumOf 22 = .ok (.if_icmp .ne 24, 3) := by decide +kernel
theorem dX0_sumOf_25 : decode cX0_sumOf 25 = .ok (.aload_n 0, 1) := by decide +kernel
theorem dX0_sumOf_26 : decode cX0_sumOf 26 = .ok (.getfield 42, 3) := by decide +kernel
theorem dX0_sumOf_29 : decode cX0_sumOf 29 = .ok (.iload 4, 2) := by decide +kernel
theorem dX0_sumOf_31 : decode cX0_sumOf 31 = .ok (.iaload, 1) := by decide +kernel
theorem dX0_sumOf_32 : decode cX0_sumOf 32 = .ok (.iload_n 2, 1) := by decide +kernel
theorem dX0_sumOf_33 : decode cX0_sumOf 33 = .ok (.if_icmp .ne 13, 3) := by decide +kernel
theorem dX0_sumOf_36 : decode cX0_sumOf 36 = .ok (.iload_n 3, 1) := by decide +kernel
theorem dX0_sumOf_37 : decode cX0_sumOf 37 = .ok (.aload_n 0, 1) := by decide +kernel
theorem dX0_sumOf_38 : decode cX0_sumOf 38 = .ok (.getfield 36, 3) := by decide +kernel
theorem dX0_sumOf_41 : decode cX0_sumOf 41 = .ok (.iload 4, 2) := by decide +kernel
theorem dX0_sumOf_43 : decode cX0_sumOf 43 = .ok (.iaload, 1) := by decide +kernel
theorem dX0_sumOf_44 : decode cX0_sumOf 44 = .ok (.ixor, 1) := by decide +kernel
theorem dX0_sumOf_45 : decode cX0_sumOf 45 = .ok (.istore_n 3, 1) := by decide +kernel
theorem dX0_sumOf_46 : decode cX0_sumOf 46 = .ok (.iinc 4 1, 3) := by decide +kernel
theorem dX0_sumOf_49 : decode cX0_sumOf 49 = .ok (.goto (-44), 3) := by decide +kernel
theorem dX0_sumOf_52 : decode cX0_sumOf 52 = .ok (.iload_n 3, 1) := by decide +kernel
theorem dX0_sumOf_53 : decode cX0_sumOf 53 = .ok (.ireturn, 1) := by decide +kernel
theorem dX0_keptBy_0 : decode cX0_keptBy 0 = .ok (.iconst 0, 1) := by decide +kernel
theorem dX0_keptBy_1 : decode cX0_keptBy 1 = .ok (.istore_n 2, 1) := by decide +kernel
theorem dX0_keptBy_2 : decode cX0_keptBy 2 = .ok (.iconst 0, 1) := by decide +kernel
theorem dX0_keptBy_3 : decode cX0_keptBy 3 = .ok (.istore_n 3, 1) := by decide +kernel
theorem dX0_keptBy_4 : decode cX0_keptBy 4 = .ok (.iload_n 3, 1) := by decide +kernel
theorem dX0_keptBy_5 : decode cX0_keptBy 5 = .ok (.aload_n 0, 1) := by decide +kernel
theorem dX0_keptBy_6 : decode cX0_keptBy 6 = .ok (.getfield 64, 3) := by decide +kernel
theorem dX0_keptBy_9 : decode cX0_keptBy 9 = .ok (.if_icmp .ge 22, 3) := by decide +kernel
theorem dX0_keptBy_12 : decode cX0_keptBy 12 = .ok (.aload_n 0, 1) := by decide +kernel
theorem dX0_keptBy_13 : decode cX0_keptBy 13 = .ok (.getfield 39, 3) := by decide +kernel
theorem dX0_keptBy_16 : decode cX0_keptBy 16 = .ok (.iload_n 3, 1) := by decide +kernel
theorem dX0_keptBy_17 : decode cX0_keptBy 17 = .ok (.iaload, 1) := by decide +kernel
theorem dX0_keptBy_18 : decode cX0_keptBy 18 = .ok (.iload_n 1, 1) := by decide +kernel
theorem dX0_keptBy_19 : decode cX0_keptBy 19 = .ok (.if_icmp .ne 6, 3) := by decide +kernel
theorem dX0_keptBy_22 : decode cX0_keptBy 22 = .ok (.iinc 2 1, 3) := by decide +kernel
theorem dX0_keptBy_25 : decode cX0_keptBy 25 = .ok (.iinc 3 1, 3) := by decide +kernel
theorem dX0_keptBy_28 : decode cX0_keptBy 28 = .ok (.goto (-24), 3) := by decide +kernel
theorem dX0_keptBy_31 : decode cX0_keptBy 31 = .ok (.iload_n 2, 1) := by decide +kernel
theorem dX0_keptBy_32 : decode cX0_keptBy 32 = .ok (.ireturn, 1) := by decide +kernel
theorem dX0_keptIn_0 : decode cX0_keptIn 0 = .ok (.iconst 0, 1) := by decide +kernel
theorem dX0_keptIn_1 : decode cX0_keptIn 1 = .ok (.istore_n 3, 1) := by decide +kernel
theorem dX0_keptIn_2 : decode cX0_keptIn 2 = .ok (.iconst 0, 1) := by decide +kernel
theorem dX0_keptIn_3 : decode cX0_keptIn 3 = .ok (.istore 4, 2) := by decide +kernel
theorem dX0_keptIn_5 : decode cX0_keptIn 5 = .ok (.iload 4, 2) := by decide +kernel
theorem dX0_keptIn_7 : decode cX0_keptIn 7 = .ok (.aload_n 0, 1) := by decide +kernel
theorem dX0_keptIn_8 : decode cX0_keptIn 8 = .ok (.getfield 64, 3) := by decide +kernel
theorem dX0_keptIn_11 : decode cX0_keptIn 11 = .ok (.if_icmp .ge 49, 3) := by decide +kernel
theorem dX0_keptIn_14 : decode cX0_keptIn 14 = .ok (.aload_n 0, 1) := by decide +kernel
theorem dX0_keptIn_15 : decode cX0_keptIn 15 = .ok (.getfield 39, 3) := by decide +kernel
theorem dX0_keptIn_18 : decode cX0_keptIn 18 = .ok (.iload 4, 2) := by decide +kernel
theorem dX0_keptIn_20 : decode cX0_keptIn 20 = .ok (.iaload, 1) := by decide +kernel
theorem dX0_keptIn_21 : decode cX0_keptIn 21 = .ok (.iconst (-1), 1) := by decide +kernel
theorem dX0_keptIn_22 : decode cX0_keptIn 22 = .ok (.if_icmp .eq 32, 3) := by decide +kernel
theorem dX0_keptIn_25 : decode cX0_keptIn 25 = .ok (.aload_n 0, 1) := by decide +kernel
theorem dX0_keptIn_26 : decode cX0_keptIn 26 = .ok (.getfield 45, 3) := by decide +kernel
theorem dX0_keptIn_29 : decode cX0_keptIn 29 = .ok (.iload 4, 2) := by decide +kernel
theorem dX0_keptIn_31 : decode cX0_keptIn 31 = .ok (.iaload, 1) := by decide +kernel
theorem dX0_keptIn_32 : decode cX0_keptIn 32 = .ok (.iload_n 1, 1) := by decide +kernel
theorem dX0_keptIn_33 : decode cX0_keptIn 33 = .ok (.if_icmp .ne 21, 3) := by decide +kernel
theorem dX0_keptIn_36 : decode cX0_keptIn 36 = .ok (.iload_n 2, 1) := by decide +kernel
theorem dX0_keptIn_37 : decode cX0_keptIn 37 = .ok (.aload_n 0, 1) := by decide +kernel
theorem dX0_keptIn_38 : decode cX0_keptIn 38 = .ok (.getfield 42, 3) := by decide +kernel
theorem dX0_keptIn_41 : decode cX0_keptIn 41 = .ok (.iload 4, 2) := by decide +kernel
theorem dX0_keptIn_43 : decode cX0_keptIn 43 = .ok (.iaload, 1) := by decide +kernel
theorem dX0_keptIn_44 : decode cX0_keptIn 44 = .ok (.ishr, 1) := by decide +kernel
theorem dX0_keptIn_45 : decode cX0_keptIn 45 = .ok (.iconst 1, 1) := by decide +kernel
theorem dX0_keptIn_46 : decode cX0_keptIn 46 = .ok (.iand, 1) := by decide +kernel
theorem dX0_keptIn_47 : decode cX0_keptIn 47 = .ok (.iconst 1, 1) := by decide +kernel
theorem dX0_keptIn_48 : decode cX0_keptIn 48 = .ok (.if_icmp .ne 6, 3) := by decide +kernel
theorem dX0_keptIn_51 : decode cX0_keptIn 51 = .ok (.iinc 3 1, 3) := by decide +kernel
theorem dX0_keptIn_54 : decode cX0_keptIn 54 = .ok (.iinc 4 1, 3) := by decide +kernel
theorem dX0_keptIn_57 : decode cX0_keptIn 57 = .ok (.goto (-52), 3) := by decide +kernel
theorem dX0_keptIn_60 : decode cX0_keptIn 60 = .ok (.iload_n 3, 1) := by decide +kernel
theorem dX0_keptIn_61 : decode cX0_keptIn 61 = .ok (.ireturn, 1) := by decide +kernel
theorem dX0_wordsKept_0 : decode cX0_wordsKept 0 = .ok (.iconst 0, 1) := by decide +kernel
theorem dX0_wordsKept_1 : decode cX0_wordsKept 1 = .ok (.istore_n 1, 1) := by decide +kernel
theorem dX0_wordsKept_2 : decode cX0_wordsKept 2 = .ok (.iconst 0, 1) := by decide +kernel
theorem dX0_wordsKept_3 : decode cX0_wordsKept 3 = .ok (.istore_n 2, 1) := by decide +kernel
theorem dX0_wordsKept_4 : decode cX0_wordsKept 4 = .ok (.iload_n 2, 1) := by decide +kernel
theorem dX0_wordsKept_5 : decode cX0_wordsKept 5 = .ok (.aload_n 0, 1) := by decide +kernel
theorem dX0_wordsKept_6 : decode cX0_wordsKept 6 = .ok (.getfield 64, 3) := by decide +kernel
theorem dX0_wordsKept_9 : decode cX0_wordsKept 9 = .ok (.if_icmp .ge 22, 3) := by decide +kernel
theorem dX0_wordsKept_12 : decode cX0_wordsKept 12 = .ok (.aload_n 0, 1) := by decide +kernel
theorem dX0_wordsKept_13 : decode cX0_wordsKept 13 = .ok (.getfield 39, 3) := by decide +kernel
theorem dX0_wordsKept_16 : decode cX0_wordsKept 16 = .ok (.iload_n 2, 1) := by decide +kernel
theorem dX0_wordsKept_17 : decode cX0_wordsKept 17 = .ok (.iaload, 1) := by decide +kernel
theorem dX0_wordsKept_18 : decode cX0_wordsKept 18 = .ok (.iconst (-1), 1) := by decide +kernel
theorem dX0_wordsKept_19 : decode cX0_wordsKept 19 = .ok (.if_icmp .eq 6, 3) := by decide +kernel
theorem dX0_wordsKept_22 : decode cX0_wordsKept 22 = .ok (.iinc 1 1, 3) := by decide +kernel
theorem dX0_wordsKept_25 : decode cX0_wordsKept 25 = .ok (.iinc 2 1, 3) := by decide +kernel
theorem dX0_wordsKept_28 : decode cX0_wordsKept 28 = .ok (.goto (-24), 3) := by decide +kernel
theorem dX0_wordsKept_31 : decode cX0_wordsKept 31 = .ok (.iload_n 1, 1) := by decide +kernel
theorem dX0_wordsKept_32 : decode cX0_wordsKept 32 = .ok (.ireturn, 1) := by decide +kernel
theorem dX0_wordsWaiting_0 : decode cX0_wordsWaiting 0 = .ok (.iconst 0, 1) := by decide +kernel
theorem dX0_wordsWaiting_1 : decode cX0_wordsWaiting 1 = .ok (.istore_n 1, 1) := by decide +kernel
theorem dX0_wordsWaiting_2 : decode cX0_wordsWaiting 2 = .ok (.iconst 0, 1) := by decide +kernel
theorem dX0_wordsWaiting_3 : decode cX0_wordsWaiting 3 = .ok (.istore_n 2, 1) := by decide +kernel
theorem dX0_wordsWaiting_4 : decode cX0_wordsWaiting 4 = .ok (.iload_n 2, 1) := by decide +kernel
theorem dX0_wordsWaiting_5 : decode cX0_wordsWaiting 5 = .ok (.iconst 3, 1) := by decide +kernel
theorem dX0_wordsWaiting_6 : decode cX0_wordsWaiting 6 = .ok (.if_icmp .ge 18, 3) := by decide +kernel
theorem dX0_wordsWaiting_9 : decode cX0_wordsWaiting 9 = .ok (.iload_n 1, 1) := by decide +kernel
theorem dX0_wordsWaiting_10 : decode cX0_wordsWaiting 10 = .ok (.aload_n 0, 1) := by decide +kernel
theorem dX0_wordsWaiting_11 : decode cX0_wordsWaiting 11 = .ok (.getfield 33, 3) := by decide +kernel
theorem dX0_wordsWaiting_14 : decode cX0_wordsWaiting 14 = .ok (.iload_n 2, 1) := by decide +kernel
theorem dX0_wordsWaiting_15 : decode cX0_wordsWaiting 15 = .ok (.iaload, 1) := by decide +kernel
theorem dX0_wordsWaiting_16 : decode cX0_wordsWaiting 16 = .ok (.iadd, 1) := by decide +kernel
theorem dX0_wordsWaiting_17 : decode cX0_wordsWaiting 17 = .ok (.istore_n 1, 1) := by decide +kernel
theorem dX0_wordsWaiting_18 : decode cX0_wordsWaiting 18 = .ok (.iinc 2 1, 3) := by decide +kernel
theorem dX0_wordsWaiting_21 : decode cX0_wordsWaiting 21 = .ok (.goto (-17), 3) := by decide +kernel
theorem dX0_wordsWaiting_24 : decode cX0_wordsWaiting 24 = .ok (.iload_n 1, 1) := by decide +kernel
theorem dX0_wordsWaiting_25 : decode cX0_wordsWaiting 25 = .ok (.ireturn, 1) := by decide +kernel
theorem dX0_godfathers_0 : decode cX0_godfathers 0 = .ok (.iconst 0, 1) := by decide +kernel
theorem dX0_godfathers_1 : decode cX0_godfathers 1 = .ok (.istore_n 1, 1) := by decide +kernel
theorem dX0_godfathers_2 : decode cX0_godfathers 2 = .ok (.iconst 0, 1) := by decide +kernel
theorem dX0_godfathers_3 : decode cX0_godfathers 3 = .ok (.istore_n 2, 1) := by decide +kernel
theorem dX0_godfathers_4 : decode cX0_godfathers 4 = .ok (.iload_n 2, 1) := by decide +kernel
theorem dX0_godfathers_5 : decode cX0_godfathers 5 = .ok (.iconst 3, 1) := by decide +kernel
theorem dX0_godfathers_6 : decode cX0_godfathers 6 = .ok (.if_icmp .ge 22, 3) := by decide +kernel
theorem dX0_godfathers_9 : decode cX0_godfathers 9 = .ok (.aload_n 0, 1) := by decide +kernel
theorem dX0_godfathers_10 : decode cX0_godfathers 10 = .ok (.getfield 24, 3) := by decide +kernel
theorem dX0_godfathers_13 : decode cX0_godfathers 13 = .ok (.iload_n 2, 1) := by decide +kernel
theorem dX0_godfathers_14 : decode cX0_godfathers 14 = .ok (.iaload, 1) := by decide +kernel
theorem dX0_godfathers_15 : decode cX0_godfathers 15 = .ok (.iconst (-1), 1) := by decide +kernel
theorem dX0_godfathers_16 : decode cX0_godfathers 16 = .ok (.if_icmp .eq 6, 3) := by decide +kernel
theorem dX0_godfathers_19 : decode cX0_godfathers 19 = .ok (.iinc 1 1, 3) := by decide +kernel
theorem dX0_godfathers_22 : decode cX0_godfathers 22 = .ok (.iinc 2 1, 3) := by decide +kernel
theorem dX0_godfathers_25 : decode cX0_godfathers 25 = .ok (.goto (-21), 3) := by decide +kernel
theorem dX0_godfathers_28 : decode cX0_godfathers 28 = .ok (.iload_n 1, 1) := by decide +kernel
theorem dX0_godfathers_29 : decode cX0_godfathers 29 = .ok (.ireturn, 1) := by decide +kernel
theorem dX0_aheadOf_0 : decode cX0_aheadOf 0 = .ok (.aload_n 0, 1) := by decide +kernel
theorem dX0_aheadOf_1 : decode cX0_aheadOf 1 = .ok (.getfield 45, 3) := by decide +kernel
theorem dX0_aheadOf_4 : decode cX0_aheadOf 4 = .ok (.iload_n 1, 1) := by decide +kernel
theorem dX0_aheadOf_5 : decode cX0_aheadOf 5 = .ok (.iaload, 1) := by decide +kernel
theorem dX0_aheadOf_6 : decode cX0_aheadOf 6 = .ok (.istore_n 2, 1) := by decide +kernel
theorem dX0_aheadOf_7 : decode cX0_aheadOf 7 = .ok (.iconst 0, 1) := by decide +kernel
theorem dX0_aheadOf_8 : decode cX0_aheadOf 8 = .ok (.istore_n 3, 1) := by decide +kernel
theorem dX0_aheadOf_9 : decode cX0_aheadOf 9 = .ok (.iload_n 3, 1) := by decide +kernel
theorem dX0_aheadOf_10 : decode cX0_aheadOf 10 = .ok (.aload_n 0, 1) := by decide +kernel
theorem dX0_aheadOf_11 : decode cX0_aheadOf 11 = .ok (.getfield 33, 3) := by decide +kernel
theorem dX0_aheadOf_14 : decode cX0_aheadOf 14 = .ok (.iload_n 2, 1) := by decide +kernel
theorem dX0_aheadOf_15 : decode cX0_aheadOf 15 = .ok (.iaload, 1) := by decide +kernel
theorem dX0_aheadOf_16 : decode cX0_aheadOf 16 = .ok (.if_icmp .ge 24, 3) := by decide +kernel
theorem dX0_aheadOf_19 : decode cX0_aheadOf 19 = .ok (.aload_n 0, 1) := by decide +kernel
theorem dX0_aheadOf_20 : decode cX0_aheadOf 20 = .ok (.getfield 30, 3) := by decide +kernel
theorem dX0_aheadOf_23 : decode cX0_aheadOf 23 = .ok (.iload_n 2, 1) := by decide +kernel
theorem dX0_aheadOf_24 : decode cX0_aheadOf 24 = .ok (.bipush 6, 2) := by decide +kernel
theorem dX0_aheadOf_26 : decode cX0_aheadOf 26 = .ok (.imul, 1) := by decide +kernel
theorem dX0_aheadOf_27 : decode cX0_aheadOf 27 = .ok (.iload_n 3, 1) := by decide +kernel
theorem dX0_aheadOf_28 : decode cX0_aheadOf 28 = .ok (.iadd, 1) := by decide +kernel
theorem dX0_aheadOf_29 : decode cX0_aheadOf 29 = .ok (.iaload, 1) := by decide +kernel
theorem dX0_aheadOf_30 : decode cX0_aheadOf 30 = .ok (.iload_n 1, 1) := by decide +kernel
theorem dX0_aheadOf_31 : decode cX0_aheadOf 31 = .ok (.if_icmp .eq 9, 3) := by decide +kernel
theorem dX0_aheadOf_34 : decode cX0_aheadOf 34 = .ok (.iinc 3 1, 3) := by decide +kernel
theorem dX0_aheadOf_37 : decode cX0_aheadOf 37 = .ok (.goto (-28), 3) := by decide +kernel
theorem dX0_aheadOf_40 : decode cX0_aheadOf 40 = .ok (.iload_n 3, 1) := by decide +kernel
theorem dX0_aheadOf_41 : decode cX0_aheadOf 41 = .ok (.ireturn, 1) := by decide +kernel
theorem dX0_chipFor_0 : decode cX0_chipFor 0 = .ok (.iconst (-1), 1) := by decide +kernel
theorem dX0_chipFor_1 : decode cX0_chipFor 1 = .ok (.istore_n 3, 1) := by decide +kernel
theorem dX0_chipFor_2 : decode cX0_chipFor 2 = .ok (.iconst 0, 1) := by decide +kernel
theorem dX0_chipFor_3 : decode cX0_chipFor 3 = .ok (.istore 4, 2) := by decide +kernel
theorem dX0_chipFor_5 : decode cX0_chipFor 5 = .ok (.iconst 0, 1) := by decide +kernel
theorem dX0_chipFor_6 : decode cX0_chipFor 6 = .ok (.istore 5, 2) := by decide +kernel
theorem dX0_chipFor_8 : decode cX0_chipFor 8 = .ok (.iload 5, 2) := by decide +kernel
theorem dX0_chipFor_10 : decode cX0_chipFor 10 = .ok (.aload_n 0, 1) := by decide +kernel
theorem dX0_chipFor_11 : decode cX0_chipFor 11 = .ok (.getfield 57, 3) := by decide +kernel
theorem dX0_chipFor_14 : decode cX0_chipFor 14 = .ok (.if_icmp .ge 59, 3) := by decide +kernel
theorem dX0_chipFor_17 : decode cX0_chipFor 17 = .ok (.aload_n 0, 1) := by decide +kernel
theorem dX0_chipFor_18 : decode cX0_chipFor 18 = .ok (.iload 5, 2) := by decide +kernel
theorem dX0_chipFor_20 : decode cX0_chipFor 20 = .ok (.invokevirtual 83, 3) := by decide +kernel
theorem dX0_chipFor_23 : decode cX0_chipFor 23 = .ok (.invokestatic 87, 3) := by decide +kernel
theorem dX0_chipFor_26 : decode cX0_chipFor 26 = .ok (.istore 6, 2) := by decide +kernel
theorem dX0_chipFor_28 : decode cX0_chipFor 28 = .ok (.iload 6, 2) := by decide +kernel
theorem dX0_chipFor_30 : decode cX0_chipFor 30 = .ok (.ifCond .le 17, 3) := by decide +kernel
theorem dX0_chipFor_33 : decode cX0_chipFor 33 = .ok (.aload_n 0, 1) := by decide +kernel
theorem dX0_chipFor_34 : decode cX0_chipFor 34 = .ok (.getfield 9, 3) := by decide +kernel
theorem dX0_chipFor_37 : decode cX0_chipFor 37 = .ok (.iload 5, 2) := by decide +kernel
theorem dX0_chipFor_39 : decode cX0_chipFor 39 = .ok (.iaload, 1) := by decide +kernel
theorem dX0_chipFor_40 : decode cX0_chipFor 40 = .ok (.iload_n 1, 1) := by decide +kernel
theorem dX0_chipFor_41 : decode cX0_chipFor 41 = .ok (.if_icmp .ne 6, 3) := by decide +kernel
theorem dX0_chipFor_44 : decode cX0_chipFor 44 = .ok (.iinc 6 6, 3) := by decide +kernel
theorem dX0_chipFor_47 : decode cX0_chipFor 47 = .ok (.iload 6, 2) := by decide +kernel
theorem dX0_chipFor_49 : decode cX0_chipFor 49 = .ok (.iload 4, 2) := by decide +kernel
theorem dX0_chipFor_51 : decode cX0_chipFor 51 = .ok (.if_icmp .le 16, 3) := by decide +kernel
theorem dX0_chipFor_54 : decode cX0_chipFor 54 = .ok (.iload 5, 2) := by decide +kernel
theorem dX0_chipFor_56 : decode cX0_chipFor 56 = .ok (.iload_n 2, 1) := by decide +kernel
theorem dX0_chipFor_57 : decode cX0_chipFor 57 = .ok (.if_icmp .eq 10, 3) := by decide +kernel
theorem dX0_chipFor_60 : decode cX0_chipFor 60 = .ok (.iload 5, 2) := by decide +kernel
theorem dX0_chipFor_62 : decode cX0_chipFor 62 = .ok (.istore_n 3, 1) := by decide +kernel
theorem dX0_chipFor_63 : decode cX0_chipFor 63 = .ok (.iload 6, 2) := by decide +kernel
theorem dX0_chipFor_65 : decode cX0_chipFor 65 = .ok (.istore 4, 2) := by decide +kernel
theorem dX0_chipFor_67 : decode cX0_chipFor 67 = .ok (.iinc 5 1, 3) := by decide +kernel
theorem dX0_chipFor_70 : decode cX0_chipFor 70 = .ok (.goto (-62), 3) := by decide +kernel
theorem dX0_chipFor_73 : decode cX0_chipFor 73 = .ok (.iload_n 3, 1) := by decide +kernel
theorem dX0_chipFor_74 : decode cX0_chipFor 74 = .ok (.ireturn, 1) := by decide +kernel
theorem dX0_addChip_0 : decode cX0_addChip 0 = .ok (.iload_n 1, 1) := by decide +kernel
theorem dX0_addChip_1 : decode cX0_addChip 1 = .ok (.invokestatic 92, 3) := by decide +kernel
theorem dX0_addChip_4 : decode cX0_addChip 4 = .ok (.ifCond .eq 12, 3) := by decide +kernel
theorem dX0_addChip_7 : decode cX0_addChip 7 = .ok (.iload_n 2, 1) := by decide +kernel
theorem dX0_addChip_8 : decode cX0_addChip 8 = .ok (.ifCond .lt 8, 3) := by decide +kernel
theorem dX0_addChip_11 : decode cX0_addChip 11 = .ok (.iload_n 2, 1) := by decide +kernel
theorem dX0_addChip_12 : decode cX0_addChip 12 = .ok (.iconst 2, 1) := by decide +kernel
theorem dX0_addChip_13 : decode cX0_addChip 13 = .ok (.if_icmp .le 6, 3) := by decide +kernel
theorem dX0_addChip_16 : decode cX0_addChip 16 = .ok (.ldc 95, 2) := by decide +kernel
theorem dX0_addChip_18 : decode cX0_addChip 18 = .ok (.ireturn, 1) := by decide +kernel
theorem dX0_addChip_19 : decode cX0_addChip 19 = .ok (.aload_n 0, 1) := by decide +kernel
theorem dX0_addChip_20 : decode cX0_addChip 20 = .ok (.getfield 57, 3) := by decide +kernel
theorem dX0_addChip_23 : decode cX0_addChip 23 = .ok (.bipush 8, 2) := by decide +kernel
theorem dX0_addChip_25 : decode cX0_addChip 25 = .ok (.if_icmp .lt 6, 3) := by decide +kernel
theorem dX0_addChip_28 : decode cX0_addChip 28 = .ok (.ldc 96, 2) := by decide +kernel
theorem dX0_addChip_30 : decode cX0_addChip 30 = .ok (.ireturn, 1) := by decide +kernel
theorem dX0_addChip_31 : decode cX0_addChip 31 = .ok (.aload_n 0, 1) := by decide +kernel
theorem dX0_addChip_32 : decode cX0_addChip 32 = .ok (.getfield 57, 3) := by decide +kernel
theorem dX0_addChip_35 : decode cX0_addChip 35 = .ok (.istore_n 3, 1) := by decide +kernel
theorem dX0_addChip_36 : decode cX0_addChip 36 = .ok (.aload_n 0, 1) := by decide +kernel
theorem dX0_addChip_37 : decode cX0_addChip 37 = .ok (.dup, 1) := by decide +kernel
theorem dX0_addChip_38 : decode cX0_addChip 38 = .ok (.getfield 57, 3) := by decide +kernel
theorem dX0_addChip_41 : decode cX0_addChip 41 = .ok (.iconst 1, 1) := by decide +kernel
theorem dX0_addChip_42 : decode cX0_addChip 42 = .ok (.iadd, 1) := by decide +kernel
theorem dX0_addChip_43 : decode cX0_addChip 43 = .ok (.putfield 57, 3) := by decide +kernel
theorem dX0_addChip_46 : decode cX0_addChip 46 = .ok (.aload_n 0, 1) := by decide +kernel
theorem dX0_addChip_47 : decode cX0_addChip 47 = .ok (.dup, 1) := by decide +kernel
theorem dX0_addChip_48 : decode cX0_addChip 48 = .ok (.getfield 61, 3) := by decide +kernel
theorem dX0_addChip_51 : decode cX0_addChip 51 = .ok (.iconst 1, 1) := by decide +kernel
theorem dX0_addChip_52 : decode cX0_addChip 52 = .ok (.iload_n 3, 1) := by decide +kernel
theorem dX0_addChip_53 : decode cX0_addChip 53 = .ok (.ishl, 1) := by decide +kernel
theorem dX0_addChip_54 : decode cX0_addChip 54 = .ok (.ior, 1) := by decide +kernel
theorem dX0_addChip_55 : decode cX0_addChip 55 = .ok (.putfield 61, 3) := by decide +kernel
theorem dX0_addChip_58 : decode cX0_addChip 58 = .ok (.aload_n 0, 1) := by decide +kernel
theorem dX0_addChip_59 : decode cX0_addChip 59 = .ok (.getfield 9, 3) := by decide +kernel
theorem dX0_addChip_62 : decode cX0_addChip 62 = .ok (.iload_n 3, 1) := by decide +kernel
theorem dX0_addChip_63 : decode cX0_addChip 63 = .ok (.iload_n 1, 1) := by decide +kernel
theorem dX0_addChip_64 : decode cX0_addChip 64 = .ok (.iastore, 1) := by decide +kernel
theorem dX0_addChip_65 : decode cX0_addChip 65 = .ok (.aload_n 0, 1) := by decide +kernel
theorem dX0_addChip_66 : decode cX0_addChip 66 = .ok (.getfield 18, 3) := by decide +kernel
theorem dX0_addChip_69 : decode cX0_addChip 69 = .ok (.iload_n 3, 1) := by decide +kernel
theorem dX0_addChip_70 : decode cX0_addChip 70 = .ok (.iload_n 2, 1) := by decide +kernel
theorem dX0_addChip_71 : decode cX0_addChip 71 = .ok (.iastore, 1) := by decide +kernel
theorem dX0_addChip_72 : decode cX0_addChip 72 = .ok (.iload_n 3, 1) := by decide +kernel
theorem dX0_addChip_73 : decode cX0_addChip 73 = .ok (.ireturn, 1) := by decide +kernel
theorem dX0_makeGodfather_0 : decode cX0_makeGodfather 0 = .ok (.aload_n 0, 1) := by decide +kernel
theorem dX0_makeGodfather_1 : decode cX0_makeGodfather 1 = .ok (.iload_n 1, 1) := by decide +kernel
theorem dX0_makeGodfather_2 : decode cX0_makeGodfather 2 = .ok (.invokevirtual 97, 3) := by decide +kernel
theorem dX0_makeGodfather_5 : decode cX0_makeGodfather 5 = .ok (.ifCond .ne 6, 3) := by decide +kernel
theorem dX0_makeGodfather_8 : decode cX0_makeGodfather 8 = .ok (.ldc 95, 2) := by decide +kernel
theorem dX0_makeGodfather_10 : decode cX0_makeGodfather 10 = .ok (.ireturn, 1) := by decide +kernel
theorem dX0_makeGodfather_11 : decode cX0_makeGodfather 11 = .ok (.aload_n 0, 1) := by decide +kernel
theorem dX0_makeGodfather_12 : decode cX0_makeGodfather 12 = .ok (.iload_n 1, 1) := by decide +kernel
theorem dX0_makeGodfather_13 : decode cX0_makeGodfather 13 = .ok (.invokevirtual 79, 3) := by decide +kernel
theorem dX0_makeGodfather_16 : decode cX0_makeGodfather 16 = .ok (.ifCond .eq 26, 3) := by decide +kernel
theorem dX0_makeGodfather_19 : decode cX0_makeGodfather 19 = .ok (.aload_n 0, 1) := by decide +kernel
theorem dX0_makeGodfather_20 : decode cX0_makeGodfather 20 = .ok (.getfield 24, 3) := by decide +kernel
theorem dX0_makeGodfather_23 : decode cX0_makeGodfather 23 = .ok (.aload_n 0, 1) := by decide +kernel
theorem dX0_makeGodfather_24 : decode cX0_makeGodfather 24 = .ok (.getfield 9, 3) := by decide +kernel
theorem dX0_makeGodfather_27 : decode cX0_makeGodfather 27 = .ok (.iload_n 1, 1) := by decide +kernel
theorem dX0_makeGodfather_28 : decode cX0_makeGodfather 28 = .ok (.iaload, 1) := by decide +kernel
theorem dX0_makeGodfather_29 : decode cX0_makeGodfather 29 = .ok (.iaload, 1) := by decide +kernel
theorem dX0_makeGodfather_30 : decode cX0_makeGodfather 30 = .ok (.iconst (-1), 1) := by decide +kernel
theorem dX0_makeGodfather_31 : decode cX0_makeGodfather 31 = .ok (.if_icmp .ne 11, 3) := by decide +kernel
theorem dX0_makeGodfather_34 : decode cX0_makeGodfather 34 = .ok (.aload_n 0, 1) := by decide +kernel
theorem dX0_makeGodfather_35 : decode cX0_makeGodfather 35 = .ok (.iload_n 1, 1) := by decide +kernel
theorem dX0_makeGodfather_36 : decode cX0_makeGodfather 36 = .ok (.invokevirtual 100, 3) := by decide +kernel
theorem dX0_makeGodfather_39 : decode cX0_makeGodfather 39 = .ok (.ifCond .le 6, 3) := by decide +kernel
theorem dX0_makeGodfather_42 : decode cX0_makeGodfather 42 = .ok (.ldc 103, 2) := by decide +kernel
theorem dX0_makeGodfather_44 : decode cX0_makeGodfather 44 = .ok (.ireturn, 1) := by decide +kernel
theorem dX0_makeGodfather_45 : decode cX0_makeGodfather 45 = .ok (.aload_n 0, 1) := by decide +kernel
theorem dX0_makeGodfather_46 : decode cX0_makeGodfather 46 = .ok (.getfield 24, 3) := by decide +kernel
theorem dX0_makeGodfather_49 : decode cX0_makeGodfather 49 = .ok (.aload_n 0, 1) := by decide +kernel
theorem dX0_makeGodfather_50 : decode cX0_makeGodfather 50 = .ok (.getfield 9, 3) := by decide +kernel
theorem dX0_makeGodfather_53 : decode cX0_makeGodfather 53 = .ok (.iload_n 1, 1) := by decide +kernel
theorem dX0_makeGodfather_54 : decode cX0_makeGodfather 54 = .ok (.iaload, 1) := by decide +kernel
theorem dX0_makeGodfather_55 : decode cX0_makeGodfather 55 = .ok (.iload_n 1, 1) := by decide +kernel
theorem dX0_makeGodfather_56 : decode cX0_makeGodfather 56 = .ok (.iastore, 1) := by decide +kernel
theorem dX0_makeGodfather_57 : decode cX0_makeGodfather 57 = .ok (.aload_n 0, 1) := by decide +kernel
theorem dX0_makeGodfather_58 : decode cX0_makeGodfather 58 = .ok (.aload_n 0, 1) := by decide +kernel
theorem dX0_makeGodfather_59 : decode cX0_makeGodfather 59 = .ok (.getfield 9, 3) := by decide +kernel
theorem dX0_makeGodfather_62 : decode cX0_makeGodfather 62 = .ok (.iload_n 1, 1) := by decide +kernel
theorem dX0_makeGodfather_63 : decode cX0_makeGodfather 63 = .ok (.iaload, 1) := by decide +kernel
theorem dX0_makeGodfather_64 : decode cX0_makeGodfather 64 = .ok (.invokevirtual 104, 3) := by decide +kernel
theorem dX0_makeGodfather_67 : decode cX0_makeGodfather 67 = .ok (.invokestatic 87, 3) := by decide +kernel
theorem dX0_makeGodfather_70 : decode cX0_makeGodfather 70 = .ok (.ireturn, 1) := by decide +kernel
theorem dX0_letDie_0 : decode cX0_letDie 0 = .ok (.aload_n 0, 1) := by decide +kernel
theorem dX0_letDie_1 : decode cX0_letDie 1 = .ok (.iload_n 1, 1) := by decide +kernel
theorem dX0_letDie_2 : decode cX0_letDie 2 = .ok (.invokevirtual 97, 3) := by decide +kernel
theorem dX0_letDie_5 : decode cX0_letDie 5 = .ok (.ifCond .ne 6, 3) := by decide +kernel
theorem dX0_letDie_8 : decode cX0_letDie 8 = .ok (.ldc 95, 2) := by decide +kernel
theorem dX0_letDie_10 : decode cX0_letDie 10 = .ok (.ireturn, 1) := by decide +kernel
theorem dX0_letDie_11 : decode cX0_letDie 11 = .ok (.aload_n 0, 1) := by decide +kernel
theorem dX0_letDie_12 : decode cX0_letDie 12 = .ok (.iload_n 1, 1) := by decide +kernel
theorem dX0_letDie_13 : decode cX0_letDie 13 = .ok (.invokevirtual 79, 3) := by decide +kernel
theorem dX0_letDie_16 : decode cX0_letDie 16 = .ok (.ifCond .ne 6, 3) := by decide +kernel
theorem dX0_letDie_19 : decode cX0_letDie 19 = .ok (.ldc 103, 2) := by decide +kernel
theorem dX0_letDie_21 : decode cX0_letDie 21 = .ok (.ireturn, 1) := by decide +kernel
theorem dX0_letDie_22 : decode cX0_letDie 22 = .ok (.iconst 0, 1) := by decide +kernel
theorem dX0_letDie_23 : decode cX0_letDie 23 = .ok (.istore_n 2, 1) := by decide +kernel
theorem dX0_letDie_24 : decode cX0_letDie 24 = .ok (.aload_n 0, 1) := by decide +kernel
theorem dX0_letDie_25 : decode cX0_letDie 25 = .ok (.iload_n 1, 1) := by decide +kernel
theorem dX0_letDie_26 : decode cX0_letDie 26 = .ok (.invokevirtual 107, 3) := by decide +kernel
theorem dX0_letDie_29 : decode cX0_letDie 29 = .ok (.ifCond .eq 46, 3) := by decide +kernel
theorem dX0_letDie_32 : decode cX0_letDie 32 = .ok (.iconst 0, 1) := by decide +kernel
theorem dX0_letDie_33 : decode cX0_letDie 33 = .ok (.istore_n 3, 1) := by decide +kernel
theorem dX0_letDie_34 : decode cX0_letDie 34 = .ok (.iload_n 3, 1) := by decide +kernel
theorem dX0_letDie_35 : decode cX0_letDie 35 = .ok (.bipush 6, 2) := by decide +kernel
theorem dX0_letDie_37 : decode cX0_letDie 37 = .ok (.if_icmp .ge 23, 3) := by decide +kernel
theorem dX0_letDie_40 : decode cX0_letDie 40 = .ok (.iload_n 2, 1) := by decide +kernel
theorem dX0_letDie_41 : decode cX0_letDie 41 = .ok (.aload_n 0, 1) := by decide +kernel
theorem dX0_letDie_42 : decode cX0_letDie 42 = .ok (.aload_n 0, 1) := by decide +kernel
theorem dX0_letDie_43 : decode cX0_letDie 43 = .ok (.getfield 9, 3) := by decide +kernel
theorem dX0_letDie_46 : decode cX0_letDie 46 = .ok (.iload_n 1, 1) := by decide +kernel
theorem dX0_letDie_47 : decode cX0_letDie 47 = .ok (.iaload, 1) := by decide +kernel
theorem dX0_letDie_48 : decode cX0_letDie 48 = .ok (.iload_n 3, 1) := by decide +kernel
theorem dX0_letDie_49 : decode cX0_letDie 49 = .ok (.invokevirtual 110, 3) := by decide +kernel
theorem dX0_letDie_52 : decode cX0_letDie 52 = .ok (.iadd, 1) := by decide +kernel
theorem dX0_letDie_53 : decode cX0_letDie 53 = .ok (.istore_n 2, 1) := by decide +kernel
theorem dX0_letDie_54 : decode cX0_letDie 54 = .ok (.iinc 3 1, 3) := by decide +kernel
theorem dX0_letDie_57 : decode cX0_letDie 57 = .ok (.goto (-23), 3) := by decide +kernel
theorem dX0_letDie_60 : decode cX0_letDie 60 = .ok (.aload_n 0, 1) := by decide +kernel
theorem dX0_letDie_61 : decode cX0_letDie 61 = .ok (.getfield 24, 3) := by decide +kernel
theorem dX0_letDie_64 : decode cX0_letDie 64 = .ok (.aload_n 0, 1) := by decide +kernel
theorem dX0_letDie_65 : decode cX0_letDie 65 = .ok (.getfield 9, 3) := by decide +kernel
theorem dX0_letDie_68 : decode cX0_letDie 68 = .ok (.iload_n 1, 1) := by decide +kernel
theorem dX0_letDie_69 : decode cX0_letDie 69 = .ok (.iaload, 1) := by decide +kernel
theorem dX0_letDie_70 : decode cX0_letDie 70 = .ok (.iconst (-1), 1) := by decide +kernel
theorem dX0_letDie_71 : decode cX0_letDie 71 = .ok (.iastore, 1) := by decide +kernel
theorem dX0_letDie_72 : decode cX0_letDie 72 = .ok (.goto 45, 3) := by decide +kernel
theorem dX0_letDie_75 : decode cX0_letDie 75 = .ok (.iconst 0, 1) := by decide +kernel
theorem dX0_letDie_76 : decode cX0_letDie 76 = .ok (.istore_n 3, 1) := by decide +kernel
theorem dX0_letDie_77 : decode cX0_letDie 77 = .ok (.iload_n 3, 1) := by decide +kernel
theorem dX0_letDie_78 : decode cX0_letDie 78 = .ok (.bipush 6, 2) := by decide +kernel
theorem dX0_letDie_80 : decode cX0_letDie 80 = .ok (.if_icmp .ge 37, 3) := by decide +kernel
theorem dX0_letDie_83 : decode cX0_letDie 83 = .ok (.aload_n 0, 1) := by decide +kernel
theorem dX0_letDie_84 : decode cX0_letDie 84 = .ok (.getfield 21, 3) := by decide +kernel
theorem dX0_letDie_87 : decode cX0_letDie 87 = .ok (.iload_n 1, 1) := by decide +kernel
theorem dX0_letDie_88 : decode cX0_letDie 88 = .ok (.bipush 6, 2) := by decide +kernel
theorem dX0_letDie_90 : decode cX0_letDie 90 = .ok (.imul, 1) := by decide +kernel
theorem dX0_letDie_91 : decode cX0_letDie 91 = .ok (.iload_n 3, 1) := by decide +kernel
theorem dX0_letDie_92 : decode cX0_letDie 92 = .ok (.iadd, 1) := by decide +kernel
theorem dX0_letDie_93 : decode cX0_letDie 93 = .ok (.iaload, 1) := by decide +kernel
theorem dX0_letDie_94 : decode cX0_letDie 94 = .ok (.istore 4, 2) := by decide +kernel
theorem dX0_letDie_96 : decode cX0_letDie 96 = .ok (.iload_n 2, 1) := by decide +kernel
theorem dX0_letDie_97 : decode cX0_letDie 97 = .ok (.aload_n 0, 1) := by decide +kernel
theorem dX0_letDie_98 : decode cX0_letDie 98 = .ok (.iload 4, 2) := by decide +kernel
theorem dX0_letDie_100 : decode cX0_letDie 100 = .ok (.invokevirtual 114, 3) := by decide +kernel
theorem dX0_letDie_103 : decode cX0_letDie 103 = .ok (.iadd, 1) := by decide +kernel
theorem dX0_letDie_104 : decode cX0_letDie 104 = .ok (.istore_n 2, 1) := by decide +kernel
theorem dX0_letDie_105 : decode cX0_letDie 105 = .ok (.aload_n 0, 1) := by decide +kernel
theorem dX0_letDie_106 : decode cX0_letDie 106 = .ok (.iload 4, 2) := by decide +kernel
theorem dX0_letDie_108 : decode cX0_letDie 108 = .ok (.invokevirtual 117, 3) := by decide +kernel
theorem dX0_letDie_111 : decode cX0_letDie 111 = .ok (.iinc 3 1, 3) := by decide +kernel
theorem dX0_letDie_114 : decode cX0_letDie 114 = .ok (.goto (-37), 3) := by decide +kernel
theorem dX0_letDie_117 : decode cX0_letDie 117 = .ok (.aload_n 0, 1) := by decide +kernel
theorem dX0_letDie_118 : decode cX0_letDie 118 = .ok (.dup, 1) := by decide +kernel
theorem dX0_letDie_119 : decode cX0_letDie 119 = .ok (.getfield 61, 3) := by decide +kernel
theorem dX0_letDie_122 : decode cX0_letDie 122 = .ok (.iconst 1, 1) := by decide +kernel
theorem dX0_letDie_123 : decode cX0_letDie 123 = .ok (.iload_n 1, 1) := by decide +kernel
theorem dX0_letDie_124 : decode cX0_letDie 124 = .ok (.ishl, 1) := by decide +kernel
theorem dX0_letDie_125 : decode cX0_letDie 125 = .ok (.iconst (-1), 1) := by decide +kernel
theorem dX0_letDie_126 : decode cX0_letDie 126 = .ok (.ixor, 1) := by decide +kernel
theorem dX0_letDie_127 : decode cX0_letDie 127 = .ok (.iand, 1) := by decide +kernel
theorem dX0_letDie_128 : decode cX0_letDie 128 = .ok (.putfield 61, 3) := by decide +kernel
theorem dX0_letDie_131 : decode cX0_letDie 131 = .ok (.iload_n 2, 1) := by decide +kernel
theorem dX0_letDie_132 : decode cX0_letDie 132 = .ok (.ireturn, 1) := by decide +kernel
theorem dX0_breakRow_0 : decode cX0_breakRow 0 = .ok (.aload_n 0, 1) := by decide +kernel
theorem dX0_breakRow_1 : decode cX0_breakRow 1 = .ok (.iload_n 1, 1) := by decide +kernel
theorem dX0_breakRow_2 : decode cX0_breakRow 2 = .ok (.invokevirtual 97, 3) := by decide +kernel
theorem dX0_breakRow_5 : decode cX0_breakRow 5 = .ok (.ifCond .eq 10, 3) := by decide +kernel
theorem dX0_breakRow_8 : decode cX0_breakRow 8 = .ok (.iload_n 2, 1) := by decide +kernel
theorem dX0_breakRow_9 : decode cX0_breakRow 9 = .ok (.invokestatic 121, 3) := by decide +kernel
theorem dX0_breakRow_12 : decode cX0_breakRow 12 = .ok (.ifCond .ne 6, 3) := by decide +kernel
theorem dX0_breakRow_15 : decode cX0_breakRow 15 = .ok (.ldc 95, 2) := by decide +kernel
theorem dX0_breakRow_17 : decode cX0_breakRow 17 = .ok (.ireturn, 1) := by decide +kernel
theorem dX0_breakRow_18 : decode cX0_breakRow 18 = .ok (.aload_n 0, 1) := by decide +kernel
theorem dX0_breakRow_19 : decode cX0_breakRow 19 = .ok (.iload_n 1, 1) := by decide +kernel
theorem dX0_breakRow_20 : decode cX0_breakRow 20 = .ok (.invokevirtual 79, 3) := by decide +kernel
theorem dX0_breakRow_23 : decode cX0_breakRow 23 = .ok (.ifCond .eq 12, 3) := by decide +kernel
theorem dX0_breakRow_26 : decode cX0_breakRow 26 = .ok (.aload_n 0, 1) := by decide +kernel
theorem dX0_breakRow_27 : decode cX0_breakRow 27 = .ok (.iload_n 1, 1) := by decide +kernel
theorem dX0_breakRow_28 : decode cX0_breakRow 28 = .ok (.iload_n 2, 1) := by decide +kernel
theorem dX0_breakRow_29 : decode cX0_breakRow 29 = .ok (.invokevirtual 124, 3) := by decide +kernel
theorem dX0_breakRow_32 : decode cX0_breakRow 32 = .ok (.ifCond .eq 6, 3) := by decide +kernel
theorem dX0_breakRow_35 : decode cX0_breakRow 35 = .ok (.ldc 103, 2) := by decide +kernel
theorem dX0_breakRow_37 : decode cX0_breakRow 37 = .ok (.ireturn, 1) := by decide +kernel
theorem dX0_breakRow_38 : decode cX0_breakRow 38 = .ok (.aload_n 0, 1) := by decide +kernel
theorem dX0_breakRow_39 : decode cX0_breakRow 39 = .ok (.getfield 18, 3) := by decide +kernel
theorem dX0_breakRow_42 : decode cX0_breakRow 42 = .ok (.iload_n 1, 1) := by decide +kernel
theorem dX0_breakRow_43 : decode cX0_breakRow 43 = .ok (.iaload, 1) := by decide +kernel
theorem dX0_breakRow_44 : decode cX0_breakRow 44 = .ok (.ifCond .le 7, 3) := by decide +kernel
theorem dX0_breakRow_47 : decode cX0_breakRow 47 = .ok (.iconst 1, 1) := by decide +kernel
theorem dX0_breakRow_48 : decode cX0_breakRow 48 = .ok (.goto 4, 3) := by decide +kernel
theorem dX0_breakRow_51 : decode cX0_breakRow 51 = .ok (.iconst 0, 1) := by decide +kernel
theorem dX0_breakRow_52 : decode cX0_breakRow 52 = .ok (.istore_n 3, 1) := by decide +kernel
theorem dX0_breakRow_53 : decode cX0_breakRow 53 = .ok (.iload_n 3, 1) := by decide +kernel
theorem dX0_breakRow_54 : decode cX0_breakRow 54 = .ok (.ifCond .eq 16, 3) := by decide +kernel
theorem dX0_breakRow_57 : decode cX0_breakRow 57 = .ok (.aload_n 0, 1) := by decide +kernel
theorem dX0_breakRow_58 : decode cX0_breakRow 58 = .ok (.getfield 18, 3) := by decide +kernel
theorem dX0_breakRow_61 : decode cX0_breakRow 61 = .ok (.iload_n 1, 1) := by decide +kernel
theorem dX0_breakRow_62 : decode cX0_breakRow 62 = .ok (.dup2, 1) := by decide +kernel
theorem dX0_breakRow_63 : decode cX0_breakRow 63 = .ok (.iaload, 1) := by decide +kernel
theorem dX0_breakRow_64 : decode cX0_breakRow 64 = .ok (.iconst 1, 1) := by decide +kernel
theorem dX0_breakRow_65 : decode cX0_breakRow 65 = .ok (.isub, 1) := by decide +kernel
theorem dX0_breakRow_66 : decode cX0_breakRow 66 = .ok (.iastore, 1) := by decide +kernel
theorem dX0_breakRow_67 : decode cX0_breakRow 67 = .ok (.goto 15, 3) := by decide +kernel
theorem dX0_breakRow_70 : decode cX0_breakRow 70 = .ok (.aload_n 0, 1) := by decide +kernel
theorem dX0_breakRow_71 : decode cX0_breakRow 71 = .ok (.getfield 15, 3) := by decide +kernel
theorem dX0_breakRow_74 : decode cX0_breakRow 74 = .ok (.iload_n 1, 1) := by decide +kernel
theorem dX0_breakRow_75 : decode cX0_breakRow 75 = .ok (.dup2, 1) := by decide +kernel
theorem dX0_breakRow_76 : decode cX0_breakRow 76 = .ok (.iaload, 1) := by decide +kernel
theorem dX0_breakRow_77 : decode cX0_breakRow 77 = .ok (.iconst 1, 1) := by decide +kernel
theorem dX0_breakRow_78 : decode cX0_breakRow 78 = .ok (.iload_n 2, 1) := by decide +kernel
theorem dX0_breakRow_79 : decode cX0_breakRow 79 = .ok (.ishl, 1) := by decide +kernel
theorem dX0_breakRow_80 : decode cX0_breakRow 80 = .ok (.ior, 1) := by decide +kernel
theorem dX0_breakRow_81 : decode cX0_breakRow 81 = .ok (.iastore, 1) := by decide +kernel
theorem dX0_breakRow_82 : decode cX0_breakRow 82 = .ok (.aload_n 0, 1) := by decide +kernel
theorem dX0_breakRow_83 : decode cX0_breakRow 83 = .ok (.iload_n 1, 1) := by decide +kernel
theorem dX0_breakRow_84 : decode cX0_breakRow 84 = .ok (.invokevirtual 107, 3) := by decide +kernel
theorem dX0_breakRow_87 : decode cX0_breakRow 87 = .ok (.ifCond .eq 15, 3) := by decide +kernel
theorem dX0_breakRow_90 : decode cX0_breakRow 90 = .ok (.aload_n 0, 1) := by decide +kernel
theorem dX0_breakRow_91 : decode cX0_breakRow 91 = .ok (.aload_n 0, 1) := by decide +kernel
theorem dX0_breakRow_92 : decode cX0_breakRow 92 = .ok (.getfield 9, 3) := by decide +kernel
theorem dX0_breakRow_95 : decode cX0_breakRow 95 = .ok (.iload_n 1, 1) := by decide +kernel
theorem dX0_breakRow_96 : decode cX0_breakRow 96 = .ok (.iaload, 1) := by decide +kernel
theorem dX0_breakRow_97 : decode cX0_breakRow 97 = .ok (.iload_n 2, 1) := by decide +kernel
theorem dX0_breakRow_98 : decode cX0_breakRow 98 = .ok (.invokevirtual 110, 3) := by decide +kernel
theorem dX0_breakRow_101 : decode cX0_breakRow 101 = .ok (.ireturn, 1) := by decide +kernel
theorem dX0_breakRow_102 : decode cX0_breakRow 102 = .ok (.aload_n 0, 1) := by decide +kernel
theorem dX0_breakRow_103 : decode cX0_breakRow 103 = .ok (.getfield 21, 3) := by decide +kernel
theorem dX0_breakRow_106 : decode cX0_breakRow 106 = .ok (.iload_n 1, 1) := by decide +kernel
theorem dX0_breakRow_107 : decode cX0_breakRow 107 = .ok (.bipush 6, 2) := by decide +kernel
theorem dX0_breakRow_109 : decode cX0_breakRow 109 = .ok (.imul, 1) := by decide +kernel
theorem dX0_breakRow_110 : decode cX0_breakRow 110 = .ok (.iload_n 2, 1) := by decide +kernel
theorem dX0_breakRow_111 : decode cX0_breakRow 111 = .ok (.iadd, 1) := by decide +kernel
theorem dX0_breakRow_112 : decode cX0_breakRow 112 = .ok (.iaload, 1) := by decide +kernel
theorem dX0_breakRow_113 : decode cX0_breakRow 113 = .ok (.istore 4, 2) := by decide +kernel
theorem dX0_breakRow_115 : decode cX0_breakRow 115 = .ok (.aload_n 0, 1) := by decide +kernel
theorem dX0_breakRow_116 : decode cX0_breakRow 116 = .ok (.iload 4, 2) := by decide +kernel
theorem dX0_breakRow_118 : decode cX0_breakRow 118 = .ok (.invokevirtual 114, 3) := by decide +kernel
theorem dX0_breakRow_121 : decode cX0_breakRow 121 = .ok (.istore 5, 2) := by decide +kernel
theorem dX0_breakRow_123 : decode cX0_breakRow 123 = .ok (.iload_n 3, 1) := by decide +kernel
theorem dX0_breakRow_124 : decode cX0_breakRow 124 = .ok (.ifCond .ne 9, 3) := by decide +kernel
theorem dX0_breakRow_127 : decode cX0_breakRow 127 = .ok (.aload_n 0, 1) := by decide +kernel
theorem dX0_breakRow_128 : decode cX0_breakRow 128 = .ok (.iload 4, 2) := by decide +kernel
theorem dX0_breakRow_130 : decode cX0_breakRow 130 = .ok (.invokevirtual 117, 3) := by decide +kernel
theorem dX0_breakRow_133 : decode cX0_breakRow 133 = .ok (.iload 5, 2) := by decide +kernel
theorem dX0_breakRow_135 : decode cX0_breakRow 135 = .ok (.ireturn, 1) := by decide +kernel
theorem dX0_putWord_0 : decode cX0_putWord 0 = .ok (.aload_n 0, 1) := by decide +kernel
theorem dX0_putWord_1 : decode cX0_putWord 1 = .ok (.iload_n 1, 1) := by decide +kernel
theorem dX0_putWord_2 : decode cX0_putWord 2 = .ok (.invokevirtual 97, 3) := by decide +kernel
theorem dX0_putWord_5 : decode cX0_putWord 5 = .ok (.ifCond .eq 10, 3) := by decide +kernel
theorem dX0_putWord_8 : decode cX0_putWord 8 = .ok (.iload_n 2, 1) := by decide +kernel
theorem dX0_putWord_9 : decode cX0_putWord 9 = .ok (.invokestatic 128, 3) := by decide +kernel
theorem dX0_putWord_12 : decode cX0_putWord 12 = .ok (.ifCond .ne 6, 3) := by decide +kernel
theorem dX0_putWord_15 : decode cX0_putWord 15 = .ok (.ldc 95, 2) := by decide +kernel
theorem dX0_putWord_17 : decode cX0_putWord 17 = .ok (.ireturn, 1) := by decide +kernel
theorem dX0_putWord_18 : decode cX0_putWord 18 = .ok (.aload_n 0, 1) := by decide +kernel
theorem dX0_putWord_19 : decode cX0_putWord 19 = .ok (.iload_n 1, 1) := by decide +kernel
theorem dX0_putWord_20 : decode cX0_putWord 20 = .ok (.invokevirtual 83, 3) := by decide +kernel
theorem dX0_putWord_23 : decode cX0_putWord 23 = .ok (.ifCond .ne 6, 3) := by decide +kernel
theorem dX0_putWord_26 : decode cX0_putWord 26 = .ok (.ldc 103, 2) := by decide +kernel
theorem dX0_putWord_28 : decode cX0_putWord 28 = .ok (.ireturn, 1) := by decide +kernel
theorem dX0_putWord_29 : decode cX0_putWord 29 = .ok (.aload_n 0, 1) := by decide +kernel
theorem dX0_putWord_30 : decode cX0_putWord 30 = .ok (.getfield 64, 3) := by decide +kernel
theorem dX0_putWord_33 : decode cX0_putWord 33 = .ok (.bipush 24, 2) := by decide +kernel
theorem dX0_putWord_35 : decode cX0_putWord 35 = .ok (.if_icmp .lt 6, 3) := by decide +kernel
theorem dX0_putWord_38 : decode cX0_putWord 38 = .ok (.ldc 96, 2) := by decide +kernel
theorem dX0_putWord_40 : decode cX0_putWord 40 = .ok (.ireturn, 1) := by decide +kernel
theorem dX0_putWord_41 : decode cX0_putWord 41 = .ok (.aload_n 0, 1) := by decide +kernel
theorem dX0_putWord_42 : decode cX0_putWord 42 = .ok (.getfield 64, 3) := by decide +kernel
theorem dX0_putWord_45 : decode cX0_putWord 45 = .ok (.istore_n 3, 1) := by decide +kernel
theorem dX0_putWord_46 : decode cX0_putWord 46 = .ok (.aload_n 0, 1) := by decide +kernel
theorem dX0_putWord_47 : decode cX0_putWord 47 = .ok (.dup, 1) := by decide +kernel
theorem dX0_putWord_48 : decode cX0_putWord 48 = .ok (.getfield 64, 3) := by decide +kernel
theorem dX0_putWord_51 : decode cX0_putWord 51 = .ok (.iconst 1, 1) := by decide +kernel
theorem dX0_putWord_52 : decode cX0_putWord 52 = .ok (.iadd, 1) := by decide +kernel
theorem dX0_putWord_53 : decode cX0_putWord 53 = .ok (.putfield 64, 3) := by decide +kernel
theorem dX0_putWord_56 : decode cX0_putWord 56 = .ok (.aload_n 0, 1) := by decide +kernel
theorem dX0_putWord_57 : decode cX0_putWord 57 = .ok (.getfield 36, 3) := by decide +kernel
theorem dX0_putWord_60 : decode cX0_putWord 60 = .ok (.iload_n 3, 1) := by decide +kernel
theorem dX0_putWord_61 : decode cX0_putWord 61 = .ok (.iload_n 2, 1) := by decide +kernel
theorem dX0_putWord_62 : decode cX0_putWord 62 = .ok (.iastore, 1) := by decide +kernel
theorem dX0_putWord_63 : decode cX0_putWord 63 = .ok (.aload_n 0, 1) := by decide +kernel
theorem dX0_putWord_64 : decode cX0_putWord 64 = .ok (.iload_n 3, 1) := by decide +kernel
theorem dX0_putWord_65 : decode cX0_putWord 65 = .ok (.iload_n 1, 1) := by decide +kernel
theorem dX0_putWord_66 : decode cX0_putWord 66 = .ok (.invokevirtual 131, 3) := by decide +kernel
theorem dX0_putWord_69 : decode cX0_putWord 69 = .ok (.iload_n 3, 1) := by decide +kernel
theorem dX0_putWord_70 : decode cX0_putWord 70 = .ok (.ireturn, 1) := by decide +kernel
theorem dX0_writeWord_0 : decode cX0_writeWord 0 = .ok (.aload_n 0, 1) := by decide +kernel
theorem dX0_writeWord_1 : decode cX0_writeWord 1 = .ok (.iload_n 1, 1) := by decide +kernel
theorem dX0_writeWord_2 : decode cX0_writeWord 2 = .ok (.invokevirtual 135, 3) := by decide +kernel
theorem dX0_writeWord_5 : decode cX0_writeWord 5 = .ok (.ifCond .eq 10, 3) := by decide +kernel
theorem dX0_writeWord_8 : decode cX0_writeWord 8 = .ok (.iload_n 2, 1) := by decide +kernel
theorem dX0_writeWord_9 : decode cX0_writeWord 9 = .ok (.invokestatic 128, 3) := by decide +kernel
theorem dX0_writeWord_12 : decode cX0_writeWord 12 = .ok (.ifCond .ne 6, 3) := by decide +kernel
theorem dX0_writeWord_15 : decode cX0_writeWord 15 = .ok (.ldc 95, 2) := by decide +kernel
theorem dX0_writeWord_17 : decode cX0_writeWord 17 = .ok (.ireturn, 1) := by decide +kernel
theorem dX0_writeWord_18 : decode cX0_writeWord 18 = .ok (.aload_n 0, 1) := by decide +kernel
theorem dX0_writeWord_19 : decode cX0_writeWord 19 = .ok (.getfield 39, 3) := by decide +kernel
theorem dX0_writeWord_22 : decode cX0_writeWord 22 = .ok (.iload_n 1, 1) := by decide +kernel
theorem dX0_writeWord_23 : decode cX0_writeWord 23 = .ok (.iaload, 1) := by decide +kernel
theorem dX0_writeWord_24 : decode cX0_writeWord 24 = .ok (.iconst (-1), 1) := by decide +kernel
theorem dX0_writeWord_25 : decode cX0_writeWord 25 = .ok (.if_icmp .ne 6, 3) := by decide +kernel
theorem dX0_writeWord_28 : decode cX0_writeWord 28 = .ok (.ldc 103, 2) := by decide +kernel
theorem dX0_writeWord_30 : decode cX0_writeWord 30 = .ok (.ireturn, 1) := by decide +kernel
theorem dX0_writeWord_31 : decode cX0_writeWord 31 = .ok (.aload_n 0, 1) := by decide +kernel
theorem dX0_writeWord_32 : decode cX0_writeWord 32 = .ok (.getfield 36, 3) := by decide +kernel
theorem dX0_writeWord_35 : decode cX0_writeWord 35 = .ok (.iload_n 1, 1) := by decide +kernel
theorem dX0_writeWord_36 : decode cX0_writeWord 36 = .ok (.iaload, 1) := by decide +kernel
theorem dX0_writeWord_37 : decode cX0_writeWord 37 = .ok (.istore_n 3, 1) := by decide +kernel
theorem dX0_writeWord_38 : decode cX0_writeWord 38 = .ok (.aload_n 0, 1) := by decide +kernel
theorem dX0_writeWord_39 : decode cX0_writeWord 39 = .ok (.getfield 36, 3) := by decide +kernel
theorem dX0_writeWord_42 : decode cX0_writeWord 42 = .ok (.iload_n 1, 1) := by decide +kernel
theorem dX0_writeWord_43 : decode cX0_writeWord 43 = .ok (.iload_n 2, 1) := by decide +kernel
theorem dX0_writeWord_44 : decode cX0_writeWord 44 = .ok (.iastore, 1) := by decide +kernel
theorem dX0_writeWord_45 : decode cX0_writeWord 45 = .ok (.iload_n 3, 1) := by decide +kernel
theorem dX0_writeWord_46 : decode cX0_writeWord 46 = .ok (.ireturn, 1) := by decide +kernel
theorem dX0_carryWord_0 : decode cX0_carryWord 0 = .ok (.aload_n 0, 1) := by decide +kernel
theorem dX0_carryWord_1 : decode cX0_carryWord 1 = .ok (.iload_n 1, 1) := by decide +kernel
theorem dX0_carryWord_2 : decode cX0_carryWord 2 = .ok (.invokevirtual 135, 3) := by decide +kernel
theorem dX0_carryWord_5 : decode cX0_carryWord 5 = .ok (.ifCond .eq 11, 3) := by decide +kernel
theorem dX0_carryWord_8 : decode cX0_carryWord 8 = .ok (.aload_n 0, 1) := by decide +kernel
theorem dX0_carryWord_9 : decode cX0_carryWord 9 = .ok (.iload_n 2, 1) := by decide +kernel
theorem dX0_carryWord_10 : decode cX0_carryWord 10 = .ok (.invokevirtual 97, 3) := by decide +kernel
theorem dX0_carryWord_13 : decode cX0_carryWord 13 = .ok (.ifCond .ne 6, 3) := by decide +kernel
theorem dX0_carryWord_16 : decode cX0_carryWord 16 = .ok (.ldc 95, 2) := by decide +kernel
theorem dX0_carryWord_18 : decode cX0_carryWord 18 = .ok (.ireturn, 1) := by decide +kernel
theorem dX0_carryWord_19 : decode cX0_carryWord 19 = .ok (.aload_n 0, 1) := by decide +kernel
theorem dX0_carryWord_20 : decode cX0_carryWord 20 = .ok (.getfield 39, 3) := by decide +kernel
theorem dX0_carryWord_23 : decode cX0_carryWord 23 = .ok (.iload_n 1, 1) := by decide +kernel
theorem dX0_carryWord_24 : decode cX0_carryWord 24 = .ok (.iaload, 1) := by decide +kernel
theorem dX0_carryWord_25 : decode cX0_carryWord 25 = .ok (.iconst (-1), 1) := by decide +kernel
theorem dX0_carryWord_26 : decode cX0_carryWord 26 = .ok (.if_icmp .eq 21, 3) := by decide +kernel
theorem dX0_carryWord_29 : decode cX0_carryWord 29 = .ok (.aload_n 0, 1) := by decide +kernel
theorem dX0_carryWord_30 : decode cX0_carryWord 30 = .ok (.getfield 39, 3) := by decide +kernel
theorem dX0_carryWord_33 : decode cX0_carryWord 33 = .ok (.iload_n 1, 1) := by decide +kernel
theorem dX0_carryWord_34 : decode cX0_carryWord 34 = .ok (.iaload, 1) := by decide +kernel
theorem dX0_carryWord_35 : decode cX0_carryWord 35 = .ok (.iload_n 2, 1) := by decide +kernel
theorem dX0_carryWord_36 : decode cX0_carryWord 36 = .ok (.if_icmp .eq 11, 3) := by decide +kernel
theorem dX0_carryWord_39 : decode cX0_carryWord 39 = .ok (.aload_n 0, 1) := by decide +kernel
theorem dX0_carryWord_40 : decode cX0_carryWord 40 = .ok (.iload_n 2, 1) := by decide +kernel
theorem dX0_carryWord_41 : decode cX0_carryWord 41 = .ok (.invokevirtual 83, 3) := by decide +kernel
theorem dX0_carryWord_44 : decode cX0_carryWord 44 = .ok (.ifCond .ne 6, 3) := by decide +kernel
theorem dX0_carryWord_47 : decode cX0_carryWord 47 = .ok (.ldc 103, 2) := by decide +kernel
theorem dX0_carryWord_49 : decode cX0_carryWord 49 = .ok (.ireturn, 1) := by decide +kernel
theorem dX0_carryWord_50 : decode cX0_carryWord 50 = .ok (.aload_n 0, 1) := by decide +kernel
theorem dX0_carryWord_51 : decode cX0_carryWord 51 = .ok (.iload_n 1, 1) := by decide +kernel
theorem dX0_carryWord_52 : decode cX0_carryWord 52 = .ok (.invokevirtual 138, 3) := by decide +kernel
theorem dX0_carryWord_55 : decode cX0_carryWord 55 = .ok (.aload_n 0, 1) := by decide +kernel
theorem dX0_carryWord_56 : decode cX0_carryWord 56 = .ok (.iload_n 1, 1) := by decide +kernel
theorem dX0_carryWord_57 : decode cX0_carryWord 57 = .ok (.iload_n 2, 1) := by decide +kernel
theorem dX0_carryWord_58 : decode cX0_carryWord 58 = .ok (.invokevirtual 131, 3) := by decide +kernel
theorem dX0_carryWord_61 : decode cX0_carryWord 61 = .ok (.aload_n 0, 1) := by decide +kernel
theorem dX0_carryWord_62 : decode cX0_carryWord 62 = .ok (.getfield 42, 3) := by decide +kernel
theorem dX0_carryWord_65 : decode cX0_carryWord 65 = .ok (.iload_n 1, 1) := by decide +kernel
theorem dX0_carryWord_66 : decode cX0_carryWord 66 = .ok (.iaload, 1) := by decide +kernel
theorem dX0_carryWord_67 : decode cX0_carryWord 67 = .ok (.ireturn, 1) := by decide +kernel
theorem dX0_emptyChip_0 : decode cX0_emptyChip 0 = .ok (.aload_n 0, 1) := by decide +kernel
theorem dX0_emptyChip_1 : decode cX0_emptyChip 1 = .ok (.iload_n 1, 1) := by decide +kernel
theorem dX0_emptyChip_2 : decode cX0_emptyChip 2 = .ok (.invokevirtual 97, 3) := by decide +kernel
theorem dX0_emptyChip_5 : decode cX0_emptyChip 5 = .ok (.ifCond .ne 6, 3) := by decide +kernel
theorem dX0_emptyChip_8 : decode cX0_emptyChip 8 = .ok (.ldc 95, 2) := by decide +kernel
theorem dX0_emptyChip_10 : decode cX0_emptyChip 10 = .ok (.ireturn, 1) := by decide +kernel
theorem dX0_emptyChip_11 : decode cX0_emptyChip 11 = .ok (.aload_n 0, 1) := by decide +kernel
theorem dX0_emptyChip_12 : decode cX0_emptyChip 12 = .ok (.iload_n 1, 1) := by decide +kernel
theorem dX0_emptyChip_13 : decode cX0_emptyChip 13 = .ok (.invokevirtual 79, 3) := by decide +kernel
theorem dX0_emptyChip_16 : decode cX0_emptyChip 16 = .ok (.ifCond .eq 11, 3) := by decide +kernel
theorem dX0_emptyChip_19 : decode cX0_emptyChip 19 = .ok (.aload_n 0, 1) := by decide +kernel
theorem dX0_emptyChip_20 : decode cX0_emptyChip 20 = .ok (.iload_n 1, 1) := by decide +kernel
theorem dX0_emptyChip_21 : decode cX0_emptyChip 21 = .ok (.invokevirtual 107, 3) := by decide +kernel
theorem dX0_emptyChip_24 : decode cX0_emptyChip 24 = .ok (.ifCond .eq 6, 3) := by decide +kernel
theorem dX0_emptyChip_27 : decode cX0_emptyChip 27 = .ok (.ldc 103, 2) := by decide +kernel
theorem dX0_emptyChip_29 : decode cX0_emptyChip 29 = .ok (.ireturn, 1) := by decide +kernel
theorem dX0_emptyChip_30 : decode cX0_emptyChip 30 = .ok (.iconst 0, 1) := by decide +kernel
theorem dX0_emptyChip_31 : decode cX0_emptyChip 31 = .ok (.istore_n 2, 1) := by decide +kernel
theorem dX0_emptyChip_32 : decode cX0_emptyChip 32 = .ok (.iconst 0, 1) := by decide +kernel
theorem dX0_emptyChip_33 : decode cX0_emptyChip 33 = .ok (.istore_n 3, 1) := by decide +kernel
theorem dX0_emptyChip_34 : decode cX0_emptyChip 34 = .ok (.iload_n 3, 1) := by decide +kernel
theorem dX0_emptyChip_35 : decode cX0_emptyChip 35 = .ok (.bipush 6, 2) := by decide +kernel
theorem dX0_emptyChip_37 : decode cX0_emptyChip 37 = .ok (.if_icmp .ge 67, 3) := by decide +kernel
theorem dX0_emptyChip_40 : decode cX0_emptyChip 40 = .ok (.aload_n 0, 1) := by decide +kernel
theorem dX0_emptyChip_41 : decode cX0_emptyChip 41 = .ok (.getfield 21, 3) := by decide +kernel
theorem dX0_emptyChip_44 : decode cX0_emptyChip 44 = .ok (.iload_n 1, 1) := by decide +kernel
theorem dX0_emptyChip_45 : decode cX0_emptyChip 45 = .ok (.bipush 6, 2) := by decide +kernel
theorem dX0_emptyChip_47 : decode cX0_emptyChip 47 = .ok (.imul, 1) := by decide +kernel
theorem dX0_emptyChip_48 : decode cX0_emptyChip 48 = .ok (.iload_n 3, 1) := by decide +kernel
theorem dX0_emptyChip_49 : decode cX0_emptyChip 49 = .ok (.iadd, 1) := by decide +kernel
theorem dX0_emptyChip_50 : decode cX0_emptyChip 50 = .ok (.iaload, 1) := by decide +kernel
theorem dX0_emptyChip_51 : decode cX0_emptyChip 51 = .ok (.istore 4, 2) := by decide +kernel
theorem dX0_emptyChip_53 : decode cX0_emptyChip 53 = .ok (.iload 4, 2) := by decide +kernel
theorem dX0_emptyChip_55 : decode cX0_emptyChip 55 = .ok (.iconst (-1), 1) := by decide +kernel
theorem dX0_emptyChip_56 : decode cX0_emptyChip 56 = .ok (.if_icmp .eq 42, 3) := by decide +kernel
theorem dX0_emptyChip_59 : decode cX0_emptyChip 59 = .ok (.aload_n 0, 1) := by decide +kernel
theorem dX0_emptyChip_60 : decode cX0_emptyChip 60 = .ok (.aload_n 0, 1) := by decide +kernel
theorem dX0_emptyChip_61 : decode cX0_emptyChip 61 = .ok (.getfield 9, 3) := by decide +kernel
theorem dX0_emptyChip_64 : decode cX0_emptyChip 64 = .ok (.iload_n 1, 1) := by decide +kernel
theorem dX0_emptyChip_65 : decode cX0_emptyChip 65 = .ok (.iaload, 1) := by decide +kernel
theorem dX0_emptyChip_66 : decode cX0_emptyChip 66 = .ok (.iload_n 1, 1) := by decide +kernel
theorem dX0_emptyChip_67 : decode cX0_emptyChip 67 = .ok (.invokevirtual 141, 3) := by decide +kernel
theorem dX0_emptyChip_70 : decode cX0_emptyChip 70 = .ok (.istore 5, 2) := by decide +kernel
theorem dX0_emptyChip_72 : decode cX0_emptyChip 72 = .ok (.iload 5, 2) := by decide +kernel
theorem dX0_emptyChip_74 : decode cX0_emptyChip 74 = .ok (.iconst (-1), 1) := by decide +kernel
theorem dX0_emptyChip_75 : decode cX0_emptyChip 75 = .ok (.if_icmp .ne 6, 3) := by decide +kernel
theorem dX0_emptyChip_78 : decode cX0_emptyChip 78 = .ok (.ldc 103, 2) := by decide +kernel
theorem dX0_emptyChip_80 : decode cX0_emptyChip 80 = .ok (.ireturn, 1) := by decide +kernel
theorem dX0_emptyChip_81 : decode cX0_emptyChip 81 = .ok (.aload_n 0, 1) := by decide +kernel
theorem dX0_emptyChip_82 : decode cX0_emptyChip 82 = .ok (.iload 4, 2) := by decide +kernel
theorem dX0_emptyChip_84 : decode cX0_emptyChip 84 = .ok (.invokevirtual 138, 3) := by decide +kernel
theorem dX0_emptyChip_87 : decode cX0_emptyChip 87 = .ok (.aload_n 0, 1) := by decide +kernel
theorem dX0_emptyChip_88 : decode cX0_emptyChip 88 = .ok (.iload 4, 2) := by decide +kernel
theorem dX0_emptyChip_90 : decode cX0_emptyChip 90 = .ok (.iload 5, 2) := by decide +kernel
theorem dX0_emptyChip_92 : decode cX0_emptyChip 92 = .ok (.invokevirtual 131, 3) := by decide +kernel
theorem dX0_emptyChip_95 : decode cX0_emptyChip 95 = .ok (.iinc 2 1, 3) := by decide +kernel
theorem dX0_emptyChip_98 : decode cX0_emptyChip 98 = .ok (.iinc 3 1, 3) := by decide +kernel
theorem dX0_emptyChip_101 : decode cX0_emptyChip 101 = .ok (.goto (-67), 3) := by decide +kernel
theorem dX0_emptyChip_104 : decode cX0_emptyChip 104 = .ok (.iload_n 2, 1) := by decide +kernel
theorem dX0_emptyChip_105 : decode cX0_emptyChip 105 = .ok (.ireturn, 1) := by decide +kernel
theorem dX0_goTicks_0 : decode cX0_goTicks 0 = .ok (.iload_n 1, 1) := by decide +kernel
theorem dX0_goTicks_1 : decode cX0_goTicks 1 = .ok (.iconst 1, 1) := by decide +kernel
theorem dX0_goTicks_2 : decode cX0_goTicks 2 = .ok (.if_icmp .lt 9, 3) := by decide +kernel
theorem dX0_goTicks_5 : decode cX0_goTicks 5 = .ok (.iload_n 1, 1) := by decide +kernel
theorem dX0_goTicks_6 : decode cX0_goTicks 6 = .ok (.bipush 100, 2) := by decide +kernel
theorem dX0_goTicks_8 : decode cX0_goTicks 8 = .ok (.if_icmp .le 6, 3) := by decide +kernel
theorem dX0_goTicks_11 : decode cX0_goTicks 11 = .ok (.ldc 95, 2) := by decide +kernel
theorem dX0_goTicks_13 : decode cX0_goTicks 13 = .ok (.ireturn, 1) := by decide +kernel
theorem dX0_goTicks_14 : decode cX0_goTicks 14 = .ok (.aload_n 0, 1) := by decide +kernel
theorem dX0_goTicks_15 : decode cX0_goTicks 15 = .ok (.getfield 67, 3) := by decide +kernel
theorem dX0_goTicks_18 : decode cX0_goTicks 18 = .ok (.iload_n 1, 1) := by decide +kernel
theorem dX0_goTicks_19 : decode cX0_goTicks 19 = .ok (.iadd, 1) := by decide +kernel
theorem dX0_goTicks_20 : decode cX0_goTicks 20 = .ok (.ldc 144, 2) := by decide +kernel
theorem dX0_goTicks_22 : decode cX0_goTicks 22 = .ok (.if_icmp .le 6, 3) := by decide +kernel
theorem dX0_goTicks_25 : decode cX0_goTicks 25 = .ok (.ldc 96, 2) := by decide +kernel
theorem dX0_goTicks_27 : decode cX0_goTicks 27 = .ok (.ireturn, 1) := by decide +kernel
theorem dX0_goTicks_28 : decode cX0_goTicks 28 = .ok (.aload_n 0, 1) := by decide +kernel
theorem dX0_goTicks_29 : decode cX0_goTicks 29 = .ok (.dup, 1) := by decide +kernel
theorem dX0_goTicks_30 : decode cX0_goTicks 30 = .ok (.getfield 67, 3) := by decide +kernel
theorem dX0_goTicks_33 : decode cX0_goTicks 33 = .ok (.iload_n 1, 1) := by decide +kernel
theorem dX0_goTicks_34 : decode cX0_goTicks 34 = .ok (.iadd, 1) := by decide +kernel
theorem dX0_goTicks_35 : decode cX0_goTicks 35 = .ok (.putfield 67, 3) := by decide +kernel
theorem dX0_goTicks_38 : decode cX0_goTicks 38 = .ok (.aload_n 0, 1) := by decide +kernel
theorem dX0_goTicks_39 : decode cX0_goTicks 39 = .ok (.getfield 70, 3) := by decide +kernel
theorem dX0_goTicks_42 : decode cX0_goTicks 42 = .ok (.istore_n 2, 1) := by decide +kernel
theorem dX0_goTicks_43 : decode cX0_goTicks 43 = .ok (.iconst 0, 1) := by decide +kernel
theorem dX0_goTicks_44 : decode cX0_goTicks 44 = .ok (.istore_n 3, 1) := by decide +kernel
theorem dX0_goTicks_45 : decode cX0_goTicks 45 = .ok (.iload_n 3, 1) := by decide +kernel
theorem dX0_goTicks_46 : decode cX0_goTicks 46 = .ok (.iload_n 1, 1) := by decide +kernel
theorem dX0_goTicks_47 : decode cX0_goTicks 47 = .ok (.if_icmp .ge 48, 3) := by decide +kernel
theorem dX0_goTicks_50 : decode cX0_goTicks 50 = .ok (.aload_n 0, 1) := by decide +kernel
theorem dX0_goTicks_51 : decode cX0_goTicks 51 = .ok (.getfield 70, 3) := by decide +kernel
theorem dX0_goTicks_54 : decode cX0_goTicks 54 = .ok (.istore 4, 2) := by decide +kernel
theorem dX0_goTicks_56 : decode cX0_goTicks 56 = .ok (.iconst 0, 1) := by decide +kernel
theorem dX0_goTicks_57 : decode cX0_goTicks 57 = .ok (.istore 5, 2) := by decide +kernel
theorem dX0_goTicks_59 : decode cX0_goTicks 59 = .ok (.iload 5, 2) := by decide +kernel
theorem dX0_goTicks_61 : decode cX0_goTicks 61 = .ok (.iconst 3, 1) := by decide +kernel
theorem dX0_goTicks_62 : decode cX0_goTicks 62 = .ok (.if_icmp .ge 15, 3) := by decide +kernel
theorem dX0_goTicks_65 : decode cX0_goTicks 65 = .ok (.aload_n 0, 1) := by decide +kernel
theorem dX0_goTicks_66 : decode cX0_goTicks 66 = .ok (.iload 5, 2) := by decide +kernel
theorem dX0_goTicks_68 : decode cX0_goTicks 68 = .ok (.invokevirtual 145, 3) := by decide +kernel
theorem dX0_goTicks_71 : decode cX0_goTicks 71 = .ok (.iinc 5 1, 3) := by decide +kernel
theorem dX0_goTicks_74 : decode cX0_goTicks 74 = .ok (.goto (-15), 3) := by decide +kernel
theorem dX0_goTicks_77 : decode cX0_goTicks 77 = .ok (.aload_n 0, 1) := by decide +kernel
theorem dX0_goTicks_78 : decode cX0_goTicks 78 = .ok (.getfield 70, 3) := by decide +kernel
theorem dX0_goTicks_81 : decode cX0_goTicks 81 = .ok (.iload 4, 2) := by decide +kernel
theorem dX0_goTicks_83 : decode cX0_goTicks 83 = .ok (.if_icmp .ne 6, 3) := by decide +kernel
theorem dX0_goTicks_86 : decode cX0_goTicks 86 = .ok (.goto 9, 3) := by decide +kernel
theorem dX0_goTicks_89 : decode cX0_goTicks 89 = .ok (.iinc 3 1, 3) := by decide +kernel
theorem dX0_goTicks_92 : decode cX0_goTicks 92 = .ok (.goto (-47), 3) := by decide +kernel
theorem dX0_goTicks_95 : decode cX0_goTicks 95 = .ok (.aload_n 0, 1) := by decide +kernel
theorem dX0_goTicks_96 : decode cX0_goTicks 96 = .ok (.getfield 70, 3) := by decide +kernel
theorem dX0_goTicks_99 : decode cX0_goTicks 99 = .ok (.iload_n 2, 1) := by decide +kernel
theorem dX0_goTicks_100 : decode cX0_goTicks 100 = .ok (.isub, 1) := by decide +kernel
theorem dX0_goTicks_101 : decode cX0_goTicks 101 = .ok (.ireturn, 1) := by decide +kernel
theorem dX0_raiseFirst_0 : decode cX0_raiseFirst 0 = .ok (.aload_n 0, 1) := by decide +kernel
theorem dX0_raiseFirst_1 : decode cX0_raiseFirst 1 = .ok (.getfield 33, 3) := by decide +kernel
theorem dX0_raiseFirst_4 : decode cX0_raiseFirst 4 = .ok (.iload_n 1, 1) := by decide +kernel
theorem dX0_raiseFirst_5 : decode cX0_raiseFirst 5 = .ok (.iaload, 1) := by decide +kernel
theorem dX0_raiseFirst_6 : decode cX0_raiseFirst 6 = .ok (.ifCond .ne 4, 3) := by decide +kernel
theorem dX0_raiseFirst_9 : decode cX0_raiseFirst 9 = .ok (.return_, 1) := by decide +kernel
theorem dX0_raiseFirst_10 : decode cX0_raiseFirst 10 = .ok (.aload_n 0, 1) := by decide +kernel
theorem dX0_raiseFirst_11 : decode cX0_raiseFirst 11 = .ok (.getfield 30, 3) := by decide +kernel
theorem dX0_raiseFirst_14 : decode cX0_raiseFirst 14 = .ok (.iload_n 1, 1) := by decide +kernel
theorem dX0_raiseFirst_15 : decode cX0_raiseFirst 15 = .ok (.bipush 6, 2) := by decide +kernel
theorem dX0_raiseFirst_17 : decode cX0_raiseFirst 17 = .ok (.imul, 1) := by decide +kernel
theorem dX0_raiseFirst_18 : decode cX0_raiseFirst 18 = .ok (.iaload, 1) := by decide +kernel
theorem dX0_raiseFirst_19 : decode cX0_raiseFirst 19 = .ok (.istore_n 2, 1) := by decide +kernel
theorem dX0_raiseFirst_20 : decode cX0_raiseFirst 20 = .ok (.iload_n 1, 1) := by decide +kernel
theorem dX0_raiseFirst_21 : decode cX0_raiseFirst 21 = .ok (.bipush 6, 2) := by decide +kernel
theorem dX0_raiseFirst_23 : decode cX0_raiseFirst 23 = .ok (.imul, 1) := by decide +kernel
theorem dX0_raiseFirst_24 : decode cX0_raiseFirst 24 = .ok (.aload_n 0, 1) := by decide +kernel
theorem dX0_raiseFirst_25 : decode cX0_raiseFirst 25 = .ok (.getfield 42, 3) := by decide +kernel
theorem dX0_raiseFirst_28 : decode cX0_raiseFirst 28 = .ok (.iload_n 2, 1) := by decide +kernel
theorem dX0_raiseFirst_29 : decode cX0_raiseFirst 29 = .ok (.iaload, 1) := by decide +kernel
theorem dX0_raiseFirst_30 : decode cX0_raiseFirst 30 = .ok (.iadd, 1) := by decide +kernel
theorem dX0_raiseFirst_31 : decode cX0_raiseFirst 31 = .ok (.istore_n 3, 1) := by decide +kernel
theorem dX0_raiseFirst_32 : decode cX0_raiseFirst 32 = .ok (.aload_n 0, 1) := by decide +kernel
theorem dX0_raiseFirst_33 : decode cX0_raiseFirst 33 = .ok (.getfield 27, 3) := by decide +kernel
theorem dX0_raiseFirst_36 : decode cX0_raiseFirst 36 = .ok (.iload_n 3, 1) := by decide +kernel
theorem dX0_raiseFirst_37 : decode cX0_raiseFirst 37 = .ok (.iconst (-1), 1) := by decide +kernel
theorem dX0_raiseFirst_38 : decode cX0_raiseFirst 38 = .ok (.iastore, 1) := by decide +kernel
theorem dX0_raiseFirst_39 : decode cX0_raiseFirst 39 = .ok (.aload_n 0, 1) := by decide +kernel
theorem dX0_raiseFirst_40 : decode cX0_raiseFirst 40 = .ok (.iload_n 1, 1) := by decide +kernel
theorem dX0_raiseFirst_41 : decode cX0_raiseFirst 41 = .ok (.iconst (-1), 1) := by decide +kernel
theorem dX0_raiseFirst_42 : decode cX0_raiseFirst 42 = .ok (.invokevirtual 141, 3) := by decide +kernel
theorem dX0_raiseFirst_45 : decode cX0_raiseFirst 45 = .ok (.istore 4, 2) := by decide +kernel
theorem dX0_raiseFirst_47 : decode cX0_raiseFirst 47 = .ok (.iload 4, 2) := by decide +kernel
theorem dX0_raiseFirst_49 : decode cX0_raiseFirst 49 = .ok (.iconst (-1), 1) := by decide +kernel
theorem dX0_raiseFirst_50 : decode cX0_raiseFirst 50 = .ok (.if_icmp .ne 11, 3) := by decide +kernel
theorem dX0_raiseFirst_53 : decode cX0_raiseFirst 53 = .ok (.aload_n 0, 1) := by decide +kernel
theorem dX0_raiseFirst_54 : decode cX0_raiseFirst 54 = .ok (.getfield 27, 3) := by decide +kernel
theorem dX0_raiseFirst_57 : decode cX0_raiseFirst 57 = .ok (.iload_n 3, 1) := by decide +kernel
theorem dX0_raiseFirst_58 : decode cX0_raiseFirst 58 = .ok (.iload_n 2, 1) := by decide +kernel
theorem dX0_raiseFirst_59 : decode cX0_raiseFirst 59 = .ok (.iastore, 1) := by decide +kernel
theorem dX0_raiseFirst_60 : decode cX0_raiseFirst 60 = .ok (.return_, 1) := by decide +kernel
theorem dX0_raiseFirst_61 : decode cX0_raiseFirst 61 = .ok (.aload_n 0, 1) := by decide +kernel
theorem dX0_raiseFirst_62 : decode cX0_raiseFirst 62 = .ok (.iload_n 2, 1) := by decide +kernel
theorem dX0_raiseFirst_63 : decode cX0_raiseFirst 63 = .ok (.invokevirtual 148, 3) := by decide +kernel
theorem dX0_raiseFirst_66 : decode cX0_raiseFirst 66 = .ok (.aload_n 0, 1) := by decide +kernel
theorem dX0_raiseFirst_67 : decode cX0_raiseFirst 67 = .ok (.iload_n 2, 1) := by decide +kernel
theorem dX0_raiseFirst_68 : decode cX0_raiseFirst 68 = .ok (.iload 4, 2) := by decide +kernel
theorem dX0_raiseFirst_70 : decode cX0_raiseFirst 70 = .ok (.invokevirtual 131, 3) := by decide +kernel
theorem dX0_raiseFirst_73 : decode cX0_raiseFirst 73 = .ok (.aload_n 0, 1) := by decide +kernel
theorem dX0_raiseFirst_74 : decode cX0_raiseFirst 74 = .ok (.getfield 48, 3) := by decide +kernel
theorem dX0_raiseFirst_77 : decode cX0_raiseFirst 77 = .ok (.iload_n 2, 1) := by decide +kernel
theorem dX0_raiseFirst_78 : decode cX0_raiseFirst 78 = .ok (.dup2, 1) := by decide +kernel
theorem dX0_raiseFirst_79 : decode cX0_raiseFirst 79 = .ok (.iaload, 1) := by decide +kernel
theorem dX0_raiseFirst_80 : decode cX0_raiseFirst 80 = .ok (.iconst 1, 1) := by decide +kernel
theorem dX0_raiseFirst_81 : decode cX0_raiseFirst 81 = .ok (.iadd, 1) := by decide +kernel
theorem dX0_raiseFirst_82 : decode cX0_raiseFirst 82 = .ok (.iastore, 1) := by decide +kernel
theorem dX0_raiseFirst_83 : decode cX0_raiseFirst 83 = .ok (.aload_n 0, 1) := by decide +kernel
theorem dX0_raiseFirst_84 : decode cX0_raiseFirst 84 = .ok (.dup, 1) := by decide +kernel
theorem dX0_raiseFirst_85 : decode cX0_raiseFirst 85 = .ok (.getfield 70, 3) := by decide +kernel
theorem dX0_raiseFirst_88 : decode cX0_raiseFirst 88 = .ok (.iconst 1, 1) := by decide +kernel
theorem dX0_raiseFirst_89 : decode cX0_raiseFirst 89 = .ok (.iadd, 1) := by decide +kernel
theorem dX0_raiseFirst_90 : decode cX0_raiseFirst 90 = .ok (.putfield 70, 3) := by decide +kernel
theorem dX0_raiseFirst_93 : decode cX0_raiseFirst 93 = .ok (.return_, 1) := by decide +kernel
theorem dX0_keepAtLowest_0 : decode cX0_keepAtLowest 0 = .ok (.aload_n 0, 1) := by decide +kernel
theorem dX0_keepAtLowest_1 : decode cX0_keepAtLowest 1 = .ok (.iload_n 2, 1) := by decide +kernel
theorem dX0_keepAtLowest_2 : decode cX0_keepAtLowest 2 = .ok (.invokevirtual 83, 3) := by decide +kernel
theorem dX0_keepAtLowest_5 : decode cX0_keepAtLowest 5 = .ok (.istore_n 3, 1) := by decide +kernel
theorem dX0_keepAtLowest_6 : decode cX0_keepAtLowest 6 = .ok (.iconst 0, 1) := by decide +kernel
theorem dX0_keepAtLowest_7 : decode cX0_keepAtLowest 7 = .ok (.istore 4, 2) := by decide +kernel
theorem dX0_keepAtLowest_9 : decode cX0_keepAtLowest 9 = .ok (.iload 4, 2) := by decide +kernel
theorem dX0_keepAtLowest_11 : decode cX0_keepAtLowest 11 = .ok (.bipush 6, 2) := by decide +kernel
theorem dX0_keepAtLowest_13 : decode cX0_keepAtLowest 13 = .ok (.if_icmp .ge 60, 3) := by decide +kernel
theorem dX0_keepAtLowest_16 : decode cX0_keepAtLowest 16 = .ok (.iload_n 3, 1) := by decide +kernel
theorem dX0_keepAtLowest_17 : decode cX0_keepAtLowest 17 = .ok (.iload 4, 2) := by decide +kernel
theorem dX0_keepAtLowest_19 : decode cX0_keepAtLowest 19 = .ok (.ishr, 1) := by decide +kernel
theorem dX0_keepAtLowest_20 : decode cX0_keepAtLowest 20 = .ok (.iconst 1, 1) := by decide +kernel
theorem dX0_keepAtLowest_21 : decode cX0_keepAtLowest 21 = .ok (.iand, 1) := by decide +kernel
theorem dX0_keepAtLowest_22 : decode cX0_keepAtLowest 22 = .ok (.iconst 1, 1) := by decide +kernel
theorem dX0_keepAtLowest_23 : decode cX0_keepAtLowest 23 = .ok (.if_icmp .ne 44, 3) := by decide +kernel
theorem dX0_keepAtLowest_26 : decode cX0_keepAtLowest 26 = .ok (.aload_n 0, 1) := by decide +kernel
theorem dX0_keepAtLowest_27 : decode cX0_keepAtLowest 27 = .ok (.getfield 21, 3) := by decide +kernel
theorem dX0_keepAtLowest_30 : decode cX0_keepAtLowest 30 = .ok (.iload_n 2, 1) := by decide +kernel
theorem dX0_keepAtLowest_31 : decode cX0_keepAtLowest 31 = .ok (.bipush 6, 2) := by decide +kernel
theorem dX0_keepAtLowest_33 : decode cX0_keepAtLowest 33 = .ok (.imul, 1) := by decide +kernel
theorem dX0_keepAtLowest_34 : decode cX0_keepAtLowest 34 = .ok (.iload 4, 2) := by decide +kernel
theorem dX0_keepAtLowest_36 : decode cX0_keepAtLowest 36 = .ok (.iadd, 1) := by decide +kernel
theorem dX0_keepAtLowest_37 : decode cX0_keepAtLowest 37 = .ok (.iload_n 1, 1) := by decide +kernel
theorem dX0_keepAtLowest_38 : decode cX0_keepAtLowest 38 = .ok (.iastore, 1) := by decide +kernel
theorem dX0_keepAtLowest_39 : decode cX0_keepAtLowest 39 = .ok (.aload_n 0, 1) := by decide +kernel
theorem dX0_keepAtLowest_40 : decode cX0_keepAtLowest 40 = .ok (.getfield 39, 3) := by decide +kernel
theorem dX0_keepAtLowest_43 : decode cX0_keepAtLowest 43 = .ok (.iload_n 1, 1) := by decide +kernel
theorem dX0_keepAtLowest_44 : decode cX0_keepAtLowest 44 = .ok (.iload_n 2, 1) := by decide +kernel
theorem dX0_keepAtLowest_45 : decode cX0_keepAtLowest 45 = .ok (.iastore, 1) := by decide +kernel
theorem dX0_keepAtLowest_46 : decode cX0_keepAtLowest 46 = .ok (.aload_n 0, 1) := by decide +kernel
theorem dX0_keepAtLowest_47 : decode cX0_keepAtLowest 47 = .ok (.getfield 42, 3) := by decide +kernel
theorem dX0_keepAtLowest_50 : decode cX0_keepAtLowest 50 = .ok (.iload_n 1, 1) := by decide +kernel
theorem dX0_keepAtLowest_51 : decode cX0_keepAtLowest 51 = .ok (.iload 4, 2) := by decide +kernel
theorem dX0_keepAtLowest_53 : decode cX0_keepAtLowest 53 = .ok (.iastore, 1) := by decide +kernel
theorem dX0_keepAtLowest_54 : decode cX0_keepAtLowest 54 = .ok (.aload_n 0, 1) := by decide +kernel
theorem dX0_keepAtLowest_55 : decode cX0_keepAtLowest 55 = .ok (.getfield 45, 3) := by decide +kernel
theorem dX0_keepAtLowest_58 : decode cX0_keepAtLowest 58 = .ok (.iload_n 1, 1) := by decide +kernel
theorem dX0_keepAtLowest_59 : decode cX0_keepAtLowest 59 = .ok (.aload_n 0, 1) := by decide +kernel
theorem dX0_keepAtLowest_60 : decode cX0_keepAtLowest 60 = .ok (.getfield 9, 3) := by decide +kernel
theorem dX0_keepAtLowest_63 : decode cX0_keepAtLowest 63 = .ok (.iload_n 2, 1) := by decide +kernel
theorem dX0_keepAtLowest_64 : decode cX0_keepAtLowest 64 = .ok (.iaload, 1) := by decide +kernel
theorem dX0_keepAtLowest_65 : decode cX0_keepAtLowest 65 = .ok (.iastore, 1) := by decide +kernel
theorem dX0_keepAtLowest_66 : decode cX0_keepAtLowest 66 = .ok (.return_, 1) := by decide +kernel
theorem dX0_keepAtLowest_67 : decode cX0_keepAtLowest 67 = .ok (.iinc 4 1, 3) := by decide +kernel
theorem dX0_keepAtLowest_70 : decode cX0_keepAtLowest 70 = .ok (.goto (-61), 3) := by decide +kernel
theorem dX0_keepAtLowest_73 : decode cX0_keepAtLowest 73 = .ok (.return_, 1) := by decide +kernel
theorem dX0_takeFromChip_0 : decode cX0_takeFromChip 0 = .ok (.aload_n 0, 1) := by decide +kernel
theorem dX0_takeFromChip_1 : decode cX0_takeFromChip 1 = .ok (.getfield 21, 3) := by decide +kernel
theorem dX0_takeFromChip_4 : decode cX0_takeFromChip 4 = .ok (.aload_n 0, 1) := by decide +kernel
theorem dX0_takeFromChip_5 : decode cX0_takeFromChip 5 = .ok (.getfield 39, 3) := by decide +kernel
theorem dX0_takeFromChip_8 : decode cX0_takeFromChip 8 = .ok (.iload_n 1, 1) := by decide +kernel
theorem dX0_takeFromChip_9 : decode cX0_takeFromChip 9 = .ok (.iaload, 1) := by decide +kernel
theorem dX0_takeFromChip_10 : decode cX0_takeFromChip 10 = .ok (.bipush 6, 2) := by decide +kernel
theorem dX0_takeFromChip_12 : decode cX0_takeFromChip 12 = .ok (.imul, 1) := by decide +kernel
theorem dX0_takeFromChip_13 : decode cX0_takeFromChip 13 = .ok (.aload_n 0, 1) := by decide +kernel
theorem dX0_takeFromChip_14 : decode cX0_takeFromChip 14 = .ok (.getfield 42, 3) := by decide +kernel
theorem dX0_takeFromChip_17 : decode cX0_takeFromChip 17 = .ok (.iload_n 1, 1) := by decide +kernel
theorem dX0_takeFromChip_18 : decode cX0_takeFromChip 18 = .ok (.iaload, 1) := by decide +kernel
theorem dX0_takeFromChip_19 : decode cX0_takeFromChip 19 = .ok (.iadd, 1) := by decide +kernel
theorem dX0_takeFromChip_20 : decode cX0_takeFromChip 20 = .ok (.iconst (-1), 1) := by decide +kernel
theorem dX0_takeFromChip_21 : decode cX0_takeFromChip 21 = .ok (.iastore, 1) := by decide +kernel
theorem dX0_takeFromChip_22 : decode cX0_takeFromChip 22 = .ok (.aload_n 0, 1) := by decide +kernel
theorem dX0_takeFromChip_23 : decode cX0_takeFromChip 23 = .ok (.getfield 39, 3) := by decide +kernel
theorem dX0_takeFromChip_26 : decode cX0_takeFromChip 26 = .ok (.iload_n 1, 1) := by decide +kernel
theorem dX0_takeFromChip_27 : decode cX0_takeFromChip 27 = .ok (.iconst (-1), 1) := by decide +kernel
theorem dX0_takeFromChip_28 : decode cX0_takeFromChip 28 = .ok (.iastore, 1) := by decide +kernel
theorem dX0_takeFromChip_29 : decode cX0_takeFromChip 29 = .ok (.return_, 1) := by decide +kernel
theorem dX0_letWait_0 : decode cX0_letWait 0 = .ok (.iload_n 1, 1) := by decide +kernel
theorem dX0_letWait_1 : decode cX0_letWait 1 = .ok (.iconst (-1), 1) := by decide +kernel
theorem dX0_letWait_2 : decode cX0_letWait 2 = .ok (.if_icmp .eq 13, 3) := by decide +kernel
theorem dX0_letWait_5 : decode cX0_letWait 5 = .ok (.aload_n 0, 1) := by decide +kernel
theorem dX0_letWait_6 : decode cX0_letWait 6 = .ok (.getfield 39, 3) := by decide +kernel
theorem dX0_letWait_9 : decode cX0_letWait 9 = .ok (.iload_n 1, 1) := by decide +kernel
theorem dX0_letWait_10 : decode cX0_letWait 10 = .ok (.iaload, 1) := by decide +kernel
theorem dX0_letWait_11 : decode cX0_letWait 11 = .ok (.iconst (-1), 1) := by decide +kernel
theorem dX0_letWait_12 : decode cX0_letWait 12 = .ok (.if_icmp .ne 4, 3) := by decide +kernel
theorem dX0_letWait_15 : decode cX0_letWait 15 = .ok (.return_, 1) := by decide +kernel
theorem dX0_letWait_16 : decode cX0_letWait 16 = .ok (.aload_n 0, 1) := by decide +kernel
theorem dX0_letWait_17 : decode cX0_letWait 17 = .ok (.iload_n 1, 1) := by decide +kernel
theorem dX0_letWait_18 : decode cX0_letWait 18 = .ok (.invokevirtual 138, 3) := by decide +kernel
theorem dX0_letWait_21 : decode cX0_letWait 21 = .ok (.aload_n 0, 1) := by decide +kernel
theorem dX0_letWait_22 : decode cX0_letWait 22 = .ok (.getfield 45, 3) := by decide +kernel
theorem dX0_letWait_25 : decode cX0_letWait 25 = .ok (.iload_n 1, 1) := by decide +kernel
theorem dX0_letWait_26 : decode cX0_letWait 26 = .ok (.iaload, 1) := by decide +kernel
theorem dX0_letWait_27 : decode cX0_letWait 27 = .ok (.istore_n 2, 1) := by decide +kernel
theorem dX0_letWait_28 : decode cX0_letWait 28 = .ok (.aload_n 0, 1) := by decide +kernel
theorem dX0_letWait_29 : decode cX0_letWait 29 = .ok (.getfield 27, 3) := by decide +kernel
theorem dX0_letWait_32 : decode cX0_letWait 32 = .ok (.iload_n 2, 1) := by decide +kernel
theorem dX0_letWait_33 : decode cX0_letWait 33 = .ok (.bipush 6, 2) := by decide +kernel
theorem dX0_letWait_35 : decode cX0_letWait 35 = .ok (.imul, 1) := by decide +kernel
theorem dX0_letWait_36 : decode cX0_letWait 36 = .ok (.aload_n 0, 1) := by decide +kernel
theorem dX0_letWait_37 : decode cX0_letWait 37 = .ok (.getfield 42, 3) := by decide +kernel
theorem dX0_letWait_40 : decode cX0_letWait 40 = .ok (.iload_n 1, 1) := by decide +kernel
theorem dX0_letWait_41 : decode cX0_letWait 41 = .ok (.iaload, 1) := by decide +kernel
theorem dX0_letWait_42 : decode cX0_letWait 42 = .ok (.iadd, 1) := by decide +kernel
theorem dX0_letWait_43 : decode cX0_letWait 43 = .ok (.iload_n 1, 1) := by decide +kernel
theorem dX0_letWait_44 : decode cX0_letWait 44 = .ok (.iastore, 1) := by decide +kernel
theorem dX0_letWait_45 : decode cX0_letWait 45 = .ok (.aload_n 0, 1) := by decide +kernel
theorem dX0_letWait_46 : decode cX0_letWait 46 = .ok (.getfield 30, 3) := by decide +kernel
theorem dX0_letWait_49 : decode cX0_letWait 49 = .ok (.iload_n 2, 1) := by decide +kernel
theorem dX0_letWait_50 : decode cX0_letWait 50 = .ok (.bipush 6, 2) := by decide +kernel
theorem dX0_letWait_52 : decode cX0_letWait 52 = .ok (.imul, 1) := by decide +kernel
theorem dX0_letWait_53 : decode cX0_letWait 53 = .ok (.aload_n 0, 1) := by decide +kernel
theorem dX0_letWait_54 : decode cX0_letWait 54 = .ok (.getfield 33, 3) := by decide +kernel
theorem dX0_letWait_57 : decode cX0_letWait 57 = .ok (.iload_n 2, 1) := by decide +kernel
theorem dX0_letWait_58 : decode cX0_letWait 58 = .ok (.iaload, 1) := by decide +kernel
theorem dX0_letWait_59 : decode cX0_letWait 59 = .ok (.iadd, 1) := by decide +kernel
theorem dX0_letWait_60 : decode cX0_letWait 60 = .ok (.iload_n 1, 1) := by decide +kernel
theorem dX0_letWait_61 : decode cX0_letWait 61 = .ok (.iastore, 1) := by decide +kernel
theorem dX0_letWait_62 : decode cX0_letWait 62 = .ok (.aload_n 0, 1) := by decide +kernel
theorem dX0_letWait_63 : decode cX0_letWait 63 = .ok (.getfield 33, 3) := by decide +kernel
theorem dX0_letWait_66 : decode cX0_letWait 66 = .ok (.iload_n 2, 1) := by decide +kernel
theorem dX0_letWait_67 : decode cX0_letWait 67 = .ok (.dup2, 1) := by decide +kernel
theorem dX0_letWait_68 : decode cX0_letWait 68 = .ok (.iaload, 1) := by decide +kernel
theorem dX0_letWait_69 : decode cX0_letWait 69 = .ok (.iconst 1, 1) := by decide +kernel
theorem dX0_letWait_70 : decode cX0_letWait 70 = .ok (.iadd, 1) := by decide +kernel
theorem dX0_letWait_71 : decode cX0_letWait 71 = .ok (.iastore, 1) := by decide +kernel
theorem dX0_letWait_72 : decode cX0_letWait 72 = .ok (.return_, 1) := by decide +kernel
theorem dX0_loseUnlessSummed_0 : decode cX0_loseUnlessSummed 0 = .ok (.iload_n 1, 1) := by decide +kernel
theorem dX0_loseUnlessSummed_1 : decode cX0_loseUnlessSummed 1 = .ok (.iconst (-1), 1) := by decide +kernel
theorem dX0_loseUnlessSummed_2 : decode cX0_loseUnlessSummed 2 = .ok (.if_icmp .ne 5, 3) := by decide +kernel
theorem dX0_loseUnlessSummed_5 : decode cX0_loseUnlessSummed 5 = .ok (.iconst 0, 1) := by decide +kernel
theorem dX0_loseUnlessSummed_6 : decode cX0_loseUnlessSummed 6 = .ok (.ireturn, 1) := by decide +kernel
theorem dX0_loseUnlessSummed_7 : decode cX0_loseUnlessSummed 7 = .ok (.aload_n 0, 1) := by decide +kernel
theorem dX0_loseUnlessSummed_8 : decode cX0_loseUnlessSummed 8 = .ok (.getfield 45, 3) := by decide +kernel
theorem dX0_loseUnlessSummed_11 : decode cX0_loseUnlessSummed 11 = .ok (.iload_n 1, 1) := by decide +kernel
theorem dX0_loseUnlessSummed_12 : decode cX0_loseUnlessSummed 12 = .ok (.iaload, 1) := by decide +kernel
theorem dX0_loseUnlessSummed_13 : decode cX0_loseUnlessSummed 13 = .ok (.istore_n 2, 1) := by decide +kernel
theorem dX0_loseUnlessSummed_14 : decode cX0_loseUnlessSummed 14 = .ok (.aload_n 0, 1) := by decide +kernel
theorem dX0_loseUnlessSummed_15 : decode cX0_loseUnlessSummed 15 = .ok (.getfield 42, 3) := by decide +kernel
theorem dX0_loseUnlessSummed_18 : decode cX0_loseUnlessSummed 18 = .ok (.iload_n 1, 1) := by decide +kernel
theorem dX0_loseUnlessSummed_19 : decode cX0_loseUnlessSummed 19 = .ok (.iaload, 1) := by decide +kernel
theorem dX0_loseUnlessSummed_20 : decode cX0_loseUnlessSummed 20 = .ok (.istore_n 3, 1) := by decide +kernel
theorem dX0_loseUnlessSummed_21 : decode cX0_loseUnlessSummed 21 = .ok (.aload_n 0, 1) := by decide +kernel
theorem dX0_loseUnlessSummed_22 : decode cX0_loseUnlessSummed 22 = .ok (.iload_n 2, 1) := by decide +kernel
theorem dX0_loseUnlessSummed_23 : decode cX0_loseUnlessSummed 23 = .ok (.invokevirtual 104, 3) := by decide +kernel
theorem dX0_loseUnlessSummed_26 : decode cX0_loseUnlessSummed 26 = .ok (.iload_n 3, 1) := by decide +kernel
theorem dX0_loseUnlessSummed_27 : decode cX0_loseUnlessSummed 27 = .ok (.ishr, 1) := by decide +kernel
theorem dX0_loseUnlessSummed_28 : decode cX0_loseUnlessSummed 28 = .ok (.iconst 1, 1) := by decide +kernel
theorem dX0_loseUnlessSummed_29 : decode cX0_loseUnlessSummed 29 = .ok (.iand, 1) := by decide +kernel
theorem dX0_loseUnlessSummed_30 : decode cX0_loseUnlessSummed 30 = .ok (.iconst 1, 1) := by decide +kernel
theorem dX0_loseUnlessSummed_31 : decode cX0_loseUnlessSummed 31 = .ok (.if_icmp .ne 7, 3) := by decide +kernel
theorem dX0_loseUnlessSummed_34 : decode cX0_loseUnlessSummed 34 = .ok (.iconst 1, 1) := by decide +kernel
theorem dX0_loseUnlessSummed_35 : decode cX0_loseUnlessSummed 35 = .ok (.goto 4, 3) := by decide +kernel
theorem dX0_loseUnlessSummed_38 : decode cX0_loseUnlessSummed 38 = .ok (.iconst 0, 1) := by decide +kernel
theorem dX0_loseUnlessSummed_39 : decode cX0_loseUnlessSummed 39 = .ok (.istore 4, 2) := by decide +kernel
theorem dX0_loseUnlessSummed_41 : decode cX0_loseUnlessSummed 41 = .ok (.iload 4, 2) := by decide +kernel
theorem dX0_loseUnlessSummed_43 : decode cX0_loseUnlessSummed 43 = .ok (.ifCond .eq 20, 3) := by decide +kernel
theorem dX0_loseUnlessSummed_46 : decode cX0_loseUnlessSummed 46 = .ok (.aload_n 0, 1) := by decide +kernel
theorem dX0_loseUnlessSummed_47 : decode cX0_loseUnlessSummed 47 = .ok (.getfield 27, 3) := by decide +kernel
theorem dX0_loseUnlessSummed_50 : decode cX0_loseUnlessSummed 50 = .ok (.iload_n 2, 1) := by decide +kernel
theorem dX0_loseUnlessSummed_51 : decode cX0_loseUnlessSummed 51 = .ok (.bipush 6, 2) := by decide +kernel
theorem dX0_loseUnlessSummed_53 : decode cX0_loseUnlessSummed 53 = .ok (.imul, 1) := by decide +kernel
theorem dX0_loseUnlessSummed_54 : decode cX0_loseUnlessSummed 54 = .ok (.iload_n 3, 1) := by decide +kernel
theorem dX0_loseUnlessSummed_55 : decode cX0_loseUnlessSummed 55 = .ok (.iadd, 1) := by decide +kernel
theorem dX0_loseUnlessSummed_56 : decode cX0_loseUnlessSummed 56 = .ok (.iaload, 1) := by decide +kernel
theorem dX0_loseUnlessSummed_57 : decode cX0_loseUnlessSummed 57 = .ok (.iconst (-1), 1) := by decide +kernel
theorem dX0_loseUnlessSummed_58 : decode cX0_loseUnlessSummed 58 = .ok (.if_icmp .ne 5, 3) := by decide +kernel
theorem dX0_loseUnlessSummed_61 : decode cX0_loseUnlessSummed 61 = .ok (.iconst 0, 1) := by decide +kernel
theorem dX0_loseUnlessSummed_62 : decode cX0_loseUnlessSummed 62 = .ok (.ireturn, 1) := by decide +kernel
theorem dX0_loseUnlessSummed_63 : decode cX0_loseUnlessSummed 63 = .ok (.aload_n 0, 1) := by decide +kernel
theorem dX0_loseUnlessSummed_64 : decode cX0_loseUnlessSummed 64 = .ok (.iload_n 1, 1) := by decide +kernel
theorem dX0_loseUnlessSummed_65 : decode cX0_loseUnlessSummed 65 = .ok (.invokevirtual 138, 3) := by decide +kernel
theorem dX0_loseUnlessSummed_68 : decode cX0_loseUnlessSummed 68 = .ok (.aload_n 0, 1) := by decide +kernel
theorem dX0_loseUnlessSummed_69 : decode cX0_loseUnlessSummed 69 = .ok (.getfield 42, 3) := by decide +kernel
theorem dX0_loseUnlessSummed_72 : decode cX0_loseUnlessSummed 72 = .ok (.iload_n 1, 1) := by decide +kernel
theorem dX0_loseUnlessSummed_73 : decode cX0_loseUnlessSummed 73 = .ok (.iconst (-1), 1) := by decide +kernel
theorem dX0_loseUnlessSummed_74 : decode cX0_loseUnlessSummed 74 = .ok (.iastore, 1) := by decide +kernel
theorem dX0_loseUnlessSummed_75 : decode cX0_loseUnlessSummed 75 = .ok (.iconst 1, 1) := by decide +kernel
theorem dX0_loseUnlessSummed_76 : decode cX0_loseUnlessSummed 76 = .ok (.aload_n 0, 1) := by decide +kernel
theorem dX0_loseUnlessSummed_77 : decode cX0_loseUnlessSummed 77 = .ok (.iload_n 2, 1) := by decide +kernel
theorem dX0_loseUnlessSummed_78 : decode cX0_loseUnlessSummed 78 = .ok (.iload_n 3, 1) := by decide +kernel
theorem dX0_loseUnlessSummed_79 : decode cX0_loseUnlessSummed 79 = .ok (.invokevirtual 110, 3) := by decide +kernel
theorem dX0_loseUnlessSummed_82 : decode cX0_loseUnlessSummed 82 = .ok (.iadd, 1) := by decide +kernel
theorem dX0_loseUnlessSummed_83 : decode cX0_loseUnlessSummed 83 = .ok (.ireturn, 1) := by decide +kernel
theorem dX0_loseWaiting_0 : decode cX0_loseWaiting 0 = .ok (.aload_n 0, 1) := by decide +kernel
theorem dX0_loseWaiting_1 : decode cX0_loseWaiting 1 = .ok (.getfield 27, 3) := by decide +kernel
theorem dX0_loseWaiting_4 : decode cX0_loseWaiting 4 = .ok (.iload_n 1, 1) := by decide +kernel
theorem dX0_loseWaiting_5 : decode cX0_loseWaiting 5 = .ok (.bipush 6, 2) := by decide +kernel
theorem dX0_loseWaiting_7 : decode cX0_loseWaiting 7 = .ok (.imul, 1) := by decide +kernel
theorem dX0_loseWaiting_8 : decode cX0_loseWaiting 8 = .ok (.iload_n 2, 1) := by decide +kernel
theorem dX0_loseWaiting_9 : decode cX0_loseWaiting 9 = .ok (.iadd, 1) := by decide +kernel
theorem dX0_loseWaiting_10 : decode cX0_loseWaiting 10 = .ok (.iaload, 1) := by decide +kernel
theorem dX0_loseWaiting_11 : decode cX0_loseWaiting 11 = .ok (.istore_n 3, 1) := by decide +kernel
theorem dX0_loseWaiting_12 : decode cX0_loseWaiting 12 = .ok (.iload_n 3, 1) := by decide +kernel
theorem dX0_loseWaiting_13 : decode cX0_loseWaiting 13 = .ok (.iconst (-1), 1) := by decide +kernel
theorem dX0_loseWaiting_14 : decode cX0_loseWaiting 14 = .ok (.if_icmp .ne 5, 3) := by decide +kernel
theorem dX0_loseWaiting_17 : decode cX0_loseWaiting 17 = .ok (.iconst 0, 1) := by decide +kernel
theorem dX0_loseWaiting_18 : decode cX0_loseWaiting 18 = .ok (.ireturn, 1) := by decide +kernel
theorem dX0_loseWaiting_19 : decode cX0_loseWaiting 19 = .ok (.aload_n 0, 1) := by decide +kernel
theorem dX0_loseWaiting_20 : decode cX0_loseWaiting 20 = .ok (.getfield 27, 3) := by decide +kernel
theorem dX0_loseWaiting_23 : decode cX0_loseWaiting 23 = .ok (.iload_n 1, 1) := by decide +kernel
theorem dX0_loseWaiting_24 : decode cX0_loseWaiting 24 = .ok (.bipush 6, 2) := by decide +kernel
theorem dX0_loseWaiting_26 : decode cX0_loseWaiting 26 = .ok (.imul, 1) := by decide +kernel
theorem dX0_loseWaiting_27 : decode cX0_loseWaiting 27 = .ok (.iload_n 2, 1) := by decide +kernel
theorem dX0_loseWaiting_28 : decode cX0_loseWaiting 28 = .ok (.iadd, 1) := by decide +kernel
theorem dX0_loseWaiting_29 : decode cX0_loseWaiting 29 = .ok (.iconst (-1), 1) := by decide +kernel
theorem dX0_loseWaiting_30 : decode cX0_loseWaiting 30 = .ok (.iastore, 1) := by decide +kernel
theorem dX0_loseWaiting_31 : decode cX0_loseWaiting 31 = .ok (.aload_n 0, 1) := by decide +kernel
theorem dX0_loseWaiting_32 : decode cX0_loseWaiting 32 = .ok (.iload_n 3, 1) := by decide +kernel
theorem dX0_loseWaiting_33 : decode cX0_loseWaiting 33 = .ok (.invokevirtual 148, 3) := by decide +kernel
theorem dX0_loseWaiting_36 : decode cX0_loseWaiting 36 = .ok (.aload_n 0, 1) := by decide +kernel
theorem dX0_loseWaiting_37 : decode cX0_loseWaiting 37 = .ok (.getfield 42, 3) := by decide +kernel
theorem dX0_loseWaiting_40 : decode cX0_loseWaiting 40 = .ok (.iload_n 3, 1) := by decide +kernel
theorem dX0_loseWaiting_41 : decode cX0_loseWaiting 41 = .ok (.iconst (-1), 1) := by decide +kernel
theorem dX0_loseWaiting_42 : decode cX0_loseWaiting 42 = .ok (.iastore, 1) := by decide +kernel
theorem dX0_loseWaiting_43 : decode cX0_loseWaiting 43 = .ok (.iconst 1, 1) := by decide +kernel
theorem dX0_loseWaiting_44 : decode cX0_loseWaiting 44 = .ok (.ireturn, 1) := by decide +kernel
theorem dX0_leaveQueue_0 : decode cX0_leaveQueue 0 = .ok (.aload_n 0, 1) := by decide +kernel
theorem dX0_leaveQueue_1 : decode cX0_leaveQueue 1 = .ok (.getfield 45, 3) := by decide +kernel
theorem dX0_leaveQueue_4 : decode cX0_leaveQueue 4 = .ok (.iload_n 1, 1) := by decide +kernel
theorem dX0_leaveQueue_5 : decode cX0_leaveQueue 5 = .ok (.iaload, 1) := by decide +kernel
theorem dX0_leaveQueue_6 : decode cX0_leaveQueue 6 = .ok (.istore_n 2, 1) := by decide +kernel
theorem dX0_leaveQueue_7 : decode cX0_leaveQueue 7 = .ok (.aload_n 0, 1) := by decide +kernel
theorem dX0_leaveQueue_8 : decode cX0_leaveQueue 8 = .ok (.getfield 33, 3) := by decide +kernel
theorem dX0_leaveQueue_11 : decode cX0_leaveQueue 11 = .ok (.iload_n 2, 1) := by decide +kernel
theorem dX0_leaveQueue_12 : decode cX0_leaveQueue 12 = .ok (.iaload, 1) := by decide +kernel
theorem dX0_leaveQueue_13 : decode cX0_leaveQueue 13 = .ok (.iconst 1, 1) := by decide +kernel
theorem dX0_leaveQueue_14 : decode cX0_leaveQueue 14 = .ok (.isub, 1) := by decide +kernel
theorem dX0_leaveQueue_15 : decode cX0_leaveQueue 15 = .ok (.istore_n 3, 1) := by decide +kernel
theorem dX0_leaveQueue_16 : decode cX0_leaveQueue 16 = .ok (.iconst 0, 1) := by decide +kernel
theorem dX0_leaveQueue_17 : decode cX0_leaveQueue 17 = .ok (.istore 4, 2) := by decide +kernel
theorem dX0_leaveQueue_19 : decode cX0_leaveQueue 19 = .ok (.iload_n 2, 1) := by decide +kernel
theorem dX0_leaveQueue_20 : decode cX0_leaveQueue 20 = .ok (.bipush 6, 2) := by decide +kernel
theorem dX0_leaveQueue_22 : decode cX0_leaveQueue 22 = .ok (.imul, 1) := by decide +kernel
theorem dX0_leaveQueue_23 : decode cX0_leaveQueue 23 = .ok (.istore 5, 2) := by decide +kernel
theorem dX0_leaveQueue_25 : decode cX0_leaveQueue 25 = .ok (.iload 5, 2) := by decide +kernel
theorem dX0_leaveQueue_27 : decode cX0_leaveQueue 27 = .ok (.iload_n 2, 1) := by decide +kernel
theorem dX0_leaveQueue_28 : decode cX0_leaveQueue 28 = .ok (.bipush 6, 2) := by decide +kernel
theorem dX0_leaveQueue_30 : decode cX0_leaveQueue 30 = .ok (.imul, 1) := by decide +kernel
theorem dX0_leaveQueue_31 : decode cX0_leaveQueue 31 = .ok (.iload_n 3, 1) := by decide +kernel
theorem dX0_leaveQueue_32 : decode cX0_leaveQueue 32 = .ok (.iadd, 1) := by decide +kernel
theorem dX0_leaveQueue_33 : decode cX0_leaveQueue 33 = .ok (.if_icmp .ge 53, 3) := by decide +kernel
theorem dX0_leaveQueue_36 : decode cX0_leaveQueue 36 = .ok (.iload 4, 2) := by decide +kernel
theorem dX0_leaveQueue_38 : decode cX0_leaveQueue 38 = .ok (.ifCond .ne 14, 3) := by decide +kernel
theorem dX0_leaveQueue_41 : decode cX0_leaveQueue 41 = .ok (.aload_n 0, 1) := by decide +kernel
theorem dX0_leaveQueue_42 : decode cX0_leaveQueue 42 = .ok (.getfield 30, 3) := by decide +kernel
theorem dX0_leaveQueue_45 : decode cX0_leaveQueue 45 = .ok (.iload 5, 2) := by decide +kernel
theorem dX0_leaveQueue_47 : decode cX0_leaveQueue 47 = .ok (.iaload, 1) := by decide +kernel
theorem dX0_leaveQueue_48 : decode cX0_leaveQueue 48 = .ok (.iload_n 1, 1) := by decide +kernel
theorem dX0_leaveQueue_49 : decode cX0_leaveQueue 49 = .ok (.if_icmp .ne 7, 3) := by decide +kernel
theorem dX0_leaveQueue_52 : decode cX0_leaveQueue 52 = .ok (.iconst 1, 1) := by decide +kernel
theorem dX0_leaveQueue_53 : decode cX0_leaveQueue 53 = .ok (.goto 4, 3) := by decide +kernel
theorem dX0_leaveQueue_56 : decode cX0_leaveQueue 56 = .ok (.iconst 0, 1) := by decide +kernel
theorem dX0_leaveQueue_57 : decode cX0_leaveQueue 57 = .ok (.istore 4, 2) := by decide +kernel
theorem dX0_leaveQueue_59 : decode cX0_leaveQueue 59 = .ok (.iload 4, 2) := by decide +kernel
theorem dX0_leaveQueue_61 : decode cX0_leaveQueue 61 = .ok (.ifCond .eq 19, 3) := by decide +kernel
theorem dX0_leaveQueue_64 : decode cX0_leaveQueue 64 = .ok (.aload_n 0, 1) := by decide +kernel
theorem dX0_leaveQueue_65 : decode cX0_leaveQueue 65 = .ok (.getfield 30, 3) := by decide +kernel
theorem dX0_leaveQueue_68 : decode cX0_leaveQueue 68 = .ok (.iload 5, 2) := by decide +kernel
theorem dX0_leaveQueue_70 : decode cX0_leaveQueue 70 = .ok (.aload_n 0, 1) := by decide +kernel
theorem dX0_leaveQueue_71 : decode cX0_leaveQueue 71 = .ok (.getfield 30, 3) := by decide +kernel
theorem dX0_leaveQueue_74 : decode cX0_leaveQueue 74 = .ok (.iload 5, 2) := by decide +kernel
theorem dX0_leaveQueue_76 : decode cX0_leaveQueue 76 = .ok (.iconst 1, 1) := by decide +kernel
theorem dX0_leaveQueue_77 : decode cX0_leaveQueue 77 = .ok (.iadd, 1) := by decide +kernel
theorem dX0_leaveQueue_78 : decode cX0_leaveQueue 78 = .ok (.iaload, 1) := by decide +kernel
theorem dX0_leaveQueue_79 : decode cX0_leaveQueue 79 = .ok (.iastore, 1) := by decide +kernel
theorem dX0_leaveQueue_80 : decode cX0_leaveQueue 80 = .ok (.iinc 5 1, 3) := by decide +kernel
theorem dX0_leaveQueue_83 : decode cX0_leaveQueue 83 = .ok (.goto (-58), 3) := by decide +kernel
theorem dX0_leaveQueue_86 : decode cX0_leaveQueue 86 = .ok (.aload_n 0, 1) := by decide +kernel
theorem dX0_leaveQueue_87 : decode cX0_leaveQueue 87 = .ok (.getfield 33, 3) := by decide +kernel
theorem dX0_leaveQueue_90 : decode cX0_leaveQueue 90 = .ok (.iload_n 2, 1) := by decide +kernel
theorem dX0_leaveQueue_91 : decode cX0_leaveQueue 91 = .ok (.iload_n 3, 1) := by decide +kernel
theorem dX0_leaveQueue_92 : decode cX0_leaveQueue 92 = .ok (.iastore, 1) := by decide +kernel
theorem dX0_leaveQueue_93 : decode cX0_leaveQueue 93 = .ok (.return_, 1) := by decide +kernel
theorem dJ6_bitCount_0f7a4_0 : decode cJ6_bitCount_0f7a4 0 = .ok (.iload_n 0, 1) := by decide +kernel
theorem dJ6_bitCount_0f7a4_1 : decode cJ6_bitCount_0f7a4 1 = .ok (.iload_n 0, 1) := by decide +kernel
theorem dJ6_bitCount_0f7a4_2 : decode cJ6_bitCount_0f7a4 2 = .ok (.iconst 1, 1) := by decide +kernel
theorem dJ6_bitCount_0f7a4_3 : decode cJ6_bitCount_0f7a4 3 = .ok (.iushr, 1) := by decide +kernel
theorem dJ6_bitCount_0f7a4_4 : decode cJ6_bitCount_0f7a4 4 = .ok (.ldc_w 265, 3) := by decide +kernel
theorem dJ6_bitCount_0f7a4_7 : decode cJ6_bitCount_0f7a4 7 = .ok (.iand, 1) := by decide +kernel
theorem dJ6_bitCount_0f7a4_8 : decode cJ6_bitCount_0f7a4 8 = .ok (.isub, 1) := by decide +kernel
theorem dJ6_bitCount_0f7a4_9 : decode cJ6_bitCount_0f7a4 9 = .ok (.istore_n 0, 1) := by decide +kernel
theorem dJ6_bitCount_0f7a4_10 : decode cJ6_bitCount_0f7a4 10 = .ok (.iload_n 0, 1) := by decide +kernel
theorem dJ6_bitCount_0f7a4_11 : decode cJ6_bitCount_0f7a4 11 = .ok (.ldc_w 266, 3) := by decide +kernel
theorem dJ6_bitCount_0f7a4_14 : decode cJ6_bitCount_0f7a4 14 = .ok (.iand, 1) := by decide +kernel
theorem dJ6_bitCount_0f7a4_15 : decode cJ6_bitCount_0f7a4 15 = .ok (.iload_n 0, 1) := by decide +kernel
theorem dJ6_bitCount_0f7a4_16 : decode cJ6_bitCount_0f7a4 16 = .ok (.iconst 2, 1) := by decide +kernel
theorem dJ6_bitCount_0f7a4_17 : decode cJ6_bitCount_0f7a4 17 = .ok (.iushr, 1) := by decide +kernel
theorem dJ6_bitCount_0f7a4_18 : decode cJ6_bitCount_0f7a4 18 = .ok (.ldc_w 266, 3) := by decide +kernel
theorem dJ6_bitCount_0f7a4_21 : decode cJ6_bitCount_0f7a4 21 = .ok (.iand, 1) := by decide +kernel
theorem dJ6_bitCount_0f7a4_22 : decode cJ6_bitCount_0f7a4 22 = .ok (.iadd, 1) := by decide +kernel
theorem dJ6_bitCount_0f7a4_23 : decode cJ6_bitCount_0f7a4 23 = .ok (.istore_n 0, 1) := by decide +kernel
theorem dJ6_bitCount_0f7a4_24 : decode cJ6_bitCount_0f7a4 24 = .ok (.iload_n 0, 1) := by decide +kernel
theorem dJ6_bitCount_0f7a4_25 : decode cJ6_bitCount_0f7a4 25 = .ok (.iload_n 0, 1) := by decide +kernel
theorem dJ6_bitCount_0f7a4_26 : decode cJ6_bitCount_0f7a4 26 = .ok (.iconst 4, 1) := by decide +kernel
theorem dJ6_bitCount_0f7a4_27 : decode cJ6_bitCount_0f7a4 27 = .ok (.iushr, 1) := by decide +kernel
theorem dJ6_bitCount_0f7a4_28 : decode cJ6_bitCount_0f7a4 28 = .ok (.iadd, 1) := by decide +kernel
theorem dJ6_bitCount_0f7a4_29 : decode cJ6_bitCount_0f7a4 29 = .ok (.ldc_w 267, 3) := by decide +kernel
theorem dJ6_bitCount_0f7a4_32 : decode cJ6_bitCount_0f7a4 32 = .ok (.iand, 1) := by decide +kernel
theorem dJ6_bitCount_0f7a4_33 : decode cJ6_bitCount_0f7a4 33 = .ok (.istore_n 0, 1) := by decide +kernel
theorem dJ6_bitCount_0f7a4_34 : decode cJ6_bitCount_0f7a4 34 = .ok (.iload_n 0, 1) := by decide +kernel
theorem dJ6_bitCount_0f7a4_35 : decode cJ6_bitCount_0f7a4 35 = .ok (.iload_n 0, 1) := by decide +kernel
theorem dJ6_bitCount_0f7a4_36 : decode cJ6_bitCount_0f7a4 36 = .ok (.bipush 8, 2) := by decide +kernel
theorem dJ6_bitCount_0f7a4_38 : decode cJ6_bitCount_0f7a4 38 = .ok (.iushr, 1) := by decide +kernel
theorem dJ6_bitCount_0f7a4_39 : decode cJ6_bitCount_0f7a4 39 = .ok (.iadd, 1) := by decide +kernel
theorem dJ6_bitCount_0f7a4_40 : decode cJ6_bitCount_0f7a4 40 = .ok (.istore_n 0, 1) := by decide +kernel
theorem dJ6_bitCount_0f7a4_41 : decode cJ6_bitCount_0f7a4 41 = .ok (.iload_n 0, 1) := by decide +kernel
theorem dJ6_bitCount_0f7a4_42 : decode cJ6_bitCount_0f7a4 42 = .ok (.iload_n 0, 1) := by decide +kernel
theorem dJ6_bitCount_0f7a4_43 : decode cJ6_bitCount_0f7a4 43 = .ok (.bipush 16, 2) := by decide +kernel
theorem dJ6_bitCount_0f7a4_45 : decode cJ6_bitCount_0f7a4 45 = .ok (.iushr, 1) := by decide +kernel
theorem dJ6_bitCount_0f7a4_46 : decode cJ6_bitCount_0f7a4 46 = .ok (.iadd, 1) := by decide +kernel
theorem dJ6_bitCount_0f7a4_47 : decode cJ6_bitCount_0f7a4 47 = .ok (.istore_n 0, 1) := by decide +kernel
theorem dJ6_bitCount_0f7a4_48 : decode cJ6_bitCount_0f7a4 48 = .ok (.iload_n 0, 1) := by decide +kernel
theorem dJ6_bitCount_0f7a4_49 : decode cJ6_bitCount_0f7a4 49 = .ok (.bipush 63, 2) := by decide +kernel
theorem dJ6_bitCount_0f7a4_51 : decode cJ6_bitCount_0f7a4 51 = .ok (.iand, 1) := by decide +kernel
theorem dJ6_bitCount_0f7a4_52 : decode cJ6_bitCount_0f7a4 52 = .ok (.ireturn, 1) := by decide +kernel
theorem dJ7_fill_53178_0 : decode cJ7_fill_53178 0 = .ok (.iconst 0, 1) := by decide +kernel
theorem dJ7_fill_53178_1 : decode cJ7_fill_53178 1 = .ok (.istore_n 2, 1) := by decide +kernel
theorem dJ7_fill_53178_2 : decode cJ7_fill_53178 2 = .ok (.aload_n 0, 1) := by decide +kernel
theorem dJ7_fill_53178_3 : decode cJ7_fill_53178 3 = .ok (.arraylength, 1) := by decide +kernel
theorem dJ7_fill_53178_4 : decode cJ7_fill_53178 4 = .ok (.istore_n 3, 1) := by decide +kernel
theorem dJ7_fill_53178_5 : decode cJ7_fill_53178 5 = .ok (.iload_n 2, 1) := by decide +kernel
theorem dJ7_fill_53178_6 : decode cJ7_fill_53178 6 = .ok (.iload_n 3, 1) := by decide +kernel
theorem dJ7_fill_53178_7 : decode cJ7_fill_53178 7 = .ok (.if_icmp .ge 13, 3) := by decide +kernel
theorem dJ7_fill_53178_10 : decode cJ7_fill_53178 10 = .ok (.aload_n 0, 1) := by decide +kernel
theorem dJ7_fill_53178_11 : decode cJ7_fill_53178 11 = .ok (.iload_n 2, 1) := by decide +kernel
theorem dJ7_fill_53178_12 : decode cJ7_fill_53178 12 = .ok (.iload_n 1, 1) := by decide +kernel
theorem dJ7_fill_53178_13 : decode cJ7_fill_53178 13 = .ok (.iastore, 1) := by decide +kernel
theorem dJ7_fill_53178_14 : decode cJ7_fill_53178 14 = .ok (.iinc 2 1, 3) := by decide +kernel
theorem dJ7_fill_53178_17 : decode cJ7_fill_53178 17 = .ok (.goto (-12), 3) := by decide +kernel
theorem dJ7_fill_53178_20 : decode cJ7_fill_53178 20 = .ok (.return_, 1) := by decide +kernel
