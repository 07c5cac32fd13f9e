/-! The memory behind the constructors -/
def l00 (i : Nat) : List Int32 := (bif Nat.blt i 170 then (bif Nat.blt i 85 then (bif Nat.blt i 42 then (bif Nat.blt i 21 then (bif Nat.blt i 10 then (bif Nat.blt i 5 then (bif Nat.blt i 2 then [] else (bif Nat.blt i 3 then [23] else [])) else (bif Nat.blt i 7 then [] else (bif Nat.blt i 8 then [4, 4] else (bif Nat.blt i 9 then [] else [(-1), (-1), (-1)])))) else (bif Nat.blt i 15 then (bif Nat.blt i 12 then (bif Nat.blt i 11 then [] else [0, 0, 0, 0, 8]) else (bif Nat.blt i 13 then [] else (bif Nat.blt i 14 then [8, 2, 0, 2, 8, 2, 0, 2] else [0, 2, 4, 6]))) else (bif Nat.blt i 18 then (bif Nat.blt i 16 then [] else (bif Nat.blt i 17 then [0, 1, 2, 3, 0, 1, 2, 3, 0, 1, 2, 3, 0, 1, 2, 3] else [0, 0, 0, 0, 1, 1, 1, 1, 2, 2, 2, 2, 3, 3, 3, 3])) else (bif Nat.blt i 19 then [1, 4, (-1), (-1), 2, 5, 0, (-1), 3, 6, 1, (-1), (-1), 7, 2, (-1), 5, 8, (-1), 0, 6, 9, 4, 1, 7, 10, 5, 2, (-1), 11, 6, 3, 9, 12, (-1), 4, 10, 13, 8, 5, 11, 14, 9, 6, (-1), 15, 10, 7, 13, (-1), (-1), 8, 14, (-1), 12, 9, 15, (-1), 13, 10, (-1), (-1), 14, 11] else (bif Nat.blt i 20 then [(-1), 0, 0, 0, 0, 0, 0, (-1), 4, 4] else [0, 0, 0, 0, 8]))))) else (bif Nat.blt i 31 then (bif Nat.blt i 26 then (bif Nat.blt i 23 then (bif Nat.blt i 22 then [] else [8, 2, 0, 2, 8, 2, 0, 2]) else (bif Nat.blt i 24 then [0, 2, 4, 6] else [])) else []) else (bif Nat.blt i 36 then (bif Nat.blt i 33 then (bif Nat.blt i 32 then [] else [0, 1, 2, 3, 4, 5, 4, 5, 2, 3, 1, 0, 2, 3, 1, 0, 4, 5, 5, 4, 2, 3, 0, 1, 3, 2, 0, 1, 4, 5, 1, 0, 2, 3, 5, 4, 2, 3, 5, 4, 1, 0, 3, 2, 4, 5, 1, 0, 4, 5, 1, 0, 3, 2, 1, 0, 3, 2, 4, 5, 5, 4, 1, 0, 2, 3, 2, 3, 4, 5, 0, 1, 3, 2, 5, 4, 0, 1, 4, 5, 0, 1, 2, 3, 5, 4, 0, 1, 3, 2, 2, 3, 0, 1, 5, 4, 3, 2, 1, 0, 5, 4, 1, 0, 5, 4, 3, 2, 5, 4, 3, 2, 1, 0, 0, 1, 5, 4, 2, 3, 1, 0, 4, 5, 2, 3, 0, 1, 4, 5, 3, 2, 4, 5, 3, 2, 0, 1, 0, 1, 3, 2, 5, 4]) else (bif Nat.blt i 34 then [1, 2, 3, 4, 5, 6, 0, 7, 8, 9, 10, 0, 0, 11, 5, 12, 13, 0, 14, 9, 3, 15, 1, 16, 17, 18, 19, 1, 20, 1, 21, 18, 16, 17, 2, 21, 22, 4, 18, 2, 2, 20, 16, 19, 21, 22, 20, 3, 19, 3, 17, 22, 15, 19, 4, 20, 4, 21, 15, 17, 14, 23, 13, 5, 10, 5, 8, 23, 12, 14, 6, 8, 9, 7, 23, 6, 6, 10, 12, 13, 11, 13, 7, 10, 7, 8, 11, 14, 23, 12, 9, 11, 18, 16, 22, 15] else (bif Nat.blt i 35 then [2, 3, 0, 1, 5, 4] else []))) else (bif Nat.blt i 39 then [] else (bif Nat.blt i 40 then [0, 0, 0, 0, 0, 0, 0, 44, 45] else []))))) else []) else []) else (bif Nat.blt i 255 then [] else (bif Nat.blt i 298 then (bif Nat.blt i 276 then [] else (bif Nat.blt i 287 then (bif Nat.blt i 281 then (bif Nat.blt i 278 then (bif Nat.blt i 277 then [(-1), (-1), (-1)] else []) else []) else (bif Nat.blt i 284 then [] else (bif Nat.blt i 285 then [0, 0, 0, 0, 0, 0, 0, 0, 0, 0, 0, 0, 0, 0, 0, 0, 0, (-1), 0, 0, 0, 0, 0, 0, 0, 0, 0, 0, 0, 0, 0, 0, 0, 0, 0, 0, 0, 0, 0, 0, 0, 0, 0, 0, 0, 0, 0, 0, 0, 0, 0, 0, 0, 0, 0, 24] else []))) else (bif Nat.blt i 292 then [] else (bif Nat.blt i 295 then (bif Nat.blt i 293 then [] else [4, 4]) else [])))) else (bif Nat.blt i 319 then [] else (bif Nat.blt i 330 then (bif Nat.blt i 324 then (bif Nat.blt i 321 then (bif Nat.blt i 320 then [0, 1, 2, 3, 4, 5, 4, 5, 2, 3, 1, 0, 2, 3, 1, 0, 4, 5, 5, 4, 2, 3, 0, 1, 3, 2, 0, 1, 4, 5, 1, 0, 2, 3, 5, 4, 2, 3, 5, 4, 1, 0, 3, 2, 4, 5, 1, 0, 4, 5, 1, 0, 3, 2, 1, 0, 3, 2, 4, 5, 5, 4, 1, 0, 2, 3, 2, 3, 4, 5, 0, 1, 3, 2, 5, 4, 0, 1, 4, 5, 0, 1, 2, 3, 5, 4, 0, 1, 3, 2, 2, 3, 0, 1, 5, 4, 3, 2, 1, 0, 5, 4, 1, 0, 5, 4, 3, 2, 5, 4, 3, 2, 1, 0, 0, 1, 5, 4, 2, 3, 1, 0, 4, 5, 2, 3, 0, 1, 4, 5, 3, 2, 4, 5, 3, 2, 0, 1, 0, 1, 3, 2, 5, 4] else [1, 2, 3, 4, 5, 6, 0, 7, 8, 9, 10, 0, 0, 11, 5, 12, 13, 0, 14, 9, 3, 15, 1, 16, 17, 18, 19, 1, 20, 1, 21, 18, 16, 17, 2, 21, 22, 4, 18, 2, 2, 20, 16, 19, 21, 22, 20, 3, 19, 3, 17, 22, 15, 19, 4, 20, 4, 21, 15, 17, 14, 23, 13, 5, 10, 5, 8, 23, 12, 14, 6, 8, 9, 7, 23, 6, 6, 10, 12, 13, 11, 13, 7, 10, 7, 8, 11, 14, 23, 12, 9, 11, 18, 16, 22, 15]) else (bif Nat.blt i 322 then [2, 3, 0, 1, 5, 4] else [])) else []) else [])))))
def k00 (i : Nat) : List Int64 := (bif Nat.blt i 170 then (bif Nat.blt i 85 then (bif Nat.blt i 42 then (bif Nat.blt i 21 then (bif Nat.blt i 10 then (bif Nat.blt i 5 then [] else (bif Nat.blt i 7 then (bif Nat.blt i 6 then [] else [493294, 380396, 8529698, 1949891, 239336362, 10656676, 1903978, 10340587, 377761, 249, 399641, 107681, 240023, 15001, 126880, 311436, 854125379, 400672, 191610176, 12387257, 16819]) else [])) else []) else []) else []) else []) else (bif Nat.blt i 255 then [] else (bif Nat.blt i 298 then (bif Nat.blt i 276 then [] else (bif Nat.blt i 287 then [] else (bif Nat.blt i 292 then (bif Nat.blt i 289 then [] else (bif Nat.blt i 290 then [] else (bif Nat.blt i 291 then [] else [493294, 380396, 8529698, 1949891, 239336362, 10656676, 1903978, 10340587, 377761, 249, 399641, 107681, 240023, 15001, 126880, 311436, 854125379, 400672, 191610176, 12387257, 16819]))) else []))) else [])))
def m00 : Mm := (fun i j => (l00 i).getD j 0, fun i j => (k00 i).getD j 0)
noncomputable def V00 (i : Nat) : mm_C := (bif Nat.blt i 170 then (bif Nat.blt i 85 then (bif Nat.blt i 42 then (bif Nat.blt i 21 then (bif Nat.blt i 10 then (bif Nat.blt i 5 then (bif Nat.blt i 2 then (bif Nat.blt i 1 then hp9_0 else hp1_1) else (bif Nat.blt i 3 then hp9_2 else (bif Nat.blt i 4 then hp1_3 else hp1_4))) else (bif Nat.blt i 7 then (bif Nat.blt i 6 then hp1_5 else hp1_6) else (bif Nat.blt i 8 then hp9_7 else (bif Nat.blt i 9 then hp1_8 else hp9_9)))) else (bif Nat.blt i 15 then (bif Nat.blt i 12 then (bif Nat.blt i 11 then hp1_10 else hp9_11) else (bif Nat.blt i 13 then hp1_12 else (bif Nat.blt i 14 then hp9_13 else hp9_14))) else (bif Nat.blt i 18 then (bif Nat.blt i 16 then hp1_15 else (bif Nat.blt i 17 then hp9_16 else hp9_17)) else (bif Nat.blt i 19 then hp9_18 else (bif Nat.blt i 20 then hp9_19 else hp9_20))))) else (bif Nat.blt i 31 then (bif Nat.blt i 26 then (bif Nat.blt i 23 then (bif Nat.blt i 22 then hp1_21 else hp9_22) else (bif Nat.blt i 24 then hp9_23 else (bif Nat.blt i 25 then hp1_24 else hp1_25))) else (bif Nat.blt i 28 then (bif Nat.blt i 27 then hp1_26 else hp1_27) else (bif Nat.blt i 29 then hp1_28 else (bif Nat.blt i 30 then hp1_29 else hp1_30)))) else (bif Nat.blt i 36 then (bif Nat.blt i 33 then (bif Nat.blt i 32 then hp2_31 else hp6_32) else (bif Nat.blt i 34 then hp8_33 else (bif Nat.blt i 35 then hp8_34 else hp2_35))) else (bif Nat.blt i 39 then (bif Nat.blt i 37 then hp9_36 else (bif Nat.blt i 38 then hp9_37 else hp9_38)) else (bif Nat.blt i 40 then hp9_39 else (bif Nat.blt i 41 then hp9_40 else hp9_41)))))) else (bif Nat.blt i 63 then (bif Nat.blt i 52 then (bif Nat.blt i 47 then (bif Nat.blt i 44 then (bif Nat.blt i 43 then hp9_42 else hp9_43) else (bif Nat.blt i 45 then hp9_44 else (bif Nat.blt i 46 then hp9_45 else hp9_46))) else (bif Nat.blt i 49 then (bif Nat.blt i 48 then hp9_47 else hp9_48) else (bif Nat.blt i 50 then hp9_49 else (bif Nat.blt i 51 then hp9_50 else hp9_51)))) else (bif Nat.blt i 57 then (bif Nat.blt i 54 then (bif Nat.blt i 53 then hp9_52 else hp9_53) else (bif Nat.blt i 55 then hp9_54 else (bif Nat.blt i 56 then hp9_55 else hp9_56))) else (bif Nat.blt i 60 then (bif Nat.blt i 58 then hp9_57 else (bif Nat.blt i 59 then hp9_58 else hp9_59)) else (bif Nat.blt i 61 then hp9_60 else (bif Nat.blt i 62 then hp9_61 else hp9_62))))) else (bif Nat.blt i 74 then (bif Nat.blt i 68 then (bif Nat.blt i 65 then (bif Nat.blt i 64 then hp9_63 else hp9_64) else (bif Nat.blt i 66 then hp9_65 else (bif Nat.blt i 67 then hp9_66 else hp9_67))) else (bif Nat.blt i 71 then (bif Nat.blt i 69 then hp9_68 else (bif Nat.blt i 70 then hp9_69 else hp9_70)) else (bif Nat.blt i 72 then hp9_71 else (bif Nat.blt i 73 then hp9_72 else hp9_73)))) else (bif Nat.blt i 79 then (bif Nat.blt i 76 then (bif Nat.blt i 75 then hp9_74 else hp9_75) else (bif Nat.blt i 77 then hp9_76 else (bif Nat.blt i 78 then hp9_77 else hp9_78))) else (bif Nat.blt i 82 then (bif Nat.blt i 80 then hp9_79 else (bif Nat.blt i 81 then hp9_80 else hp9_81)) else (bif Nat.blt i 83 then hp9_82 else (bif Nat.blt i 84 then hp9_83 else hp9_84))))))) else (bif Nat.blt i 127 then (bif Nat.blt i 106 then (bif Nat.blt i 95 then (bif Nat.blt i 90 then (bif Nat.blt i 87 then (bif Nat.blt i 86 then hp9_85 else hp9_86) else (bif Nat.blt i 88 then hp9_87 else (bif Nat.blt i 89 then hp9_88 else hp9_89))) else (bif Nat.blt i 92 then (bif Nat.blt i 91 then hp9_90 else hp9_91) else (bif Nat.blt i 93 then hp9_92 else (bif Nat.blt i 94 then hp9_93 else hp9_94)))) else (bif Nat.blt i 100 then (bif Nat.blt i 97 then (bif Nat.blt i 96 then hp9_95 else hp9_96) else (bif Nat.blt i 98 then hp9_97 else (bif Nat.blt i 99 then hp9_98 else hp9_99))) else (bif Nat.blt i 103 then (bif Nat.blt i 101 then hp9_100 else (bif Nat.blt i 102 then hp9_101 else hp9_102)) else (bif Nat.blt i 104 then hp9_103 else (bif Nat.blt i 105 then hp9_104 else hp9_105))))) else (bif Nat.blt i 116 then (bif Nat.blt i 111 then (bif Nat.blt i 108 then (bif Nat.blt i 107 then hp9_106 else hp9_107) else (bif Nat.blt i 109 then hp9_108 else (bif Nat.blt i 110 then hp9_109 else hp9_110))) else (bif Nat.blt i 113 then (bif Nat.blt i 112 then hp9_111 else hp9_112) else (bif Nat.blt i 114 then hp9_113 else (bif Nat.blt i 115 then hp9_114 else hp9_115)))) else (bif Nat.blt i 121 then (bif Nat.blt i 118 then (bif Nat.blt i 117 then hp9_116 else hp9_117) else (bif Nat.blt i 119 then hp9_118 else (bif Nat.blt i 120 then hp9_119 else hp9_120))) else (bif Nat.blt i 124 then (bif Nat.blt i 122 then hp9_121 else (bif Nat.blt i 123 then hp9_122 else hp9_123)) else (bif Nat.blt i 125 then hp9_124 else (bif Nat.blt i 126 then hp9_125 else hp9_126)))))) else (bif Nat.blt i 148 then (bif Nat.blt i 137 then (bif Nat.blt i 132 then (bif Nat.blt i 129 then (bif Nat.blt i 128 then hp9_127 else hp9_128) else (bif Nat.blt i 130 then hp9_129 else (bif Nat.blt i 131 then hp9_130 else hp9_131))) else (bif Nat.blt i 134 then (bif Nat.blt i 133 then hp9_132 else hp9_133) else (bif Nat.blt i 135 then hp9_134 else (bif Nat.blt i 136 then hp9_135 else hp9_136)))) else (bif Nat.blt i 142 then (bif Nat.blt i 139 then (bif Nat.blt i 138 then hp9_137 else hp9_138) else (bif Nat.blt i 140 then hp9_139 else (bif Nat.blt i 141 then hp9_140 else hp9_141))) else (bif Nat.blt i 145 then (bif Nat.blt i 143 then hp9_142 else (bif Nat.blt i 144 then hp9_143 else hp9_144)) else (bif Nat.blt i 146 then hp9_145 else (bif Nat.blt i 147 then hp9_146 else hp9_147))))) else (bif Nat.blt i 159 then (bif Nat.blt i 153 then (bif Nat.blt i 150 then (bif Nat.blt i 149 then hp9_148 else hp9_149) else (bif Nat.blt i 151 then hp9_150 else (bif Nat.blt i 152 then hp9_151 else hp9_152))) else (bif Nat.blt i 156 then (bif Nat.blt i 154 then hp9_153 else (bif Nat.blt i 155 then hp9_154 else hp9_155)) else (bif Nat.blt i 157 then hp9_156 else (bif Nat.blt i 158 then hp9_157 else hp9_158)))) else (bif Nat.blt i 164 then (bif Nat.blt i 161 then (bif Nat.blt i 160 then hp9_159 else hp9_160) else (bif Nat.blt i 162 then hp9_161 else (bif Nat.blt i 163 then hp9_162 else hp9_163))) else (bif Nat.blt i 167 then (bif Nat.blt i 165 then hp9_164 else (bif Nat.blt i 166 then hp9_165 else hp9_166)) else (bif Nat.blt i 168 then hp9_167 else (bif Nat.blt i 169 then hp9_168 else hp9_169)))))))) else (bif Nat.blt i 255 then (bif Nat.blt i 212 then (bif Nat.blt i 191 then (bif Nat.blt i 180 then (bif Nat.blt i 175 then (bif Nat.blt i 172 then (bif Nat.blt i 171 then hp9_170 else hp9_171) else (bif Nat.blt i 173 then hp9_172 else (bif Nat.blt i 174 then hp9_173 else hp9_174))) else (bif Nat.blt i 177 then (bif Nat.blt i 176 then hp9_175 else hp9_176) else (bif Nat.blt i 178 then hp9_177 else (bif Nat.blt i 179 then hp9_178 else hp9_179)))) else (bif Nat.blt i 185 then (bif Nat.blt i 182 then (bif Nat.blt i 181 then hp9_180 else hp9_181) else (bif Nat.blt i 183 then hp9_182 else (bif Nat.blt i 184 then hp9_183 else hp9_184))) else (bif Nat.blt i 188 then (bif Nat.blt i 186 then hp9_185 else (bif Nat.blt i 187 then hp9_186 else hp9_187)) else (bif Nat.blt i 189 then hp9_188 else (bif Nat.blt i 190 then hp9_189 else hp9_190))))) else (bif Nat.blt i 201 then (bif Nat.blt i 196 then (bif Nat.blt i 193 then (bif Nat.blt i 192 then hp9_191 else hp9_192) else (bif Nat.blt i 194 then hp9_193 else (bif Nat.blt i 195 then hp9_194 else hp9_195))) else (bif Nat.blt i 198 then (bif Nat.blt i 197 then hp9_196 else hp9_197) else (bif Nat.blt i 199 then hp9_198 else (bif Nat.blt i 200 then hp9_199 else hp9_200)))) else (bif Nat.blt i 206 then (bif Nat.blt i 203 then (bif Nat.blt i 202 then hp9_201 else hp9_202) else (bif Nat.blt i 204 then hp9_203 else (bif Nat.blt i 205 then hp9_204 else hp9_205))) else (bif Nat.blt i 209 then (bif Nat.blt i 207 then hp9_206 else (bif Nat.blt i 208 then hp9_207 else hp9_208)) else (bif Nat.blt i 210 then hp9_209 else (bif Nat.blt i 211 then hp9_210 else hp9_211)))))) else (bif Nat.blt i 233 then (bif Nat.blt i 222 then (bif Nat.blt i 217 then (bif Nat.blt i 214 then (bif Nat.blt i 213 then hp9_212 else hp9_213) else (bif Nat.blt i 215 then hp9_214 else (bif Nat.blt i 216 then hp9_215 else hp9_216))) else (bif Nat.blt i 219 then (bif Nat.blt i 218 then hp9_217 else hp9_218) else (bif Nat.blt i 220 then hp9_219 else (bif Nat.blt i 221 then hp9_220 else hp9_221)))) else (bif Nat.blt i 227 then (bif Nat.blt i 224 then (bif Nat.blt i 223 then hp9_222 else hp9_223) else (bif Nat.blt i 225 then hp9_224 else (bif Nat.blt i 226 then hp9_225 else hp9_226))) else (bif Nat.blt i 230 then (bif Nat.blt i 228 then hp9_227 else (bif Nat.blt i 229 then hp9_228 else hp9_229)) else (bif Nat.blt i 231 then hp9_230 else (bif Nat.blt i 232 then hp9_231 else hp9_232))))) else (bif Nat.blt i 244 then (bif Nat.blt i 238 then (bif Nat.blt i 235 then (bif Nat.blt i 234 then hp9_233 else hp9_234) else (bif Nat.blt i 236 then hp9_235 else (bif Nat.blt i 237 then hp9_236 else hp9_237))) else (bif Nat.blt i 241 then (bif Nat.blt i 239 then hp9_238 else (bif Nat.blt i 240 then hp9_239 else hp9_240)) else (bif Nat.blt i 242 then hp9_241 else (bif Nat.blt i 243 then hp9_242 else hp9_243)))) else (bif Nat.blt i 249 then (bif Nat.blt i 246 then (bif Nat.blt i 245 then hp9_244 else hp9_245) else (bif Nat.blt i 247 then hp9_246 else (bif Nat.blt i 248 then hp9_247 else hp9_248))) else (bif Nat.blt i 252 then (bif Nat.blt i 250 then hp9_249 else (bif Nat.blt i 251 then hp9_250 else hp9_251)) else (bif Nat.blt i 253 then hp9_252 else (bif Nat.blt i 254 then hp9_253 else hp9_254))))))) else (bif Nat.blt i 298 then (bif Nat.blt i 276 then (bif Nat.blt i 265 then (bif Nat.blt i 260 then (bif Nat.blt i 257 then (bif Nat.blt i 256 then hp9_255 else hp9_256) else (bif Nat.blt i 258 then hp9_257 else (bif Nat.blt i 259 then hp9_258 else hp9_259))) else (bif Nat.blt i 262 then (bif Nat.blt i 261 then hp9_260 else hp9_261) else (bif Nat.blt i 263 then hp9_262 else (bif Nat.blt i 264 then hp9_263 else hp9_264)))) else (bif Nat.blt i 270 then (bif Nat.blt i 267 then (bif Nat.blt i 266 then hp9_265 else hp9_266) else (bif Nat.blt i 268 then hp9_267 else (bif Nat.blt i 269 then hp9_268 else hp9_269))) else (bif Nat.blt i 273 then (bif Nat.blt i 271 then hp9_270 else (bif Nat.blt i 272 then hp9_271 else hp9_272)) else (bif Nat.blt i 274 then hp9_273 else (bif Nat.blt i 275 then hp9_274 else hp9_275))))) else (bif Nat.blt i 287 then (bif Nat.blt i 281 then (bif Nat.blt i 278 then (bif Nat.blt i 277 then hp9_276 else hp9_277) else (bif Nat.blt i 279 then hp9_278 else (bif Nat.blt i 280 then hp9_279 else hp9_280))) else (bif Nat.blt i 284 then (bif Nat.blt i 282 then hp9_281 else (bif Nat.blt i 283 then hp9_282 else hp9_283)) else (bif Nat.blt i 285 then hp12_284 else (bif Nat.blt i 286 then hp10_285 else hp10_286)))) else (bif Nat.blt i 292 then (bif Nat.blt i 289 then (bif Nat.blt i 288 then hp10_287 else hp10_288) else (bif Nat.blt i 290 then hp10_289 else (bif Nat.blt i 291 then hp10_290 else hp10_291))) else (bif Nat.blt i 295 then (bif Nat.blt i 293 then hp10_292 else (bif Nat.blt i 294 then hp10_293 else hp10_294)) else (bif Nat.blt i 296 then hp10_295 else (bif Nat.blt i 297 then hp10_296 else hp10_297)))))) else (bif Nat.blt i 319 then (bif Nat.blt i 308 then (bif Nat.blt i 303 then (bif Nat.blt i 300 then (bif Nat.blt i 299 then hp10_298 else hp10_299) else (bif Nat.blt i 301 then hp10_300 else (bif Nat.blt i 302 then hp10_301 else hp10_302))) else (bif Nat.blt i 305 then (bif Nat.blt i 304 then hp10_303 else hp10_304) else (bif Nat.blt i 306 then hp10_305 else (bif Nat.blt i 307 then hp10_306 else hp10_307)))) else (bif Nat.blt i 313 then (bif Nat.blt i 310 then (bif Nat.blt i 309 then hp10_308 else hp10_309) else (bif Nat.blt i 311 then hp10_310 else (bif Nat.blt i 312 then hp10_311 else hp10_312))) else (bif Nat.blt i 316 then (bif Nat.blt i 314 then hp10_313 else (bif Nat.blt i 315 then hp10_314 else hp10_315)) else (bif Nat.blt i 317 then hp10_316 else (bif Nat.blt i 318 then hp10_317 else hp10_318))))) else (bif Nat.blt i 330 then (bif Nat.blt i 324 then (bif Nat.blt i 321 then (bif Nat.blt i 320 then hp12_319 else hp13_320) else (bif Nat.blt i 322 then hp13_321 else (bif Nat.blt i 323 then hp10_322 else hp10_323))) else (bif Nat.blt i 327 then (bif Nat.blt i 325 then hp10_324 else (bif Nat.blt i 326 then hp10_325 else hp10_326)) else (bif Nat.blt i 328 then hp10_327 else (bif Nat.blt i 329 then hp10_328 else hp10_329)))) else (bif Nat.blt i 335 then (bif Nat.blt i 332 then (bif Nat.blt i 331 then hp10_330 else hp10_331) else (bif Nat.blt i 333 then hp10_332 else (bif Nat.blt i 334 then hp10_333 else hp10_334))) else (bif Nat.blt i 338 then (bif Nat.blt i 336 then hp10_335 else (bif Nat.blt i 337 then hp10_336 else hp10_337)) else (bif Nat.blt i 339 then hp10_338 else (bif Nat.blt i 340 then hp10_339 else hp10_340)))))))))
set_option maxRecDepth 100000 in
theorem hM_V : hM = mm_hp V00 := rfl
set_option maxRecDepth 100000 in
set_option maxHeartbeats 4000000 in
theorem v00_0 : ∀ d : Nat, d < 1 → mm_eC (V00 (0 + d)) (cV m00 (0 + d)) = true := by decide +kernel
set_option maxRecDepth 100000 in
set_option maxHeartbeats 4000000 in
theorem v00_1 : ∀ d : Nat, d < 1 → mm_eC (V00 (1 + d)) (cV m00 (1 + d)) = true := by decide +kernel
set_option maxRecDepth 100000 in
set_option maxHeartbeats 4000000 in
theorem v00_2 : ∀ d : Nat, d < 1 → mm_eC (V00 (2 + d)) (cV m00 (2 + d)) = true := by decide +kernel
set_option maxRecDepth 100000 in
set_option maxHeartbeats 4000000 in
theorem v00_3 : ∀ d : Nat, d < 1 → mm_eC (V00 (3 + d)) (cV m00 (3 + d)) = true := by decide +kernel
set_option maxRecDepth 100000 in
set_option maxHeartbeats 4000000 in
theorem v00_4 : ∀ d : Nat, d < 1 → mm_eC (V00 (4 + d)) (cV m00 (4 + d)) = true := by decide +kernel
set_option maxRecDepth 100000 in
set_option maxHeartbeats 4000000 in
theorem v00_5 : ∀ d : Nat, d < 1 → mm_eC (V00 (5 + d)) (cV m00 (5 + d)) = true := by decide +kernel
set_option maxRecDepth 100000 in
set_option maxHeartbeats 4000000 in
theorem v00_6 : ∀ d : Nat, d < 1 → mm_eC (V00 (6 + d)) (cV m00 (6 + d)) = true := by decide +kernel
set_option maxRecDepth 100000 in
set_option maxHeartbeats 4000000 in
theorem v00_7 : ∀ d : Nat, d < 13 → mm_eC (V00 (7 + d)) (cV m00 (7 + d)) = true := by decide +kernel
set_option maxRecDepth 100000 in
set_option maxHeartbeats 4000000 in
theorem v00_20 : ∀ d : Nat, d < 40 → mm_eC (V00 (20 + d)) (cV m00 (20 + d)) = true := by decide +kernel
set_option maxRecDepth 100000 in
set_option maxHeartbeats 4000000 in
theorem v00_60 : ∀ d : Nat, d < 20 → mm_eC (V00 (60 + d)) (cV m00 (60 + d)) = true := by decide +kernel
set_option maxRecDepth 100000 in
set_option maxHeartbeats 4000000 in
theorem v00_80 : ∀ d : Nat, d < 20 → mm_eC (V00 (80 + d)) (cV m00 (80 + d)) = true := by decide +kernel
set_option maxRecDepth 100000 in
set_option maxHeartbeats 4000000 in
theorem v00_100 : ∀ d : Nat, d < 20 → mm_eC (V00 (100 + d)) (cV m00 (100 + d)) = true := by decide +kernel
set_option maxRecDepth 100000 in
set_option maxHeartbeats 4000000 in
theorem v00_120 : ∀ d : Nat, d < 20 → mm_eC (V00 (120 + d)) (cV m00 (120 + d)) = true := by decide +kernel
set_option maxRecDepth 100000 in
set_option maxHeartbeats 4000000 in
theorem v00_140 : ∀ d : Nat, d < 20 → mm_eC (V00 (140 + d)) (cV m00 (140 + d)) = true := by decide +kernel
set_option maxRecDepth 100000 in
set_option maxHeartbeats 4000000 in
theorem v00_160 : ∀ d : Nat, d < 20 → mm_eC (V00 (160 + d)) (cV m00 (160 + d)) = true := by decide +kernel
set_option maxRecDepth 100000 in
set_option maxHeartbeats 4000000 in
theorem v00_180 : ∀ d : Nat, d < 20 → mm_eC (V00 (180 + d)) (cV m00 (180 + d)) = true := by decide +kernel
set_option maxRecDepth 100000 in
set_option maxHeartbeats 4000000 in
theorem v00_200 : ∀ d : Nat, d < 20 → mm_eC (V00 (200 + d)) (cV m00 (200 + d)) = true := by decide +kernel
set_option maxRecDepth 100000 in
set_option maxHeartbeats 4000000 in
theorem v00_220 : ∀ d : Nat, d < 20 → mm_eC (V00 (220 + d)) (cV m00 (220 + d)) = true := by decide +kernel
set_option maxRecDepth 100000 in
set_option maxHeartbeats 4000000 in
theorem v00_240 : ∀ d : Nat, d < 20 → mm_eC (V00 (240 + d)) (cV m00 (240 + d)) = true := by decide +kernel
set_option maxRecDepth 100000 in
set_option maxHeartbeats 4000000 in
theorem v00_260 : ∀ d : Nat, d < 20 → mm_eC (V00 (260 + d)) (cV m00 (260 + d)) = true := by decide +kernel
set_option maxRecDepth 100000 in
set_option maxHeartbeats 4000000 in
theorem v00_280 : ∀ d : Nat, d < 4 → mm_eC (V00 (280 + d)) (cV m00 (280 + d)) = true := by decide +kernel
set_option maxRecDepth 100000 in
set_option maxHeartbeats 4000000 in
theorem v00_284 : ∀ d : Nat, d < 1 → mm_eC (V00 (284 + d)) (cV m00 (284 + d)) = true := by decide +kernel
set_option maxRecDepth 100000 in
set_option maxHeartbeats 4000000 in
theorem v00_285 : ∀ d : Nat, d < 1 → mm_eC (V00 (285 + d)) (cV m00 (285 + d)) = true := by decide +kernel
set_option maxRecDepth 100000 in
set_option maxHeartbeats 4000000 in
theorem v00_286 : ∀ d : Nat, d < 4 → mm_eC (V00 (286 + d)) (cV m00 (286 + d)) = true := by decide +kernel
set_option maxRecDepth 100000 in
set_option maxHeartbeats 4000000 in
theorem v00_290 : ∀ d : Nat, d < 10 → mm_eC (V00 (290 + d)) (cV m00 (290 + d)) = true := by decide +kernel
set_option maxRecDepth 100000 in
set_option maxHeartbeats 4000000 in
theorem v00_300 : ∀ d : Nat, d < 10 → mm_eC (V00 (300 + d)) (cV m00 (300 + d)) = true := by decide +kernel
set_option maxRecDepth 100000 in
set_option maxHeartbeats 4000000 in
theorem v00_310 : ∀ d : Nat, d < 4 → mm_eC (V00 (310 + d)) (cV m00 (310 + d)) = true := by decide +kernel
set_option maxRecDepth 100000 in
set_option maxHeartbeats 4000000 in
theorem v00_314 : ∀ d : Nat, d < 2 → mm_eC (V00 (314 + d)) (cV m00 (314 + d)) = true := by decide +kernel
set_option maxRecDepth 100000 in
set_option maxHeartbeats 4000000 in
theorem v00_316 : ∀ d : Nat, d < 4 → mm_eC (V00 (316 + d)) (cV m00 (316 + d)) = true := by decide +kernel
set_option maxRecDepth 100000 in
set_option maxHeartbeats 4000000 in
theorem v00_320 : ∀ d : Nat, d < 4 → mm_eC (V00 (320 + d)) (cV m00 (320 + d)) = true := by decide +kernel
set_option maxRecDepth 100000 in
set_option maxHeartbeats 4000000 in
theorem v00_324 : ∀ d : Nat, d < 1 → mm_eC (V00 (324 + d)) (cV m00 (324 + d)) = true := by decide +kernel
set_option maxRecDepth 100000 in
set_option maxHeartbeats 4000000 in
theorem v00_325 : ∀ d : Nat, d < 1 → mm_eC (V00 (325 + d)) (cV m00 (325 + d)) = true := by decide +kernel
set_option maxRecDepth 100000 in
set_option maxHeartbeats 4000000 in
theorem v00_326 : ∀ d : Nat, d < 2 → mm_eC (V00 (326 + d)) (cV m00 (326 + d)) = true := by decide +kernel
set_option maxRecDepth 100000 in
set_option maxHeartbeats 4000000 in
theorem v00_328 : ∀ d : Nat, d < 2 → mm_eC (V00 (328 + d)) (cV m00 (328 + d)) = true := by decide +kernel
set_option maxRecDepth 100000 in
set_option maxHeartbeats 4000000 in
theorem v00_330 : ∀ d : Nat, d < 1 → mm_eC (V00 (330 + d)) (cV m00 (330 + d)) = true := by decide +kernel
set_option maxRecDepth 100000 in
set_option maxHeartbeats 4000000 in
theorem v00_331 : ∀ d : Nat, d < 1 → mm_eC (V00 (331 + d)) (cV m00 (331 + d)) = true := by decide +kernel
set_option maxRecDepth 100000 in
set_option maxHeartbeats 4000000 in
theorem v00_332 : ∀ d : Nat, d < 4 → mm_eC (V00 (332 + d)) (cV m00 (332 + d)) = true := by decide +kernel
set_option maxRecDepth 100000 in
set_option maxHeartbeats 4000000 in
theorem v00_336 : ∀ d : Nat, d < 5 → mm_eC (V00 (336 + d)) (cV m00 (336 + d)) = true := by decide +kernel
theorem v00 (j : Nat) (h : j < 341) : V00 j = cV m00 j := by
  refine mm_eC_eq ?_
  by_cases h0 : j < 1
  · have e : j = 0 + (j - 0) := by omega
    rw [e]
    exact v00_0 (j - 0) (by omega)
  by_cases h1 : j < 2
  · have e : j = 1 + (j - 1) := by omega
    rw [e]
    exact v00_1 (j - 1) (by omega)
  by_cases h2 : j < 3
  · have e : j = 2 + (j - 2) := by omega
    rw [e]
    exact v00_2 (j - 2) (by omega)
  by_cases h3 : j < 4
  · have e : j = 3 + (j - 3) := by omega
    rw [e]
    exact v00_3 (j - 3) (by omega)
  by_cases h4 : j < 5
  · have e : j = 4 + (j - 4) := by omega
    rw [e]
    exact v00_4 (j - 4) (by omega)
  by_cases h5 : j < 6
  · have e : j = 5 + (j - 5) := by omega
    rw [e]
    exact v00_5 (j - 5) (by omega)
  by_cases h6 : j < 7
  · have e : j = 6 + (j - 6) := by omega
    rw [e]
    exact v00_6 (j - 6) (by omega)
  by_cases h7 : j < 20
  · have e : j = 7 + (j - 7) := by omega
    rw [e]
    exact v00_7 (j - 7) (by omega)
  by_cases h20 : j < 60
  · have e : j = 20 + (j - 20) := by omega
    rw [e]
    exact v00_20 (j - 20) (by omega)
  by_cases h60 : j < 80
  · have e : j = 60 + (j - 60) := by omega
    rw [e]
    exact v00_60 (j - 60) (by omega)
  by_cases h80 : j < 100
  · have e : j = 80 + (j - 80) := by omega
    rw [e]
    exact v00_80 (j - 80) (by omega)
  by_cases h100 : j < 120
  · have e : j = 100 + (j - 100) := by omega
    rw [e]
    exact v00_100 (j - 100) (by omega)
  by_cases h120 : j < 140
  · have e : j = 120 + (j - 120) := by omega
    rw [e]
    exact v00_120 (j - 120) (by omega)
  by_cases h140 : j < 160
  · have e : j = 140 + (j - 140) := by omega
    rw [e]
    exact v00_140 (j - 140) (by omega)
  by_cases h160 : j < 180
  · have e : j = 160 + (j - 160) := by omega
    rw [e]
    exact v00_160 (j - 160) (by omega)
  by_cases h180 : j < 200
  · have e : j = 180 + (j - 180) := by omega
    rw [e]
    exact v00_180 (j - 180) (by omega)
  by_cases h200 : j < 220
  · have e : j = 200 + (j - 200) := by omega
    rw [e]
    exact v00_200 (j - 200) (by omega)
  by_cases h220 : j < 240
  · have e : j = 220 + (j - 220) := by omega
    rw [e]
    exact v00_220 (j - 220) (by omega)
  by_cases h240 : j < 260
  · have e : j = 240 + (j - 240) := by omega
    rw [e]
    exact v00_240 (j - 240) (by omega)
  by_cases h260 : j < 280
  · have e : j = 260 + (j - 260) := by omega
    rw [e]
    exact v00_260 (j - 260) (by omega)
  by_cases h280 : j < 284
  · have e : j = 280 + (j - 280) := by omega
    rw [e]
    exact v00_280 (j - 280) (by omega)
  by_cases h284 : j < 285
  · have e : j = 284 + (j - 284) := by omega
    rw [e]
    exact v00_284 (j - 284) (by omega)
  by_cases h285 : j < 286
  · have e : j = 285 + (j - 285) := by omega
    rw [e]
    exact v00_285 (j - 285) (by omega)
  by_cases h286 : j < 290
  · have e : j = 286 + (j - 286) := by omega
    rw [e]
    exact v00_286 (j - 286) (by omega)
  by_cases h290 : j < 300
  · have e : j = 290 + (j - 290) := by omega
    rw [e]
    exact v00_290 (j - 290) (by omega)
  by_cases h300 : j < 310
  · have e : j = 300 + (j - 300) := by omega
    rw [e]
    exact v00_300 (j - 300) (by omega)
  by_cases h310 : j < 314
  · have e : j = 310 + (j - 310) := by omega
    rw [e]
    exact v00_310 (j - 310) (by omega)
  by_cases h314 : j < 316
  · have e : j = 314 + (j - 314) := by omega
    rw [e]
    exact v00_314 (j - 314) (by omega)
  by_cases h316 : j < 320
  · have e : j = 316 + (j - 316) := by omega
    rw [e]
    exact v00_316 (j - 316) (by omega)
  by_cases h320 : j < 324
  · have e : j = 320 + (j - 320) := by omega
    rw [e]
    exact v00_320 (j - 320) (by omega)
  by_cases h324 : j < 325
  · have e : j = 324 + (j - 324) := by omega
    rw [e]
    exact v00_324 (j - 324) (by omega)
  by_cases h325 : j < 326
  · have e : j = 325 + (j - 325) := by omega
    rw [e]
    exact v00_325 (j - 325) (by omega)
  by_cases h326 : j < 328
  · have e : j = 326 + (j - 326) := by omega
    rw [e]
    exact v00_326 (j - 326) (by omega)
  by_cases h328 : j < 330
  · have e : j = 328 + (j - 328) := by omega
    rw [e]
    exact v00_328 (j - 328) (by omega)
  by_cases h330 : j < 331
  · have e : j = 330 + (j - 330) := by omega
    rw [e]
    exact v00_330 (j - 330) (by omega)
  by_cases h331 : j < 332
  · have e : j = 331 + (j - 331) := by omega
    rw [e]
    exact v00_331 (j - 331) (by omega)
  by_cases h332 : j < 336
  · have e : j = 332 + (j - 332) := by omega
    rw [e]
    exact v00_332 (j - 332) (by omega)
  by_cases h336 : j < 341
  · have e : j = 336 + (j - 336) := by omega
    rw [e]
    exact v00_336 (j - 336) (by omega)
  omega
theorem mm_tr_sm {V U : Nat → mm_C} : ∀ (d b : Nat), (∀ j, b ≤ j → j < b + 2 ^ d → j < 341 → V j = U j) → mm_tr V d b = mm_tr U d b := by
  intro d
  induction d with
  | zero =>
    intro b h
    show (if b < 341 then some (V b) else none : Option mm_C) = (if b < 341 then some (U b) else none)
    by_cases q : b < 341
    · rw [if_pos q, if_pos q, h b (Nat.le_refl b) (by omega) q]
    · rw [if_neg q, if_neg q]
  | succ d ih =>
    intro b h
    have e : 2 ^ (d + 1) = 2 ^ d + 2 ^ d := by rw [Nat.pow_succ]; omega
    show ((mm_tr V d b, mm_tr V d (b + 2 ^ d)) : mm_T d × mm_T d) = (mm_tr U d b, mm_tr U d (b + 2 ^ d))
    rw [ih b (fun j h1 h2 h3 => h j h1 (by omega) h3), ih (b + 2 ^ d) (fun j h1 h2 h3 => h j (by omega) (by omega) h3)]
theorem hM_fm : hM = fm m00 := by
  rw [hM_V]
  unfold fm mm_hp
  rw [mm_tr_sm 9 0 (V := V00) (U := cV m00) (fun j _ _ h => v00 j h)]
theorem gd_all {l : List Int32} {lo hi : Int} (h : ∀ x ∈ l, lo ≤ x.toInt ∧ x.toInt ≤ hi) (h0 : lo ≤ 0 ∧ 0 ≤ hi) (j : Nat) : lo ≤ (l.getD j 0).toInt ∧ (l.getD j 0).toInt ≤ hi := by
  rw [List.getD_eq_getElem?_getD]
  by_cases q : j < l.length
  · rw [List.getElem?_eq_getElem q]
    exact h _ (List.getElem_mem q)
  · rw [List.getElem?_eq_none (by omega)]
    exact h0
