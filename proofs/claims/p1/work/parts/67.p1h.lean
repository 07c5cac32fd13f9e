noncomputable def p1_hf (s : Nat) (bs : List Value) (u : Nat) (cs : List Value) : mm_H := (341, 33469, ((((((((((some hp9_0 : Option mm_C), (some (.inl (8, [.int (Int32.ofNat s), .ref 2, .ref 3, .ref 4, .ref 5, .ref 6, .int 0])) : Option mm_C)), ((some hp9_2 : Option mm_C), (some hp1_3 : Option mm_C))), (((some hp1_4 : Option mm_C), (some (.inr (.byte, bs)) : Option mm_C)), ((some hp1_6 : Option mm_C), (some hp9_7 : Option mm_C)))), ((((some hp1_8 : Option mm_C), (some hp9_9 : Option mm_C)), ((some hp1_10 : Option mm_C), (some hp9_11 : Option mm_C))), (((some hp1_12 : Option mm_C), (some hp9_13 : Option mm_C)), ((some hp9_14 : Option mm_C), (some hp1_15 : Option mm_C))))), (((((some hp9_16 : Option mm_C), (some hp9_17 : Option mm_C)), ((some hp9_18 : Option mm_C), (some hp9_19 : Option mm_C))), (((some hp9_20 : Option mm_C), (some hp1_21 : Option mm_C)), ((some hp9_22 : Option mm_C), (some hp9_23 : Option mm_C)))), ((((some hp1_24 : Option mm_C), (some hp1_25 : Option mm_C)), ((some hp1_26 : Option mm_C), (some hp1_27 : Option mm_C))), (((some hp1_28 : Option mm_C), (some hp1_29 : Option mm_C)), ((some hp1_30 : Option mm_C), (some hp2_31 : Option mm_C)))))), ((((((some hp6_32 : Option mm_C), (some hp8_33 : Option mm_C)), ((some hp8_34 : Option mm_C), (some hp2_35 : Option mm_C))), (((some hp9_36 : Option mm_C), (some hp9_37 : Option mm_C)), ((some hp9_38 : Option mm_C), (some hp9_39 : Option mm_C)))), ((((some hp9_40 : Option mm_C), (some hp9_41 : Option mm_C)), ((some hp9_42 : Option mm_C), (some hp9_43 : Option mm_C))), (((some hp9_44 : Option mm_C), (some hp9_45 : Option mm_C)), ((some hp9_46 : Option mm_C), (some hp9_47 : Option mm_C))))), (((((some hp9_48 : Option mm_C), (some hp9_49 : Option mm_C)), ((some hp9_50 : Option mm_C), (some hp9_51 : Option mm_C))), (((some hp9_52 : Option mm_C), (some hp9_53 : Option mm_C)), ((some hp9_54 : Option mm_C), (some hp9_55 : Option mm_C)))), ((((some hp9_56 : Option mm_C), (some hp9_57 : Option mm_C)), ((some hp9_58 : Option mm_C), (some hp9_59 : Option mm_C))), (((some hp9_60 : Option mm_C), (some hp9_61 : Option mm_C)), ((some hp9_62 : Option mm_C), (some hp9_63 : Option mm_C))))))), (((((((some hp9_64 : Option mm_C), (some hp9_65 : Option mm_C)), ((some hp9_66 : Option mm_C), (some hp9_67 : Option mm_C))), (((some hp9_68 : Option mm_C), (some hp9_69 : Option mm_C)), ((some hp9_70 : Option mm_C), (some hp9_71 : Option mm_C)))), ((((some hp9_72 : Option mm_C), (some hp9_73 : Option mm_C)), ((some hp9_74 : Option mm_C), (some hp9_75 : Option mm_C))), (((some hp9_76 : Option mm_C), (some hp9_77 : Option mm_C)), ((some hp9_78 : Option mm_C), (some hp9_79 : Option mm_C))))), (((((some hp9_80 : Option mm_C), (some hp9_81 : Option mm_C)), ((some hp9_82 : Option mm_C), (some hp9_83 : Option mm_C))), (((some hp9_84 : Option mm_C), (some hp9_85 : Option mm_C)), ((some hp9_86 : Option mm_C), (some hp9_87 : Option mm_C)))), ((((some hp9_88 : Option mm_C), (some hp9_89 : Option mm_C)), ((some hp9_90 : Option mm_C), (some hp9_91 : Option mm_C))), (((some hp9_92 : Option mm_C), (some hp9_93 : Option mm_C)), ((some hp9_94 : Option mm_C), (some hp9_95 : Option mm_C)))))), ((((((some hp9_96 : Option mm_C), (some hp9_97 : Option mm_C)), ((some hp9_98 : Option mm_C), (some hp9_99 : Option mm_C))), (((some hp9_100 : Option mm_C), (some hp9_101 : Option mm_C)), ((some hp9_102 : Option mm_C), (some hp9_103 : Option mm_C)))), ((((some hp9_104 : Option mm_C), (some hp9_105 : Option mm_C)), ((some hp9_106 : Option mm_C), (some hp9_107 : Option mm_C))), (((some hp9_108 : Option mm_C), (some hp9_109 : Option mm_C)), ((some hp9_110 : Option mm_C), (some hp9_111 : Option mm_C))))), (((((some hp9_112 : Option mm_C), (some hp9_113 : Option mm_C)), ((some hp9_114 : Option mm_C), (some hp9_115 : Option mm_C))), (((some hp9_116 : Option mm_C), (some hp9_117 : Option mm_C)), ((some hp9_118 : Option mm_C), (some hp9_119 : Option mm_C)))), ((((some hp9_120 : Option mm_C), (some hp9_121 : Option mm_C)), ((some hp9_122 : Option mm_C), (some hp9_123 : Option mm_C))), (((some hp9_124 : Option mm_C), (some hp9_125 : Option mm_C)), ((some hp9_126 : Option mm_C), (some hp9_127 : Option mm_C)))))))), ((((((((some hp9_128 : Option mm_C), (some hp9_129 : Option mm_C)), ((some hp9_130 : Option mm_C), (some hp9_131 : Option mm_C))), (((some hp9_132 : Option mm_C), (some hp9_133 : Option mm_C)), ((some hp9_134 : Option mm_C), (some hp9_135 : Option mm_C)))), ((((some hp9_136 : Option mm_C), (some hp9_137 : Option mm_C)), ((some hp9_138 : Option mm_C), (some hp9_139 : Option mm_C))), (((some hp9_140 : Option mm_C), (some hp9_141 : Option mm_C)), ((some hp9_142 : Option mm_C), (some hp9_143 : Option mm_C))))), (((((some hp9_144 : Option mm_C), (some hp9_145 : Option mm_C)), ((some hp9_146 : Option mm_C), (some hp9_147 : Option mm_C))), (((some hp9_148 : Option mm_C), (some hp9_149 : Option mm_C)), ((some hp9_150 : Option mm_C), (some hp9_151 : Option mm_C)))), ((((some hp9_152 : Option mm_C), (some hp9_153 : Option mm_C)), ((some hp9_154 : Option mm_C), (some hp9_155 : Option mm_C))), (((some hp9_156 : Option mm_C), (some hp9_157 : Option mm_C)), ((some hp9_158 : Option mm_C), (some hp9_159 : Option mm_C)))))), ((((((some hp9_160 : Option mm_C), (some hp9_161 : Option mm_C)), ((some hp9_162 : Option mm_C), (some hp9_163 : Option mm_C))), (((some hp9_164 : Option mm_C), (some hp9_165 : Option mm_C)), ((some hp9_166 : Option mm_C), (some hp9_167 : Option mm_C)))), ((((some hp9_168 : Option mm_C), (some hp9_169 : Option mm_C)), ((some hp9_170 : Option mm_C), (some hp9_171 : Option mm_C))), (((some hp9_172 : Option mm_C), (some hp9_173 : Option mm_C)), ((some hp9_174 : Option mm_C), (some hp9_175 : Option mm_C))))), (((((some hp9_176 : Option mm_C), (some hp9_177 : Option mm_C)), ((some hp9_178 : Option mm_C), (some hp9_179 : Option mm_C))), (((some hp9_180 : Option mm_C), (some hp9_181 : Option mm_C)), ((some hp9_182 : Option mm_C), (some hp9_183 : Option mm_C)))), ((((some hp9_184 : Option mm_C), (some hp9_185 : Option mm_C)), ((some hp9_186 : Option mm_C), (some hp9_187 : Option mm_C))), (((some hp9_188 : Option mm_C), (some hp9_189 : Option mm_C)), ((some hp9_190 : Option mm_C), (some hp9_191 : Option mm_C))))))), (((((((some hp9_192 : Option mm_C), (some hp9_193 : Option mm_C)), ((some hp9_194 : Option mm_C), (some hp9_195 : Option mm_C))), (((some hp9_196 : Option mm_C), (some hp9_197 : Option mm_C)), ((some hp9_198 : Option mm_C), (some hp9_199 : Option mm_C)))), ((((some hp9_200 : Option mm_C), (some hp9_201 : Option mm_C)), ((some hp9_202 : Option mm_C), (some hp9_203 : Option mm_C))), (((some hp9_204 : Option mm_C), (some hp9_205 : Option mm_C)), ((some hp9_206 : Option mm_C), (some hp9_207 : Option mm_C))))), (((((some hp9_208 : Option mm_C), (some hp9_209 : Option mm_C)), ((some hp9_210 : Option mm_C), (some hp9_211 : Option mm_C))), (((some hp9_212 : Option mm_C), (some hp9_213 : Option mm_C)), ((some hp9_214 : Option mm_C), (some hp9_215 : Option mm_C)))), ((((some hp9_216 : Option mm_C), (some hp9_217 : Option mm_C)), ((some hp9_218 : Option mm_C), (some hp9_219 : Option mm_C))), (((some hp9_220 : Option mm_C), (some hp9_221 : Option mm_C)), ((some hp9_222 : Option mm_C), (some hp9_223 : Option mm_C)))))), ((((((some hp9_224 : Option mm_C), (some hp9_225 : Option mm_C)), ((some hp9_226 : Option mm_C), (some hp9_227 : Option mm_C))), (((some hp9_228 : Option mm_C), (some hp9_229 : Option mm_C)), ((some hp9_230 : Option mm_C), (some hp9_231 : Option mm_C)))), ((((some hp9_232 : Option mm_C), (some hp9_233 : Option mm_C)), ((some hp9_234 : Option mm_C), (some hp9_235 : Option mm_C))), (((some hp9_236 : Option mm_C), (some hp9_237 : Option mm_C)), ((some hp9_238 : Option mm_C), (some hp9_239 : Option mm_C))))), (((((some hp9_240 : Option mm_C), (some hp9_241 : Option mm_C)), ((some hp9_242 : Option mm_C), (some hp9_243 : Option mm_C))), (((some hp9_244 : Option mm_C), (some hp9_245 : Option mm_C)), ((some hp9_246 : Option mm_C), (some hp9_247 : Option mm_C)))), ((((some hp9_248 : Option mm_C), (some hp9_249 : Option mm_C)), ((some hp9_250 : Option mm_C), (some hp9_251 : Option mm_C))), (((some hp9_252 : Option mm_C), (some hp9_253 : Option mm_C)), ((some hp9_254 : Option mm_C), (some hp9_255 : Option mm_C))))))))), (((((((((some hp9_256 : Option mm_C), (some hp9_257 : Option mm_C)), ((some hp9_258 : Option mm_C), (some hp9_259 : Option mm_C))), (((some hp9_260 : Option mm_C), (some hp9_261 : Option mm_C)), ((some hp9_262 : Option mm_C), (some hp9_263 : Option mm_C)))), ((((some hp9_264 : Option mm_C), (some hp9_265 : Option mm_C)), ((some hp9_266 : Option mm_C), (some hp9_267 : Option mm_C))), (((some hp9_268 : Option mm_C), (some hp9_269 : Option mm_C)), ((some hp9_270 : Option mm_C), (some hp9_271 : Option mm_C))))), (((((some hp9_272 : Option mm_C), (some hp9_273 : Option mm_C)), ((some hp9_274 : Option mm_C), (some hp9_275 : Option mm_C))), (((some hp9_276 : Option mm_C), (some hp9_277 : Option mm_C)), ((some hp9_278 : Option mm_C), (some hp9_279 : Option mm_C)))), ((((some hp9_280 : Option mm_C), (some hp9_281 : Option mm_C)), ((some hp9_282 : Option mm_C), (some hp9_283 : Option mm_C))), (((some (.inl (12, [.int 0, .ref 285, .int (Int32.ofNat u), .ref 286, .int 0, .ref 287, .ref 288, .ref 289, .ref 290, .ref 291, .int 0, .int 0, .int 0, .int 0, .int 0, .int 0, .int 0, .int (-1), .int 0, .int 0, .int 0, .ref 292, .ref 293, .ref 294, .ref 295, .ref 296, .ref 297, .ref 298, .ref 299, .ref 300, .ref 301, .ref 302, .ref 303, .ref 304, .ref 305, .ref 306, .ref 307, .ref 308, .int 0, .ref 309, .ref 310, .ref 311, .ref 312, .ref 313, .int 0, .ref 314, .ref 315, .ref 316, .int 0, .ref 317, .ref 318, .int 0, .ref 319, .ref 320, .ref 321, .int 24, .ref 322, .ref 323, .int 0, .int 0, .int 0, .ref 324, .ref 325, .ref 326, .ref 327, .ref 328, .ref 329, .int 0, .ref 330, .ref 331, .ref 332, .ref 333, .int 0, .ref 334, .ref 335, .ref 336, .ref 337, .ref 338, .ref 339, .ref 340])) : Option mm_C), (some (.inr (.byte, cs)) : Option mm_C)), ((some hp10_286 : Option mm_C), (some hp10_287 : Option mm_C)))))), ((((((some hp10_288 : Option mm_C), (some hp10_289 : Option mm_C)), ((some hp10_290 : Option mm_C), (some hp10_291 : Option mm_C))), (((some hp10_292 : Option mm_C), (some hp10_293 : Option mm_C)), ((some hp10_294 : Option mm_C), (some hp10_295 : Option mm_C)))), ((((some hp10_296 : Option mm_C), (some hp10_297 : Option mm_C)), ((some hp10_298 : Option mm_C), (some hp10_299 : Option mm_C))), (((some hp10_300 : Option mm_C), (some hp10_301 : Option mm_C)), ((some hp10_302 : Option mm_C), (some hp10_303 : Option mm_C))))), (((((some hp10_304 : Option mm_C), (some hp10_305 : Option mm_C)), ((some hp10_306 : Option mm_C), (some hp10_307 : Option mm_C))), (((some hp10_308 : Option mm_C), (some hp10_309 : Option mm_C)), ((some hp10_310 : Option mm_C), (some hp10_311 : Option mm_C)))), ((((some hp10_312 : Option mm_C), (some hp10_313 : Option mm_C)), ((some hp10_314 : Option mm_C), (some hp10_315 : Option mm_C))), (((some hp10_316 : Option mm_C), (some hp10_317 : Option mm_C)), ((some hp10_318 : Option mm_C), (some hp12_319 : Option mm_C))))))), (((((((some hp13_320 : Option mm_C), (some hp13_321 : Option mm_C)), ((some hp10_322 : Option mm_C), (some hp10_323 : Option mm_C))), (((some hp10_324 : Option mm_C), (some hp10_325 : Option mm_C)), ((some hp10_326 : Option mm_C), (some hp10_327 : Option mm_C)))), ((((some hp10_328 : Option mm_C), (some hp10_329 : Option mm_C)), ((some hp10_330 : Option mm_C), (some hp10_331 : Option mm_C))), (((some hp10_332 : Option mm_C), (some hp10_333 : Option mm_C)), ((some hp10_334 : Option mm_C), (some hp10_335 : Option mm_C))))), (((((some hp10_336 : Option mm_C), (some hp10_337 : Option mm_C)), ((some hp10_338 : Option mm_C), (some hp10_339 : Option mm_C))), (((some hp10_340 : Option mm_C), mm_no 0), mm_no 1)), mm_no 3)), mm_no 5)), mm_no 7)))
theorem p1_hf0 : hM = p1_hf 0 (List.replicate 2000 (.int 0)) 0 (List.replicate 2000 (.int 0)) := rfl
section WP4
variable {D : Nat} {code : Nat → mm_A} {pc : Nat} {ls : List (Option Value)} {r : List Value} {Q : mm_Q}
theorem mm_hs_eq {α : Type} (h : mm_H) (i : Nat) (c : mm_C) (k : mm_H → α) : mm_hs h i c k = k (h.1, h.2.1, mm_set 9 h.2.2 i c) := mm_setK_eq 9 _ _ _ _
theorem f_bast5 {s u nx : Nat} {bs cs : List Value} {j v : Int32} (hc : code pc = a_bast nx) (hb : bs.length = 2000) (hj : mm_in j 2000 = true) (k : ∀ b2 : List Value, b2.length = 2000 → mm_W D code nx ls r (p1_hf s b2 u cs) Q) : mm_W D code pc ls (.int v :: .int j :: .ref 5 :: r) (p1_hf s bs u cs) Q := by
  refine w_st (h2 := p1_hf s (bs.set j.toNatClampNeg (.int (vp_nar .byte v))) u cs) (fun F => ?_) (k _ (by rw [List.length_set]; exact hb))
  rw [hc]
  show (bif mm_in j bs.length then mm_fI (vp_nar .byte v) (fun z => mm_lK bs j.toNatClampNeg (.int z) (fun y => mm_hs (p1_hf s bs u cs) 5 (.inr (.byte, y)) (fun h2 => some (Sum.inl (nx, ls, r, h2))))) else none) = _
  rw [hb, hj]
  simp only [cond_true]
  rw [mm_fI_eq, mm_lK_eq, mm_hs_eq]
  rfl
theorem f_bast285 {s u nx : Nat} {bs cs : List Value} {j v : Int32} (hc : code pc = a_bast nx) (hb : cs.length = 2000) (hj : mm_in j 2000 = true) (k : ∀ b2 : List Value, b2.length = 2000 → mm_W D code nx ls r (p1_hf s bs u b2) Q) : mm_W D code pc ls (.int v :: .int j :: .ref 285 :: r) (p1_hf s bs u cs) Q := by
  refine w_st (h2 := p1_hf s bs u (cs.set j.toNatClampNeg (.int (vp_nar .byte v)))) (fun F => ?_) (k _ (by rw [List.length_set]; exact hb))
  rw [hc]
  show (bif mm_in j cs.length then mm_fI (vp_nar .byte v) (fun z => mm_lK cs j.toNatClampNeg (.int z) (fun y => mm_hs (p1_hf s bs u cs) 285 (.inr (.byte, y)) (fun h2 => some (Sum.inl (nx, ls, r, h2))))) else none) = _
  rw [hb, hj]
  simp only [cond_true]
  rw [mm_fI_eq, mm_lK_eq, mm_hs_eq]
  rfl
theorem f_put1 {s t u nx : Nat} {bs cs : List Value} {z : Int32} (hc : code pc = a_put 8 0 .int nx) (hz : z = Int32.ofNat t) (k : mm_W D code nx ls r (p1_hf t bs u cs) Q) : mm_W D code pc ls (.int z :: .ref 1 :: r) (p1_hf s bs u cs) Q := by
  subst hz
  exact w_st (h2 := p1_hf t bs u cs) (fun F => by rw [hc]; rfl) k
theorem f_put284 {s t u nx : Nat} {bs cs : List Value} {z : Int32} (hc : code pc = a_put 12 2 .int nx) (hz : z = Int32.ofNat t) (k : mm_W D code nx ls r (p1_hf s bs t cs) Q) : mm_W D code pc ls (.int z :: .ref 284 :: r) (p1_hf s bs u cs) Q := by
  subst hz
  exact w_st (h2 := p1_hf s bs t cs) (fun F => by rw [hc]; rfl) k
end WP4
set_option maxRecDepth 20000 in
theorem f_push0 (x : Int32) (bs cs : List Value) (u : Nat) (hb : bs.length = 2000) : mm_K 1 86 [.ref 1, .int x] (p1_hf 0 bs u cs) (fun h2 v => v = none ∧ ∃ b2 : List Value, b2.length = 2000 ∧ h2 = p1_hf 4 b2 u cs) := by
  refine mm_K.of rfl ?_
  show mm_W 0 mc_86 0 [some (.ref 1), some (.int x), none] [] (p1_hf 0 bs u cs) _
  refine w_st (fun _ => rfl) ?_
  refine w_st (fun _ => rfl) ?_
  refine w_st (fun _ => rfl) ?_
  refine w_st (fun _ => rfl) ?_
  refine w_st (fun _ => rfl) ?_
  refine w_st (fun _ => rfl) ?_
  refine w_st (fun _ => rfl) ?_
  refine w_st (fun _ => rfl) ?_
  refine w_st (fun _ => rfl) ?_
  refine w_st (fun _ => rfl) ?_
  refine w_st (fun _ => rfl) ?_
  refine w_st (fun _ => rfl) ?_
  refine w_st (fun _ => rfl) ?_
  refine w_st (fun _ => rfl) ?_
  refine w_i2 rfl ?_
  refine w_i1 rfl ?_
  refine f_bast5 rfl hb (by decide) (fun b0 hb0 => ?_)
  refine w_st (fun _ => rfl) ?_
  refine w_st (fun _ => rfl) ?_
  refine w_st (fun _ => rfl) ?_
  refine w_st (fun _ => rfl) ?_
  refine w_i2 rfl ?_
  refine f_put1 (t := 1) rfl (by decide) ?_
  refine w_st (fun _ => rfl) ?_
  refine w_st (fun _ => rfl) ?_
  refine w_st (fun _ => rfl) ?_
  refine w_st (fun _ => rfl) ?_
  refine w_st (fun _ => rfl) ?_
  refine w_st (fun _ => rfl) ?_
  refine w_st (fun _ => rfl) ?_
  refine w_st (fun _ => rfl) ?_
  refine w_st (fun _ => rfl) ?_
  refine w_st (fun _ => rfl) ?_
  refine w_st (fun _ => rfl) ?_
  refine w_st (fun _ => rfl) ?_
  refine w_st (fun _ => rfl) ?_
  refine w_st (fun _ => rfl) ?_
  refine w_i2 rfl ?_
  refine w_i1 rfl ?_
  refine f_bast5 rfl hb0 (by decide) (fun b1 hb1 => ?_)
  refine w_st (fun _ => rfl) ?_
  refine w_st (fun _ => rfl) ?_
  refine w_st (fun _ => rfl) ?_
  refine w_st (fun _ => rfl) ?_
  refine w_i2 rfl ?_
  refine f_put1 (t := 2) rfl (by decide) ?_
  refine w_st (fun _ => rfl) ?_
  refine w_st (fun _ => rfl) ?_
  refine w_st (fun _ => rfl) ?_
  refine w_st (fun _ => rfl) ?_
  refine w_st (fun _ => rfl) ?_
  refine w_st (fun _ => rfl) ?_
  refine w_st (fun _ => rfl) ?_
  refine w_st (fun _ => rfl) ?_
  refine w_st (fun _ => rfl) ?_
  refine w_st (fun _ => rfl) ?_
  refine w_st (fun _ => rfl) ?_
  refine w_st (fun _ => rfl) ?_
  refine w_st (fun _ => rfl) ?_
  refine w_st (fun _ => rfl) ?_
  refine w_i2 rfl ?_
  refine w_i1 rfl ?_
  refine f_bast5 rfl hb1 (by decide) (fun b2 hb2 => ?_)
  refine w_st (fun _ => rfl) ?_
  refine w_st (fun _ => rfl) ?_
  refine w_st (fun _ => rfl) ?_
  refine w_st (fun _ => rfl) ?_
  refine w_i2 rfl ?_
  refine f_put1 (t := 3) rfl (by decide) ?_
  refine w_st (fun _ => rfl) ?_
  refine w_st (fun _ => rfl) ?_
  refine w_st (fun _ => rfl) ?_
  refine w_st (fun _ => rfl) ?_
  refine w_st (fun _ => rfl) ?_
  refine w_st (fun _ => rfl) ?_
  refine w_st (fun _ => rfl) ?_
  refine w_st (fun _ => rfl) ?_
  refine w_st (fun _ => rfl) ?_
  refine w_st (fun _ => rfl) ?_
  refine w_st (fun _ => rfl) ?_
  refine w_st (fun _ => rfl) ?_
  refine w_st (fun _ => rfl) ?_
  refine w_st (fun _ => rfl) ?_
  refine w_i2 rfl ?_
  refine w_i1 rfl ?_
  refine f_bast5 rfl hb2 (by decide) (fun b3 hb3 => ?_)
  refine w_st (fun _ => rfl) ?_
  refine w_st (fun _ => rfl) ?_
  refine w_st (fun _ => rfl) ?_
  refine w_st (fun _ => rfl) ?_
  refine w_i2 rfl ?_
  refine f_put1 (t := 4) rfl (by decide) ?_
  refine w_st (fun _ => rfl) ?_
  refine w_st (fun _ => rfl) ?_
  refine w_st (fun _ => rfl) ?_
  refine w_st (fun _ => rfl) ?_
  exact w_rt (fun _ => rfl) ⟨⟨Nat.le_of_ble_eq_true rfl, Nat.le_of_ble_eq_true rfl⟩, rfl, _, hb3, rfl⟩
set_option maxRecDepth 20000 in
theorem f_lays0 (x : Int32) (bs cs : List Value) (s : Nat) (hb : cs.length = 2000) : mm_K 1 170 [.ref 284, .int x] (p1_hf s bs 0 cs) (fun h2 v => v = none ∧ ∃ b2 : List Value, b2.length = 2000 ∧ h2 = p1_hf s bs 4 b2) := by
  refine mm_K.of rfl ?_
  show mm_W 0 mc_170 0 [some (.ref 284), some (.int x), none] [] (p1_hf s bs 0 cs) _
  refine w_st (fun _ => rfl) ?_
  refine w_st (fun _ => rfl) ?_
  refine w_st (fun _ => rfl) ?_
  refine w_st (fun _ => rfl) ?_
  refine w_st (fun _ => rfl) ?_
  refine w_st (fun _ => rfl) ?_
  refine w_st (fun _ => rfl) ?_
  refine w_st (fun _ => rfl) ?_
  refine w_st (fun _ => rfl) ?_
  refine w_st (fun _ => rfl) ?_
  refine w_i2 rfl ?_
  refine w_i1 rfl ?_
  refine f_bast285 rfl hb (by decide) (fun b0 hb0 => ?_)
  refine w_st (fun _ => rfl) ?_
  refine w_st (fun _ => rfl) ?_
  refine w_st (fun _ => rfl) ?_
  refine w_st (fun _ => rfl) ?_
  refine w_i2 rfl ?_
  refine f_put284 (t := 1) rfl (by decide) ?_
  refine w_st (fun _ => rfl) ?_
  refine w_st (fun _ => rfl) ?_
  refine w_st (fun _ => rfl) ?_
  refine w_st (fun _ => rfl) ?_
  refine w_st (fun _ => rfl) ?_
  refine w_st (fun _ => rfl) ?_
  refine w_st (fun _ => rfl) ?_
  refine w_st (fun _ => rfl) ?_
  refine w_st (fun _ => rfl) ?_
  refine w_st (fun _ => rfl) ?_
  refine w_i2 rfl ?_
  refine w_i1 rfl ?_
  refine f_bast285 rfl hb0 (by decide) (fun b1 hb1 => ?_)
  refine w_st (fun _ => rfl) ?_
  refine w_st (fun _ => rfl) ?_
  refine w_st (fun _ => rfl) ?_
  refine w_st (fun _ => rfl) ?_
  refine w_i2 rfl ?_
  refine f_put284 (t := 2) rfl (by decide) ?_
  refine w_st (fun _ => rfl) ?_
  refine w_st (fun _ => rfl) ?_
  refine w_st (fun _ => rfl) ?_
  refine w_st (fun _ => rfl) ?_
  refine w_st (fun _ => rfl) ?_
  refine w_st (fun _ => rfl) ?_
  refine w_st (fun _ => rfl) ?_
  refine w_st (fun _ => rfl) ?_
  refine w_st (fun _ => rfl) ?_
  refine w_st (fun _ => rfl) ?_
  refine w_i2 rfl ?_
  refine w_i1 rfl ?_
  refine f_bast285 rfl hb1 (by decide) (fun b2 hb2 => ?_)
  refine w_st (fun _ => rfl) ?_
  refine w_st (fun _ => rfl) ?_
  refine w_st (fun _ => rfl) ?_
  refine w_st (fun _ => rfl) ?_
  refine w_i2 rfl ?_
  refine f_put284 (t := 3) rfl (by decide) ?_
  refine w_st (fun _ => rfl) ?_
  refine w_st (fun _ => rfl) ?_
  refine w_st (fun _ => rfl) ?_
  refine w_st (fun _ => rfl) ?_
  refine w_st (fun _ => rfl) ?_
  refine w_st (fun _ => rfl) ?_
  refine w_st (fun _ => rfl) ?_
  refine w_st (fun _ => rfl) ?_
  refine w_st (fun _ => rfl) ?_
  refine w_st (fun _ => rfl) ?_
  refine w_i2 rfl ?_
  refine w_i1 rfl ?_
  refine f_bast285 rfl hb2 (by decide) (fun b3 hb3 => ?_)
  refine w_st (fun _ => rfl) ?_
  refine w_st (fun _ => rfl) ?_
  refine w_st (fun _ => rfl) ?_
  refine w_st (fun _ => rfl) ?_
  refine w_i2 rfl ?_
  refine f_put284 (t := 4) rfl (by decide) ?_
  refine w_st (fun _ => rfl) ?_
  refine w_st (fun _ => rfl) ?_
  refine w_st (fun _ => rfl) ?_
  refine w_st (fun _ => rfl) ?_
  exact w_rt (fun _ => rfl) ⟨⟨Nat.le_of_ble_eq_true rfl, Nat.le_of_ble_eq_true rfl⟩, rfl, _, hb3, rfl⟩
set_option maxRecDepth 20000 in
theorem f_push4 (x : Int32) (bs cs : List Value) (u : Nat) (hb : bs.length = 2000) : mm_K 1 86 [.ref 1, .int x] (p1_hf 4 bs u cs) (fun h2 v => v = none ∧ ∃ b2 : List Value, b2.length = 2000 ∧ h2 = p1_hf 8 b2 u cs) := by
  refine mm_K.of rfl ?_
  show mm_W 0 mc_86 0 [some (.ref 1), some (.int x), none] [] (p1_hf 4 bs u cs) _
  refine w_st (fun _ => rfl) ?_
  refine w_st (fun _ => rfl) ?_
  refine w_st (fun _ => rfl) ?_
  refine w_st (fun _ => rfl) ?_
  refine w_st (fun _ => rfl) ?_
  refine w_st (fun _ => rfl) ?_
  refine w_st (fun _ => rfl) ?_
  refine w_st (fun _ => rfl) ?_
  refine w_st (fun _ => rfl) ?_
  refine w_st (fun _ => rfl) ?_
  refine w_st (fun _ => rfl) ?_
  refine w_st (fun _ => rfl) ?_
  refine w_st (fun _ => rfl) ?_
  refine w_st (fun _ => rfl) ?_
  refine w_i2 rfl ?_
  refine w_i1 rfl ?_
  refine f_bast5 rfl hb (by decide) (fun b0 hb0 => ?_)
  refine w_st (fun _ => rfl) ?_
  refine w_st (fun _ => rfl) ?_
  refine w_st (fun _ => rfl) ?_
  refine w_st (fun _ => rfl) ?_
  refine w_i2 rfl ?_
  refine f_put1 (t := 5) rfl (by decide) ?_
  refine w_st (fun _ => rfl) ?_
  refine w_st (fun _ => rfl) ?_
  refine w_st (fun _ => rfl) ?_
  refine w_st (fun _ => rfl) ?_
  refine w_st (fun _ => rfl) ?_
  refine w_st (fun _ => rfl) ?_
  refine w_st (fun _ => rfl) ?_
  refine w_st (fun _ => rfl) ?_
  refine w_st (fun _ => rfl) ?_
  refine w_st (fun _ => rfl) ?_
  refine w_st (fun _ => rfl) ?_
  refine w_st (fun _ => rfl) ?_
  refine w_st (fun _ => rfl) ?_
  refine w_st (fun _ => rfl) ?_
  refine w_i2 rfl ?_
  refine w_i1 rfl ?_
  refine f_bast5 rfl hb0 (by decide) (fun b1 hb1 => ?_)
  refine w_st (fun _ => rfl) ?_
  refine w_st (fun _ => rfl) ?_
  refine w_st (fun _ => rfl) ?_
  refine w_st (fun _ => rfl) ?_
  refine w_i2 rfl ?_
  refine f_put1 (t := 6) rfl (by decide) ?_
  refine w_st (fun _ => rfl) ?_
  refine w_st (fun _ => rfl) ?_
  refine w_st (fun _ => rfl) ?_
  refine w_st (fun _ => rfl) ?_
  refine w_st (fun _ => rfl) ?_
  refine w_st (fun _ => rfl) ?_
  refine w_st (fun _ => rfl) ?_
  refine w_st (fun _ => rfl) ?_
  refine w_st (fun _ => rfl) ?_
  refine w_st (fun _ => rfl) ?_
  refine w_st (fun _ => rfl) ?_
  refine w_st (fun _ => rfl) ?_
  refine w_st (fun _ => rfl) ?_
  refine w_st (fun _ => rfl) ?_
  refine w_i2 rfl ?_
  refine w_i1 rfl ?_
  refine f_bast5 rfl hb1 (by decide) (fun b2 hb2 => ?_)
  refine w_st (fun _ => rfl) ?_
  refine w_st (fun _ => rfl) ?_
  refine w_st (fun _ => rfl) ?_
  refine w_st (fun _ => rfl) ?_
  refine w_i2 rfl ?_
  refine f_put1 (t := 7) rfl (by decide) ?_
  refine w_st (fun _ => rfl) ?_
  refine w_st (fun _ => rfl) ?_
  refine w_st (fun _ => rfl) ?_
  refine w_st (fun _ => rfl) ?_
  refine w_st (fun _ => rfl) ?_
  refine w_st (fun _ => rfl) ?_
  refine w_st (fun _ => rfl) ?_
  refine w_st (fun _ => rfl) ?_
  refine w_st (fun _ => rfl) ?_
  refine w_st (fun _ => rfl) ?_
  refine w_st (fun _ => rfl) ?_
  refine w_st (fun _ => rfl) ?_
  refine w_st (fun _ => rfl) ?_
  refine w_st (fun _ => rfl) ?_
  refine w_i2 rfl ?_
  refine w_i1 rfl ?_
  refine f_bast5 rfl hb2 (by decide) (fun b3 hb3 => ?_)
  refine w_st (fun _ => rfl) ?_
  refine w_st (fun _ => rfl) ?_
  refine w_st (fun _ => rfl) ?_
  refine w_st (fun _ => rfl) ?_
  refine w_i2 rfl ?_
  refine f_put1 (t := 8) rfl (by decide) ?_
  refine w_st (fun _ => rfl) ?_
  refine w_st (fun _ => rfl) ?_
  refine w_st (fun _ => rfl) ?_
  refine w_st (fun _ => rfl) ?_
  exact w_rt (fun _ => rfl) ⟨⟨Nat.le_of_ble_eq_true rfl, Nat.le_of_ble_eq_true rfl⟩, rfl, _, hb3, rfl⟩
set_option maxRecDepth 20000 in
theorem f_lays4 (x : Int32) (bs cs : List Value) (s : Nat) (hb : cs.length = 2000) : mm_K 1 170 [.ref 284, .int x] (p1_hf s bs 4 cs) (fun h2 v => v = none ∧ ∃ b2 : List Value, b2.length = 2000 ∧ h2 = p1_hf s bs 8 b2) := by
  refine mm_K.of rfl ?_
  show mm_W 0 mc_170 0 [some (.ref 284), some (.int x), none] [] (p1_hf s bs 4 cs) _
  refine w_st (fun _ => rfl) ?_
  refine w_st (fun _ => rfl) ?_
  refine w_st (fun _ => rfl) ?_
  refine w_st (fun _ => rfl) ?_
  refine w_st (fun _ => rfl) ?_
  refine w_st (fun _ => rfl) ?_
  refine w_st (fun _ => rfl) ?_
  refine w_st (fun _ => rfl) ?_
  refine w_st (fun _ => rfl) ?_
  refine w_st (fun _ => rfl) ?_
  refine w_i2 rfl ?_
  refine w_i1 rfl ?_
  refine f_bast285 rfl hb (by decide) (fun b0 hb0 => ?_)
  refine w_st (fun _ => rfl) ?_
  refine w_st (fun _ => rfl) ?_
  refine w_st (fun _ => rfl) ?_
  refine w_st (fun _ => rfl) ?_
  refine w_i2 rfl ?_
  refine f_put284 (t := 5) rfl (by decide) ?_
  refine w_st (fun _ => rfl) ?_
  refine w_st (fun _ => rfl) ?_
  refine w_st (fun _ => rfl) ?_
  refine w_st (fun _ => rfl) ?_
  refine w_st (fun _ => rfl) ?_
  refine w_st (fun _ => rfl) ?_
  refine w_st (fun _ => rfl) ?_
  refine w_st (fun _ => rfl) ?_
  refine w_st (fun _ => rfl) ?_
  refine w_st (fun _ => rfl) ?_
  refine w_i2 rfl ?_
  refine w_i1 rfl ?_
  refine f_bast285 rfl hb0 (by decide) (fun b1 hb1 => ?_)
  refine w_st (fun _ => rfl) ?_
  refine w_st (fun _ => rfl) ?_
  refine w_st (fun _ => rfl) ?_
  refine w_st (fun _ => rfl) ?_
  refine w_i2 rfl ?_
  refine f_put284 (t := 6) rfl (by decide) ?_
  refine w_st (fun _ => rfl) ?_
  refine w_st (fun _ => rfl) ?_
  refine w_st (fun _ => rfl) ?_
  refine w_st (fun _ => rfl) ?_
  refine w_st (fun _ => rfl) ?_
  refine w_st (fun _ => rfl) ?_
  refine w_st (fun _ => rfl) ?_
  refine w_st (fun _ => rfl) ?_
  refine w_st (fun _ => rfl) ?_
  refine w_st (fun _ => rfl) ?_
  refine w_i2 rfl ?_
  refine w_i1 rfl ?_
  refine f_bast285 rfl hb1 (by decide) (fun b2 hb2 => ?_)
  refine w_st (fun _ => rfl) ?_
  refine w_st (fun _ => rfl) ?_
  refine w_st (fun _ => rfl) ?_
  refine w_st (fun _ => rfl) ?_
  refine w_i2 rfl ?_
  refine f_put284 (t := 7) rfl (by decide) ?_
  refine w_st (fun _ => rfl) ?_
  refine w_st (fun _ => rfl) ?_
  refine w_st (fun _ => rfl) ?_
  refine w_st (fun _ => rfl) ?_
  refine w_st (fun _ => rfl) ?_
  refine w_st (fun _ => rfl) ?_
  refine w_st (fun _ => rfl) ?_
  refine w_st (fun _ => rfl) ?_
  refine w_st (fun _ => rfl) ?_
  refine w_st (fun _ => rfl) ?_
  refine w_i2 rfl ?_
  refine w_i1 rfl ?_
  refine f_bast285 rfl hb2 (by decide) (fun b3 hb3 => ?_)
  refine w_st (fun _ => rfl) ?_
  refine w_st (fun _ => rfl) ?_
  refine w_st (fun _ => rfl) ?_
  refine w_st (fun _ => rfl) ?_
  refine w_i2 rfl ?_
  refine f_put284 (t := 8) rfl (by decide) ?_
  refine w_st (fun _ => rfl) ?_
  refine w_st (fun _ => rfl) ?_
  refine w_st (fun _ => rfl) ?_
  refine w_st (fun _ => rfl) ?_
  exact w_rt (fun _ => rfl) ⟨⟨Nat.le_of_ble_eq_true rfl, Nat.le_of_ble_eq_true rfl⟩, rfl, _, hb3, rfl⟩
set_option maxRecDepth 20000 in
theorem f_push8 (x : Int32) (bs cs : List Value) (u : Nat) (hb : bs.length = 2000) : mm_K 1 86 [.ref 1, .int x] (p1_hf 8 bs u cs) (fun h2 v => v = none ∧ ∃ b2 : List Value, b2.length = 2000 ∧ h2 = p1_hf 12 b2 u cs) := by
  refine mm_K.of rfl ?_
  show mm_W 0 mc_86 0 [some (.ref 1), some (.int x), none] [] (p1_hf 8 bs u cs) _
  refine w_st (fun _ => rfl) ?_
  refine w_st (fun _ => rfl) ?_
  refine w_st (fun _ => rfl) ?_
  refine w_st (fun _ => rfl) ?_
  refine w_st (fun _ => rfl) ?_
  refine w_st (fun _ => rfl) ?_
  refine w_st (fun _ => rfl) ?_
  refine w_st (fun _ => rfl) ?_
  refine w_st (fun _ => rfl) ?_
  refine w_st (fun _ => rfl) ?_
  refine w_st (fun _ => rfl) ?_
  refine w_st (fun _ => rfl) ?_
  refine w_st (fun _ => rfl) ?_
  refine w_st (fun _ => rfl) ?_
  refine w_i2 rfl ?_
  refine w_i1 rfl ?_
  refine f_bast5 rfl hb (by decide) (fun b0 hb0 => ?_)
  refine w_st (fun _ => rfl) ?_
  refine w_st (fun _ => rfl) ?_
  refine w_st (fun _ => rfl) ?_
  refine w_st (fun _ => rfl) ?_
  refine w_i2 rfl ?_
  refine f_put1 (t := 9) rfl (by decide) ?_
  refine w_st (fun _ => rfl) ?_
  refine w_st (fun _ => rfl) ?_
  refine w_st (fun _ => rfl) ?_
  refine w_st (fun _ => rfl) ?_
  refine w_st (fun _ => rfl) ?_
  refine w_st (fun _ => rfl) ?_
  refine w_st (fun _ => rfl) ?_
  refine w_st (fun _ => rfl) ?_
  refine w_st (fun _ => rfl) ?_
  refine w_st (fun _ => rfl) ?_
  refine w_st (fun _ => rfl) ?_
  refine w_st (fun _ => rfl) ?_
  refine w_st (fun _ => rfl) ?_
  refine w_st (fun _ => rfl) ?_
  refine w_i2 rfl ?_
  refine w_i1 rfl ?_
  refine f_bast5 rfl hb0 (by decide) (fun b1 hb1 => ?_)
  refine w_st (fun _ => rfl) ?_
  refine w_st (fun _ => rfl) ?_
  refine w_st (fun _ => rfl) ?_
  refine w_st (fun _ => rfl) ?_
  refine w_i2 rfl ?_
  refine f_put1 (t := 10) rfl (by decide) ?_
  refine w_st (fun _ => rfl) ?_
  refine w_st (fun _ => rfl) ?_
  refine w_st (fun _ => rfl) ?_
  refine w_st (fun _ => rfl) ?_
  refine w_st (fun _ => rfl) ?_
  refine w_st (fun _ => rfl) ?_
  refine w_st (fun _ => rfl) ?_
  refine w_st (fun _ => rfl) ?_
  refine w_st (fun _ => rfl) ?_
  refine w_st (fun _ => rfl) ?_
  refine w_st (fun _ => rfl) ?_
  refine w_st (fun _ => rfl) ?_
  refine w_st (fun _ => rfl) ?_
  refine w_st (fun _ => rfl) ?_
  refine w_i2 rfl ?_
  refine w_i1 rfl ?_
  refine f_bast5 rfl hb1 (by decide) (fun b2 hb2 => ?_)
  refine w_st (fun _ => rfl) ?_
  refine w_st (fun _ => rfl) ?_
  refine w_st (fun _ => rfl) ?_
  refine w_st (fun _ => rfl) ?_
  refine w_i2 rfl ?_
  refine f_put1 (t := 11) rfl (by decide) ?_
  refine w_st (fun _ => rfl) ?_
  refine w_st (fun _ => rfl) ?_
  refine w_st (fun _ => rfl) ?_
  refine w_st (fun _ => rfl) ?_
  refine w_st (fun _ => rfl) ?_
  refine w_st (fun _ => rfl) ?_
  refine w_st (fun _ => rfl) ?_
  refine w_st (fun _ => rfl) ?_
  refine w_st (fun _ => rfl) ?_
  refine w_st (fun _ => rfl) ?_
  refine w_st (fun _ => rfl) ?_
  refine w_st (fun _ => rfl) ?_
  refine w_st (fun _ => rfl) ?_
  refine w_st (fun _ => rfl) ?_
  refine w_i2 rfl ?_
  refine w_i1 rfl ?_
  refine f_bast5 rfl hb2 (by decide) (fun b3 hb3 => ?_)
  refine w_st (fun _ => rfl) ?_
  refine w_st (fun _ => rfl) ?_
  refine w_st (fun _ => rfl) ?_
  refine w_st (fun _ => rfl) ?_
  refine w_i2 rfl ?_
  refine f_put1 (t := 12) rfl (by decide) ?_
  refine w_st (fun _ => rfl) ?_
  refine w_st (fun _ => rfl) ?_
  refine w_st (fun _ => rfl) ?_
  refine w_st (fun _ => rfl) ?_
  exact w_rt (fun _ => rfl) ⟨⟨Nat.le_of_ble_eq_true rfl, Nat.le_of_ble_eq_true rfl⟩, rfl, _, hb3, rfl⟩
set_option maxRecDepth 20000 in
theorem f_lays8 (x : Int32) (bs cs : List Value) (s : Nat) (hb : cs.length = 2000) : mm_K 1 170 [.ref 284, .int x] (p1_hf s bs 8 cs) (fun h2 v => v = none ∧ ∃ b2 : List Value, b2.length = 2000 ∧ h2 = p1_hf s bs 12 b2) := by
  refine mm_K.of rfl ?_
  show mm_W 0 mc_170 0 [some (.ref 284), some (.int x), none] [] (p1_hf s bs 8 cs) _
  refine w_st (fun _ => rfl) ?_
  refine w_st (fun _ => rfl) ?_
  refine w_st (fun _ => rfl) ?_
  refine w_st (fun _ => rfl) ?_
  refine w_st (fun _ => rfl) ?_
  refine w_st (fun _ => rfl) ?_
  refine w_st (fun _ => rfl) ?_
  refine w_st (fun _ => rfl) ?_
  refine w_st (fun _ => rfl) ?_
  refine w_st (fun _ => rfl) ?_
  refine w_i2 rfl ?_
  refine w_i1 rfl ?_
  refine f_bast285 rfl hb (by decide) (fun b0 hb0 => ?_)
  refine w_st (fun _ => rfl) ?_
  refine w_st (fun _ => rfl) ?_
  refine w_st (fun _ => rfl) ?_
  refine w_st (fun _ => rfl) ?_
  refine w_i2 rfl ?_
  refine f_put284 (t := 9) rfl (by decide) ?_
  refine w_st (fun _ => rfl) ?_
  refine w_st (fun _ => rfl) ?_
  refine w_st (fun _ => rfl) ?_
  refine w_st (fun _ => rfl) ?_
  refine w_st (fun _ => rfl) ?_
  refine w_st (fun _ => rfl) ?_
  refine w_st (fun _ => rfl) ?_
  refine w_st (fun _ => rfl) ?_
  refine w_st (fun _ => rfl) ?_
  refine w_st (fun _ => rfl) ?_
  refine w_i2 rfl ?_
  refine w_i1 rfl ?_
  refine f_bast285 rfl hb0 (by decide) (fun b1 hb1 => ?_)
  refine w_st (fun _ => rfl) ?_
  refine w_st (fun _ => rfl) ?_
  refine w_st (fun _ => rfl) ?_
  refine w_st (fun _ => rfl) ?_
  refine w_i2 rfl ?_
  refine f_put284 (t := 10) rfl (by decide) ?_
  refine w_st (fun _ => rfl) ?_
  refine w_st (fun _ => rfl) ?_
  refine w_st (fun _ => rfl) ?_
  refine w_st (fun _ => rfl) ?_
  refine w_st (fun _ => rfl) ?_
  refine w_st (fun _ => rfl) ?_
  refine w_st (fun _ => rfl) ?_
  refine w_st (fun _ => rfl) ?_
  refine w_st (fun _ => rfl) ?_
  refine w_st (fun _ => rfl) ?_
  refine w_i2 rfl ?_
  refine w_i1 rfl ?_
  refine f_bast285 rfl hb1 (by decide) (fun b2 hb2 => ?_)
  refine w_st (fun _ => rfl) ?_
  refine w_st (fun _ => rfl) ?_
  refine w_st (fun _ => rfl) ?_
  refine w_st (fun _ => rfl) ?_
  refine w_i2 rfl ?_
  refine f_put284 (t := 11) rfl (by decide) ?_
  refine w_st (fun _ => rfl) ?_
  refine w_st (fun _ => rfl) ?_
  refine w_st (fun _ => rfl) ?_
  refine w_st (fun _ => rfl) ?_
  refine w_st (fun _ => rfl) ?_
  refine w_st (fun _ => rfl) ?_
  refine w_st (fun _ => rfl) ?_
  refine w_st (fun _ => rfl) ?_
  refine w_st (fun _ => rfl) ?_
  refine w_st (fun _ => rfl) ?_
  refine w_i2 rfl ?_
  refine w_i1 rfl ?_
  refine f_bast285 rfl hb2 (by decide) (fun b3 hb3 => ?_)
  refine w_st (fun _ => rfl) ?_
  refine w_st (fun _ => rfl) ?_
  refine w_st (fun _ => rfl) ?_
  refine w_st (fun _ => rfl) ?_
  refine w_i2 rfl ?_
  refine f_put284 (t := 12) rfl (by decide) ?_
  refine w_st (fun _ => rfl) ?_
  refine w_st (fun _ => rfl) ?_
  refine w_st (fun _ => rfl) ?_
  refine w_st (fun _ => rfl) ?_
  exact w_rt (fun _ => rfl) ⟨⟨Nat.le_of_ble_eq_true rfl, Nat.le_of_ble_eq_true rfl⟩, rfl, _, hb3, rfl⟩
set_option maxRecDepth 20000 in
theorem f_push12 (x : Int32) (bs cs : List Value) (u : Nat) (hb : bs.length = 2000) : mm_K 1 86 [.ref 1, .int x] (p1_hf 12 bs u cs) (fun h2 v => v = none ∧ ∃ b2 : List Value, b2.length = 2000 ∧ h2 = p1_hf 16 b2 u cs) := by
  refine mm_K.of rfl ?_
  show mm_W 0 mc_86 0 [some (.ref 1), some (.int x), none] [] (p1_hf 12 bs u cs) _
  refine w_st (fun _ => rfl) ?_
  refine w_st (fun _ => rfl) ?_
  refine w_st (fun _ => rfl) ?_
  refine w_st (fun _ => rfl) ?_
  refine w_st (fun _ => rfl) ?_
  refine w_st (fun _ => rfl) ?_
  refine w_st (fun _ => rfl) ?_
  refine w_st (fun _ => rfl) ?_
  refine w_st (fun _ => rfl) ?_
  refine w_st (fun _ => rfl) ?_
  refine w_st (fun _ => rfl) ?_
  refine w_st (fun _ => rfl) ?_
  refine w_st (fun _ => rfl) ?_
  refine w_st (fun _ => rfl) ?_
  refine w_i2 rfl ?_
  refine w_i1 rfl ?_
  refine f_bast5 rfl hb (by decide) (fun b0 hb0 => ?_)
  refine w_st (fun _ => rfl) ?_
  refine w_st (fun _ => rfl) ?_
  refine w_st (fun _ => rfl) ?_
  refine w_st (fun _ => rfl) ?_
  refine w_i2 rfl ?_
  refine f_put1 (t := 13) rfl (by decide) ?_
  refine w_st (fun _ => rfl) ?_
  refine w_st (fun _ => rfl) ?_
  refine w_st (fun _ => rfl) ?_
  refine w_st (fun _ => rfl) ?_
  refine w_st (fun _ => rfl) ?_
  refine w_st (fun _ => rfl) ?_
  refine w_st (fun _ => rfl) ?_
  refine w_st (fun _ => rfl) ?_
  refine w_st (fun _ => rfl) ?_
  refine w_st (fun _ => rfl) ?_
  refine w_st (fun _ => rfl) ?_
  refine w_st (fun _ => rfl) ?_
  refine w_st (fun _ => rfl) ?_
  refine w_st (fun _ => rfl) ?_
  refine w_i2 rfl ?_
  refine w_i1 rfl ?_
  refine f_bast5 rfl hb0 (by decide) (fun b1 hb1 => ?_)
  refine w_st (fun _ => rfl) ?_
  refine w_st (fun _ => rfl) ?_
  refine w_st (fun _ => rfl) ?_
  refine w_st (fun _ => rfl) ?_
  refine w_i2 rfl ?_
  refine f_put1 (t := 14) rfl (by decide) ?_
  refine w_st (fun _ => rfl) ?_
  refine w_st (fun _ => rfl) ?_
  refine w_st (fun _ => rfl) ?_
  refine w_st (fun _ => rfl) ?_
  refine w_st (fun _ => rfl) ?_
  refine w_st (fun _ => rfl) ?_
  refine w_st (fun _ => rfl) ?_
  refine w_st (fun _ => rfl) ?_
  refine w_st (fun _ => rfl) ?_
  refine w_st (fun _ => rfl) ?_
  refine w_st (fun _ => rfl) ?_
  refine w_st (fun _ => rfl) ?_
  refine w_st (fun _ => rfl) ?_
  refine w_st (fun _ => rfl) ?_
  refine w_i2 rfl ?_
  refine w_i1 rfl ?_
  refine f_bast5 rfl hb1 (by decide) (fun b2 hb2 => ?_)
  refine w_st (fun _ => rfl) ?_
  refine w_st (fun _ => rfl) ?_
  refine w_st (fun _ => rfl) ?_
  refine w_st (fun _ => rfl) ?_
  refine w_i2 rfl ?_
  refine f_put1 (t := 15) rfl (by decide) ?_
  refine w_st (fun _ => rfl) ?_
  refine w_st (fun _ => rfl) ?_
  refine w_st (fun _ => rfl) ?_
  refine w_st (fun _ => rfl) ?_
  refine w_st (fun _ => rfl) ?_
  refine w_st (fun _ => rfl) ?_
  refine w_st (fun _ => rfl) ?_
  refine w_st (fun _ => rfl) ?_
  refine w_st (fun _ => rfl) ?_
  refine w_st (fun _ => rfl) ?_
  refine w_st (fun _ => rfl) ?_
  refine w_st (fun _ => rfl) ?_
  refine w_st (fun _ => rfl) ?_
  refine w_st (fun _ => rfl) ?_
  refine w_i2 rfl ?_
  refine w_i1 rfl ?_
  refine f_bast5 rfl hb2 (by decide) (fun b3 hb3 => ?_)
  refine w_st (fun _ => rfl) ?_
  refine w_st (fun _ => rfl) ?_
  refine w_st (fun _ => rfl) ?_
  refine w_st (fun _ => rfl) ?_
  refine w_i2 rfl ?_
  refine f_put1 (t := 16) rfl (by decide) ?_
  refine w_st (fun _ => rfl) ?_
  refine w_st (fun _ => rfl) ?_
  refine w_st (fun _ => rfl) ?_
  refine w_st (fun _ => rfl) ?_
  exact w_rt (fun _ => rfl) ⟨⟨Nat.le_of_ble_eq_true rfl, Nat.le_of_ble_eq_true rfl⟩, rfl, _, hb3, rfl⟩
set_option maxRecDepth 20000 in
theorem f_lays12 (x : Int32) (bs cs : List Value) (s : Nat) (hb : cs.length = 2000) : mm_K 1 170 [.ref 284, .int x] (p1_hf s bs 12 cs) (fun h2 v => v = none ∧ ∃ b2 : List Value, b2.length = 2000 ∧ h2 = p1_hf s bs 16 b2) := by
  refine mm_K.of rfl ?_
  show mm_W 0 mc_170 0 [some (.ref 284), some (.int x), none] [] (p1_hf s bs 12 cs) _
  refine w_st (fun _ => rfl) ?_
  refine w_st (fun _ => rfl) ?_
  refine w_st (fun _ => rfl) ?_
  refine w_st (fun _ => rfl) ?_
  refine w_st (fun _ => rfl) ?_
  refine w_st (fun _ => rfl) ?_
  refine w_st (fun _ => rfl) ?_
  refine w_st (fun _ => rfl) ?_
  refine w_st (fun _ => rfl) ?_
  refine w_st (fun _ => rfl) ?_
  refine w_i2 rfl ?_
  refine w_i1 rfl ?_
  refine f_bast285 rfl hb (by decide) (fun b0 hb0 => ?_)
  refine w_st (fun _ => rfl) ?_
  refine w_st (fun _ => rfl) ?_
  refine w_st (fun _ => rfl) ?_
  refine w_st (fun _ => rfl) ?_
  refine w_i2 rfl ?_
  refine f_put284 (t := 13) rfl (by decide) ?_
  refine w_st (fun _ => rfl) ?_
  refine w_st (fun _ => rfl) ?_
  refine w_st (fun _ => rfl) ?_
  refine w_st (fun _ => rfl) ?_
  refine w_st (fun _ => rfl) ?_
  refine w_st (fun _ => rfl) ?_
  refine w_st (fun _ => rfl) ?_
  refine w_st (fun _ => rfl) ?_
  refine w_st (fun _ => rfl) ?_
  refine w_st (fun _ => rfl) ?_
  refine w_i2 rfl ?_
  refine w_i1 rfl ?_
  refine f_bast285 rfl hb0 (by decide) (fun b1 hb1 => ?_)
  refine w_st (fun _ => rfl) ?_
  refine w_st (fun _ => rfl) ?_
  refine w_st (fun _ => rfl) ?_
  refine w_st (fun _ => rfl) ?_
  refine w_i2 rfl ?_
  refine f_put284 (t := 14) rfl (by decide) ?_
  refine w_st (fun _ => rfl) ?_
  refine w_st (fun _ => rfl) ?_
  refine w_st (fun _ => rfl) ?_
  refine w_st (fun _ => rfl) ?_
  refine w_st (fun _ => rfl) ?_
  refine w_st (fun _ => rfl) ?_
  refine w_st (fun _ => rfl) ?_
  refine w_st (fun _ => rfl) ?_
  refine w_st (fun _ => rfl) ?_
  refine w_st (fun _ => rfl) ?_
  refine w_i2 rfl ?_
  refine w_i1 rfl ?_
  refine f_bast285 rfl hb1 (by decide) (fun b2 hb2 => ?_)
  refine w_st (fun _ => rfl) ?_
  refine w_st (fun _ => rfl) ?_
  refine w_st (fun _ => rfl) ?_
  refine w_st (fun _ => rfl) ?_
  refine w_i2 rfl ?_
  refine f_put284 (t := 15) rfl (by decide) ?_
  refine w_st (fun _ => rfl) ?_
  refine w_st (fun _ => rfl) ?_
  refine w_st (fun _ => rfl) ?_
  refine w_st (fun _ => rfl) ?_
  refine w_st (fun _ => rfl) ?_
  refine w_st (fun _ => rfl) ?_
  refine w_st (fun _ => rfl) ?_
  refine w_st (fun _ => rfl) ?_
  refine w_st (fun _ => rfl) ?_
  refine w_st (fun _ => rfl) ?_
  refine w_i2 rfl ?_
  refine w_i1 rfl ?_
  refine f_bast285 rfl hb2 (by decide) (fun b3 hb3 => ?_)
  refine w_st (fun _ => rfl) ?_
  refine w_st (fun _ => rfl) ?_
  refine w_st (fun _ => rfl) ?_
  refine w_st (fun _ => rfl) ?_
  refine w_i2 rfl ?_
  refine f_put284 (t := 16) rfl (by decide) ?_
  refine w_st (fun _ => rfl) ?_
  refine w_st (fun _ => rfl) ?_
  refine w_st (fun _ => rfl) ?_
  refine w_st (fun _ => rfl) ?_
  exact w_rt (fun _ => rfl) ⟨⟨Nat.le_of_ble_eq_true rfl, Nat.le_of_ble_eq_true rfl⟩, rfl, _, hb3, rfl⟩
set_option maxRecDepth 20000 in
theorem f_push16 (x : Int32) (bs cs : List Value) (u : Nat) (hb : bs.length = 2000) : mm_K 1 86 [.ref 1, .int x] (p1_hf 16 bs u cs) (fun h2 v => v = none ∧ ∃ b2 : List Value, b2.length = 2000 ∧ h2 = p1_hf 20 b2 u cs) := by
  refine mm_K.of rfl ?_
  show mm_W 0 mc_86 0 [some (.ref 1), some (.int x), none] [] (p1_hf 16 bs u cs) _
  refine w_st (fun _ => rfl) ?_
  refine w_st (fun _ => rfl) ?_
  refine w_st (fun _ => rfl) ?_
  refine w_st (fun _ => rfl) ?_
  refine w_st (fun _ => rfl) ?_
  refine w_st (fun _ => rfl) ?_
  refine w_st (fun _ => rfl) ?_
  refine w_st (fun _ => rfl) ?_
  refine w_st (fun _ => rfl) ?_
  refine w_st (fun _ => rfl) ?_
  refine w_st (fun _ => rfl) ?_
  refine w_st (fun _ => rfl) ?_
  refine w_st (fun _ => rfl) ?_
  refine w_st (fun _ => rfl) ?_
  refine w_i2 rfl ?_
  refine w_i1 rfl ?_
  refine f_bast5 rfl hb (by decide) (fun b0 hb0 => ?_)
  refine w_st (fun _ => rfl) ?_
  refine w_st (fun _ => rfl) ?_
  refine w_st (fun _ => rfl) ?_
  refine w_st (fun _ => rfl) ?_
  refine w_i2 rfl ?_
  refine f_put1 (t := 17) rfl (by decide) ?_
  refine w_st (fun _ => rfl) ?_
  refine w_st (fun _ => rfl) ?_
  refine w_st (fun _ => rfl) ?_
  refine w_st (fun _ => rfl) ?_
  refine w_st (fun _ => rfl) ?_
  refine w_st (fun _ => rfl) ?_
  refine w_st (fun _ => rfl) ?_
  refine w_st (fun _ => rfl) ?_
  refine w_st (fun _ => rfl) ?_
  refine w_st (fun _ => rfl) ?_
  refine w_st (fun _ => rfl) ?_
  refine w_st (fun _ => rfl) ?_
  refine w_st (fun _ => rfl) ?_
  refine w_st (fun _ => rfl) ?_
  refine w_i2 rfl ?_
  refine w_i1 rfl ?_
  refine f_bast5 rfl hb0 (by decide) (fun b1 hb1 => ?_)
  refine w_st (fun _ => rfl) ?_
  refine w_st (fun _ => rfl) ?_
  refine w_st (fun _ => rfl) ?_
  refine w_st (fun _ => rfl) ?_
  refine w_i2 rfl ?_
  refine f_put1 (t := 18) rfl (by decide) ?_
  refine w_st (fun _ => rfl) ?_
  refine w_st (fun _ => rfl) ?_
  refine w_st (fun _ => rfl) ?_
  refine w_st (fun _ => rfl) ?_
  refine w_st (fun _ => rfl) ?_
  refine w_st (fun _ => rfl) ?_
  refine w_st (fun _ => rfl) ?_
  refine w_st (fun _ => rfl) ?_
  refine w_st (fun _ => rfl) ?_
  refine w_st (fun _ => rfl) ?_
  refine w_st (fun _ => rfl) ?_
  refine w_st (fun _ => rfl) ?_
  refine w_st (fun _ => rfl) ?_
  refine w_st (fun _ => rfl) ?_
  refine w_i2 rfl ?_
  refine w_i1 rfl ?_
  refine f_bast5 rfl hb1 (by decide) (fun b2 hb2 => ?_)
  refine w_st (fun _ => rfl) ?_
  refine w_st (fun _ => rfl) ?_
  refine w_st (fun _ => rfl) ?_
  refine w_st (fun _ => rfl) ?_
  refine w_i2 rfl ?_
  refine f_put1 (t := 19) rfl (by decide) ?_
  refine w_st (fun _ => rfl) ?_
  refine w_st (fun _ => rfl) ?_
  refine w_st (fun _ => rfl) ?_
  refine w_st (fun _ => rfl) ?_
  refine w_st (fun _ => rfl) ?_
  refine w_st (fun _ => rfl) ?_
  refine w_st (fun _ => rfl) ?_
  refine w_st (fun _ => rfl) ?_
  refine w_st (fun _ => rfl) ?_
  refine w_st (fun _ => rfl) ?_
  refine w_st (fun _ => rfl) ?_
  refine w_st (fun _ => rfl) ?_
  refine w_st (fun _ => rfl) ?_
  refine w_st (fun _ => rfl) ?_
  refine w_i2 rfl ?_
  refine w_i1 rfl ?_
  refine f_bast5 rfl hb2 (by decide) (fun b3 hb3 => ?_)
  refine w_st (fun _ => rfl) ?_
  refine w_st (fun _ => rfl) ?_
  refine w_st (fun _ => rfl) ?_
  refine w_st (fun _ => rfl) ?_
  refine w_i2 rfl ?_
  refine f_put1 (t := 20) rfl (by decide) ?_
  refine w_st (fun _ => rfl) ?_
  refine w_st (fun _ => rfl) ?_
  refine w_st (fun _ => rfl) ?_
  refine w_st (fun _ => rfl) ?_
  exact w_rt (fun _ => rfl) ⟨⟨Nat.le_of_ble_eq_true rfl, Nat.le_of_ble_eq_true rfl⟩, rfl, _, hb3, rfl⟩
set_option maxRecDepth 20000 in
theorem f_lays16 (x : Int32) (bs cs : List Value) (s : Nat) (hb : cs.length = 2000) : mm_K 1 170 [.ref 284, .int x] (p1_hf s bs 16 cs) (fun h2 v => v = none ∧ ∃ b2 : List Value, b2.length = 2000 ∧ h2 = p1_hf s bs 20 b2) := by
  refine mm_K.of rfl ?_
  show mm_W 0 mc_170 0 [some (.ref 284), some (.int x), none] [] (p1_hf s bs 16 cs) _
  refine w_st (fun _ => rfl) ?_
  refine w_st (fun _ => rfl) ?_
  refine w_st (fun _ => rfl) ?_
  refine w_st (fun _ => rfl) ?_
  refine w_st (fun _ => rfl) ?_
  refine w_st (fun _ => rfl) ?_
  refine w_st (fun _ => rfl) ?_
  refine w_st (fun _ => rfl) ?_
  refine w_st (fun _ => rfl) ?_
  refine w_st (fun _ => rfl) ?_
  refine w_i2 rfl ?_
  refine w_i1 rfl ?_
  refine f_bast285 rfl hb (by decide) (fun b0 hb0 => ?_)
  refine w_st (fun _ => rfl) ?_
  refine w_st (fun _ => rfl) ?_
  refine w_st (fun _ => rfl) ?_
  refine w_st (fun _ => rfl) ?_
  refine w_i2 rfl ?_
  refine f_put284 (t := 17) rfl (by decide) ?_
  refine w_st (fun _ => rfl) ?_
  refine w_st (fun _ => rfl) ?_
  refine w_st (fun _ => rfl) ?_
  refine w_st (fun _ => rfl) ?_
  refine w_st (fun _ => rfl) ?_
  refine w_st (fun _ => rfl) ?_
  refine w_st (fun _ => rfl) ?_
  refine w_st (fun _ => rfl) ?_
  refine w_st (fun _ => rfl) ?_
  refine w_st (fun _ => rfl) ?_
  refine w_i2 rfl ?_
  refine w_i1 rfl ?_
  refine f_bast285 rfl hb0 (by decide) (fun b1 hb1 => ?_)
  refine w_st (fun _ => rfl) ?_
  refine w_st (fun _ => rfl) ?_
  refine w_st (fun _ => rfl) ?_
  refine w_st (fun _ => rfl) ?_
  refine w_i2 rfl ?_
  refine f_put284 (t := 18) rfl (by decide) ?_
  refine w_st (fun _ => rfl) ?_
  refine w_st (fun _ => rfl) ?_
  refine w_st (fun _ => rfl) ?_
  refine w_st (fun _ => rfl) ?_
  refine w_st (fun _ => rfl) ?_
  refine w_st (fun _ => rfl) ?_
  refine w_st (fun _ => rfl) ?_
  refine w_st (fun _ => rfl) ?_
  refine w_st (fun _ => rfl) ?_
  refine w_st (fun _ => rfl) ?_
  refine w_i2 rfl ?_
  refine w_i1 rfl ?_
  refine f_bast285 rfl hb1 (by decide) (fun b2 hb2 => ?_)
  refine w_st (fun _ => rfl) ?_
  refine w_st (fun _ => rfl) ?_
  refine w_st (fun _ => rfl) ?_
  refine w_st (fun _ => rfl) ?_
  refine w_i2 rfl ?_
  refine f_put284 (t := 19) rfl (by decide) ?_
  refine w_st (fun _ => rfl) ?_
  refine w_st (fun _ => rfl) ?_
  refine w_st (fun _ => rfl) ?_
  refine w_st (fun _ => rfl) ?_
  refine w_st (fun _ => rfl) ?_
  refine w_st (fun _ => rfl) ?_
  refine w_st (fun _ => rfl) ?_
  refine w_st (fun _ => rfl) ?_
  refine w_st (fun _ => rfl) ?_
  refine w_st (fun _ => rfl) ?_
  refine w_i2 rfl ?_
  refine w_i1 rfl ?_
  refine f_bast285 rfl hb2 (by decide) (fun b3 hb3 => ?_)
  refine w_st (fun _ => rfl) ?_
  refine w_st (fun _ => rfl) ?_
  refine w_st (fun _ => rfl) ?_
  refine w_st (fun _ => rfl) ?_
  refine w_i2 rfl ?_
  refine f_put284 (t := 20) rfl (by decide) ?_
  refine w_st (fun _ => rfl) ?_
  refine w_st (fun _ => rfl) ?_
  refine w_st (fun _ => rfl) ?_
  refine w_st (fun _ => rfl) ?_
  exact w_rt (fun _ => rfl) ⟨⟨Nat.le_of_ble_eq_true rfl, Nat.le_of_ble_eq_true rfl⟩, rfl, _, hb3, rfl⟩
set_option maxRecDepth 20000 in
theorem pr_feed (a b c d e : Int32) : p1_pr 122 169 [.int a, .int b, .int c, .int d, .int e] := by
  refine mm_K.of rfl ?_
  rw [p1_hf0]
  show mm_W 8 mc_122 0 [some (.ref 0), some (.int a), some (.int b), some (.int c), some (.int d), some (.int e)] [] (p1_hf 0 (List.replicate 2000 (.int 0)) 0 (List.replicate 2000 (.int 0))) _
  refine w_st (fun _ => rfl) ?_
  refine w_st (fun _ => rfl) ?_
  refine w_st (fun _ => rfl) ?_
  refine w_st (fun _ => rfl) ?_
  refine w_st (fun _ => rfl) ?_
  refine w_st (fun _ => rfl) ?_
  refine w_st (fun _ => rfl) ?_
  refine w_st (fun _ => rfl) ?_
  refine w_ivV (as := [_]) rfl mg_122 rfl rfl rfl rfl ?_
  refine (f_push0 a _ _ _ (by rw [List.length_replicate])).mono (Nat.le_of_ble_eq_true rfl) ?_
  rintro _ _ ⟨rfl, b0, hb0, rfl⟩
  refine w_st (fun _ => rfl) ?_
  refine w_st (fun _ => rfl) ?_
  refine w_st (fun _ => rfl) ?_
  refine w_ivV (as := [_]) rfl mg_122 rfl rfl rfl rfl ?_
  refine (f_push4 b _ _ _ hb0).mono (Nat.le_of_ble_eq_true rfl) ?_
  rintro _ _ ⟨rfl, b1, hb1, rfl⟩
  refine w_st (fun _ => rfl) ?_
  refine w_st (fun _ => rfl) ?_
  refine w_st (fun _ => rfl) ?_
  refine w_ivV (as := [_]) rfl mg_122 rfl rfl rfl rfl ?_
  refine (f_push8 c _ _ _ hb1).mono (Nat.le_of_ble_eq_true rfl) ?_
  rintro _ _ ⟨rfl, b2, hb2, rfl⟩
  refine w_st (fun _ => rfl) ?_
  refine w_st (fun _ => rfl) ?_
  refine w_st (fun _ => rfl) ?_
  refine w_ivV (as := [_]) rfl mg_122 rfl rfl rfl rfl ?_
  refine (f_push12 d _ _ _ hb2).mono (Nat.le_of_ble_eq_true rfl) ?_
  rintro _ _ ⟨rfl, b3, hb3, rfl⟩
  refine w_st (fun _ => rfl) ?_
  refine w_st (fun _ => rfl) ?_
  refine w_st (fun _ => rfl) ?_
  refine w_ivV (as := [_]) rfl mg_122 rfl rfl rfl rfl ?_
  refine (f_push16 e _ _ _ hb3).mono (Nat.le_of_ble_eq_true rfl) ?_
  rintro _ _ ⟨rfl, b4, hb4, rfl⟩
  refine w_st (fun _ => rfl) ?_
  refine w_st (fun _ => rfl) ?_
  refine w_st (fun _ => rfl) ?_
  refine w_rt (fun _ => rfl) ⟨⟨Nat.le_of_ble_eq_true rfl, Nat.le_of_ble_eq_true rfl⟩, Int32.ofNat 20, _, rfl, rfl, ?_⟩
  refine mm_K.of rfl ?_
  show mm_W 8 mc_169 0 [some (.ref 284), some (.int a), some (.int b), some (.int c), some (.int d), some (.int e)] [] (p1_hf 20 b4 0 (List.replicate 2000 (.int 0))) _
  refine w_st (fun _ => rfl) ?_
  refine w_st (fun _ => rfl) ?_
  refine w_st (fun _ => rfl) ?_
  refine w_i2 rfl ?_
  refine w_st (fun _ => rfl) ?_
  refine w_st (fun _ => rfl) ?_
  refine w_st (fun _ => rfl) ?_
  refine w_st (fun _ => rfl) ?_
  refine w_ivV (as := [_]) rfl mg_169 rfl rfl rfl rfl ?_
  refine (f_lays0 a _ _ _ (by rw [List.length_replicate])).mono (Nat.le_of_ble_eq_true rfl) ?_
  rintro _ _ ⟨rfl, c0, hc0, rfl⟩
  refine w_st (fun _ => rfl) ?_
  refine w_st (fun _ => rfl) ?_
  refine w_ivV (as := [_]) rfl mg_169 rfl rfl rfl rfl ?_
  refine (f_lays4 b _ _ _ hc0).mono (Nat.le_of_ble_eq_true rfl) ?_
  rintro _ _ ⟨rfl, c1, hc1, rfl⟩
  refine w_st (fun _ => rfl) ?_
  refine w_st (fun _ => rfl) ?_
  refine w_ivV (as := [_]) rfl mg_169 rfl rfl rfl rfl ?_
  refine (f_lays8 c _ _ _ hc1).mono (Nat.le_of_ble_eq_true rfl) ?_
  rintro _ _ ⟨rfl, c2, hc2, rfl⟩
  refine w_st (fun _ => rfl) ?_
  refine w_st (fun _ => rfl) ?_
  refine w_ivV (as := [_]) rfl mg_169 rfl rfl rfl rfl ?_
  refine (f_lays12 d _ _ _ hc2).mono (Nat.le_of_ble_eq_true rfl) ?_
  rintro _ _ ⟨rfl, c3, hc3, rfl⟩
  refine w_st (fun _ => rfl) ?_
  refine w_st (fun _ => rfl) ?_
  refine w_ivV (as := [_]) rfl mg_169 rfl rfl rfl rfl ?_
  refine (f_lays16 e _ _ _ hc3).mono (Nat.le_of_ble_eq_true rfl) ?_
  rintro _ _ ⟨rfl, c4, hc4, rfl⟩
  refine w_st (fun _ => rfl) ?_
  refine w_st (fun _ => rfl) ?_
  exact w_rt (fun _ => rfl) ⟨⟨Nat.le_of_ble_eq_true rfl, Nat.le_of_ble_eq_true rfl⟩, rfl, Nat.le_of_ble_eq_true rfl, Nat.le_of_ble_eq_true rfl⟩
