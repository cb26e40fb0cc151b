/-! the methods of the tables are what they seem (by the kernel) -/
theorem zt_0 : zx_tv zm_0 = true := by decide +kernel
theorem zt_1 : zx_tv zm_1 = true := by decide +kernel
theorem zt_2 : zx_tv zm_2 = true := by decide +kernel
theorem zt_3 : zx_tv zm_3 = true := by decide +kernel
theorem zt_4 : zx_tv zm_4 = true := by decide +kernel
theorem zt_5 : zx_tv zm_5 = true := by decide +kernel
theorem zt_6 : zx_tv zm_6 = true := by decide +kernel
theorem zt_7 : zx_tv zm_7 = true := by decide +kernel
theorem zt_8 : zx_tv zm_8 = true := by decide +kernel
theorem zt_9 : zx_tv zm_9 = true := by decide +kernel
theorem zt_10 : zx_tv zm_10 = true := by decide +kernel
theorem zt_11 : zx_tv zm_11 = true := by decide +kernel
theorem zt_12 : zx_tv zm_12 = true := by decide +kernel
theorem zt_13 : zx_tv zm_13 = true := by decide +kernel
theorem zt_14 : zx_tv zm_14 = true := by decide +kernel
theorem zt_15 : zx_tv zm_15 = true := by decide +kernel
theorem zt_16 : zx_tv zm_16 = true := by decide +kernel
theorem zt_17 : zx_tv zm_17 = true := by decide +kernel
theorem zt_18 : zx_tv zm_18 = true := by decide +kernel
theorem zt_19 : zx_tv zm_19 = true := by decide +kernel
theorem zt_20 : zx_tv zm_20 = true := by decide +kernel
theorem zt_21 : zx_tv zm_21 = true := by decide +kernel
theorem zt_22 : zx_tv zm_22 = true := by decide +kernel
theorem zt_23 : zx_tv zm_23 = true := by decide +kernel
theorem zt_24 : zx_tv zm_24 = true := by decide +kernel
theorem zt_25 : zx_tv zm_25 = true := by decide +kernel
theorem zt_26 : zx_tv zm_26 = true := by decide +kernel
theorem zt_27 : zx_tv zm_27 = true := by decide +kernel
theorem zt_28 : zx_tv zm_28 = true := by decide +kernel
theorem zt_29 : zx_tv zm_29 = true := by decide +kernel
theorem zt_30 : zx_tv zm_30 = true := by decide +kernel
theorem zt_31 : zx_tv zm_31 = true := by decide +kernel
theorem zt_32 : zx_tv zm_32 = true := by decide +kernel
theorem zt_33 : zx_tv zm_33 = true := by decide +kernel
theorem zt_34 : zx_tv zm_34 = true := by decide +kernel
theorem zt_35 : zx_tv zm_35 = true := by decide +kernel
theorem zt_36 : zx_tv zm_36 = true := by decide +kernel
theorem zt_37 : zx_tv zm_37 = true := by decide +kernel
theorem zt_38 : zx_tv zm_38 = true := by decide +kernel
theorem zt_39 : zx_tv zm_39 = true := by decide +kernel
theorem zt_40 : zx_tv zm_40 = true := by decide +kernel
theorem zt_41 : zx_tv zm_41 = true := by decide +kernel
theorem zt_42 : zx_tv zm_42 = true := by decide +kernel
theorem zt_43 : zx_tv zm_43 = true := by decide +kernel
theorem zt_44 : zx_tv zm_44 = true := by decide +kernel
theorem zt_45 : zx_tv zm_45 = true := by decide +kernel
theorem zt_46 : zx_tv zm_46 = true := by decide +kernel
theorem zt_47 : zx_tv zm_47 = true := by decide +kernel
theorem zt_48 : zx_tv zm_48 = true := by decide +kernel
theorem zt_49 : zx_tv zm_49 = true := by decide +kernel
theorem zt_50 : zx_tv zm_50 = true := by decide +kernel
theorem zt_51 : zx_tv zm_51 = true := by decide +kernel
theorem zt_52 : zx_tv zm_52 = true := by decide +kernel
theorem zt_53 : zx_tv zm_53 = true := by decide +kernel
theorem zt_54 : zx_tv zm_54 = true := by decide +kernel
theorem zt_55 : zx_tv zm_55 = true := by decide +kernel
theorem zt_56 : zx_tv zm_56 = true := by decide +kernel
theorem zt_57 : zx_tv zm_57 = true := by decide +kernel
theorem zt_58 : zx_tv zm_58 = true := by decide +kernel
theorem zt_59 : zx_tv zm_59 = true := by decide +kernel
theorem zt_60 : zx_tv zm_60 = true := by decide +kernel
theorem zt_61 : zx_tv zm_61 = true := by decide +kernel
theorem zt_62 : zx_tv zm_62 = true := by decide +kernel
theorem zt_63 : zx_tv zm_63 = true := by decide +kernel
theorem zt_64 : zx_tv zm_64 = true := by decide +kernel
theorem zt_65 : zx_tv zm_65 = true := by decide +kernel
theorem zt_66 : zx_tv zm_66 = true := by decide +kernel
theorem zt_67 : zx_tv zm_67 = true := by decide +kernel
theorem zt_68 : zx_tv zm_68 = true := by decide +kernel
theorem zt_69 : zx_tv zm_69 = true := by decide +kernel
theorem zt_70 : zx_tv zm_70 = true := by decide +kernel
theorem zt_71 : zx_tv zm_71 = true := by decide +kernel
theorem zt_72 : zx_tv zm_72 = true := by decide +kernel
theorem zt_73 : zx_tv zm_73 = true := by decide +kernel
theorem zt_74 : zx_tv zm_74 = true := by decide +kernel
theorem zt_75 : zx_tv zm_75 = true := by decide +kernel
theorem zt_76 : zx_tv zm_76 = true := by decide +kernel
theorem zt_77 : zx_tv zm_77 = true := by decide +kernel
theorem zt_78 : zx_tv zm_78 = true := by decide +kernel
theorem zt_79 : zx_tv zm_79 = true := by decide +kernel
theorem zt_80 : zx_tv zm_80 = true := by decide +kernel
theorem zt_81 : zx_tv zm_81 = true := by decide +kernel
theorem zt_82 : zx_tv zm_82 = true := by decide +kernel
theorem zt_83 : zx_tv zm_83 = true := by decide +kernel
theorem zt_84 : zx_tv zm_84 = true := by decide +kernel
theorem zt_85 : zx_tv zm_85 = true := by decide +kernel
theorem zt_86 : zx_tv zm_86 = true := by decide +kernel
theorem zt_87 : zx_tv zm_87 = true := by decide +kernel
theorem zt_88 : zx_tv zm_88 = true := by decide +kernel
theorem zt_89 : zx_tv zm_89 = true := by decide +kernel
theorem zt_90 : zx_tv zm_90 = true := by decide +kernel
theorem zt_91 : zx_tv zm_91 = true := by decide +kernel
theorem zt_92 : zx_tv zm_92 = true := by decide +kernel
theorem zt_93 : zx_tv zm_93 = true := by decide +kernel
theorem zt_94 : zx_tv zm_94 = true := by decide +kernel
theorem zt_95 : zx_tv zm_95 = true := by decide +kernel
theorem zt_96 : zx_tv zm_96 = true := by decide +kernel
theorem zt_97 : zx_tv zm_97 = true := by decide +kernel
theorem zt_98 : zx_tv zm_98 = true := by decide +kernel
theorem zt_99 : zx_tv zm_99 = true := by decide +kernel
theorem zt_100 : zx_tv zm_100 = true := by decide +kernel
theorem zt_101 : zx_tv zm_101 = true := by decide +kernel
theorem zt_102 : zx_tv zm_102 = true := by decide +kernel
theorem zt_103 : zx_tv zm_103 = true := by decide +kernel
theorem zt_104 : zx_tv zm_104 = true := by decide +kernel
theorem zt_105 : zx_tv zm_105 = true := by decide +kernel
theorem zt_106 : zx_tv zm_106 = true := by decide +kernel
theorem zt_107 : zx_tv zm_107 = true := by decide +kernel
theorem zt_108 : zx_tv zm_108 = true := by decide +kernel
theorem zt_109 : zx_tv zm_109 = true := by decide +kernel
theorem zt_110 : zx_tv zm_110 = true := by decide +kernel
theorem zt_111 : zx_tv zm_111 = true := by decide +kernel
theorem zt_112 : zx_tv zm_112 = true := by decide +kernel
theorem zt_113 : zx_tv zm_113 = true := by decide +kernel
theorem zt_114 : zx_tv zm_114 = true := by decide +kernel
theorem zt_115 : zx_tv zm_115 = true := by decide +kernel
theorem zt_116 : zx_tv zm_116 = true := by decide +kernel
theorem zt_117 : zx_tv zm_117 = true := by decide +kernel
theorem zt_118 : zx_tv zm_118 = true := by decide +kernel
theorem zt_119 : zx_tv zm_119 = true := by decide +kernel
theorem zt_120 : zx_tv zm_120 = true := by decide +kernel
theorem zt_121 : zx_tv zm_121 = true := by decide +kernel
theorem zt_122 : zx_tv zm_122 = true := by decide +kernel
theorem zt_123 : zx_tv zm_123 = true := by decide +kernel
theorem zt_124 : zx_tv zm_124 = true := by decide +kernel
theorem zt_125 : zx_tv zm_125 = true := by decide +kernel
theorem zt_126 : zx_tv zm_126 = true := by decide +kernel
theorem zt_127 : zx_tv zm_127 = true := by decide +kernel
theorem zt_128 : zx_tv zm_128 = true := by decide +kernel
theorem zt_129 : zx_tv zm_129 = true := by decide +kernel
theorem zt_130 : zx_tv zm_130 = true := by decide +kernel
theorem zt_131 : zx_tv zm_131 = true := by decide +kernel
theorem zt_132 : zx_tv zm_132 = true := by decide +kernel
theorem zt_133 : zx_tv zm_133 = true := by decide +kernel
theorem zt_134 : zx_tv zm_134 = true := by decide +kernel
theorem zt_135 : zx_tv zm_135 = true := by decide +kernel
theorem zt_136 : zx_tv zm_136 = true := by decide +kernel
theorem zt_137 : zx_tv zm_137 = true := by decide +kernel
theorem zt_138 : zx_tv zm_138 = true := by decide +kernel
theorem zt_139 : zx_tv zm_139 = true := by decide +kernel
theorem zt_140 : zx_tv zm_140 = true := by decide +kernel
theorem zt_141 : zx_tv zm_141 = true := by decide +kernel
theorem zt_142 : zx_tv zm_142 = true := by decide +kernel
theorem zt_143 : zx_tv zm_143 = true := by decide +kernel
theorem zt_144 : zx_tv zm_144 = true := by decide +kernel
theorem zt_145 : zx_tv zm_145 = true := by decide +kernel
theorem zt_146 : zx_tv zm_146 = true := by decide +kernel
theorem zt_147 : zx_tv zm_147 = true := by decide +kernel
theorem zt_148 : zx_tv zm_148 = true := by decide +kernel
theorem zt_149 : zx_tv zm_149 = true := by decide +kernel
theorem zt_150 : zx_tv zm_150 = true := by decide +kernel
theorem zt_151 : zx_tv zm_151 = true := by decide +kernel
theorem zt_152 : zx_tv zm_152 = true := by decide +kernel
theorem zt_153 : zx_tv zm_153 = true := by decide +kernel
theorem zt_154 : zx_tv zm_154 = true := by decide +kernel
theorem zt_155 : zx_tv zm_155 = true := by decide +kernel
theorem zt_156 : zx_tv zm_156 = true := by decide +kernel
theorem zt_157 : zx_tv zm_157 = true := by decide +kernel
theorem zt_158 : zx_tv zm_158 = true := by decide +kernel
theorem zt_159 : zx_tv zm_159 = true := by decide +kernel
theorem zt_160 : zx_tv zm_160 = true := by decide +kernel
theorem zt_161 : zx_tv zm_161 = true := by decide +kernel
theorem zt_162 : zx_tv zm_162 = true := by decide +kernel
theorem zt_163 : zx_tv zm_163 = true := by decide +kernel
theorem zt_164 : zx_tv zm_164 = true := by decide +kernel
theorem zt_165 : zx_tv zm_165 = true := by decide +kernel
theorem zt_166 : zx_tv zm_166 = true := by decide +kernel
theorem zt_167 : zx_tv zm_167 = true := by decide +kernel
theorem zt_168 : zx_tv zm_168 = true := by decide +kernel
theorem zt_169 : zx_tv zm_169 = true := by decide +kernel
theorem zt_170 : zx_tv zm_170 = true := by decide +kernel
theorem zt_171 : zx_tv zm_171 = true := by decide +kernel
theorem zt_172 : zx_tv zm_172 = true := by decide +kernel
theorem zt_173 : zx_tv zm_173 = true := by decide +kernel
theorem zt_174 : zx_tv zm_174 = true := by decide +kernel
theorem zt_175 : zx_tv zm_175 = true := by decide +kernel
theorem zt_176 : zx_tv zm_176 = true := by decide +kernel
theorem zt_177 : zx_tv zm_177 = true := by decide +kernel
theorem zt_178 : zx_tv zm_178 = true := by decide +kernel
theorem zt_179 : zx_tv zm_179 = true := by decide +kernel
theorem zt_180 : zx_tv zm_180 = true := by decide +kernel
theorem zt_181 : zx_tv zm_181 = true := by decide +kernel
theorem zt_182 : zx_tv zm_182 = true := by decide +kernel
theorem zt_183 : zx_tv zm_183 = true := by decide +kernel
theorem zt_184 : zx_tv zm_184 = true := by decide +kernel
theorem zt_185 : zx_tv zm_185 = true := by decide +kernel
theorem zt_186 : zx_tv zm_186 = true := by decide +kernel
theorem zt_187 : zx_tv zm_187 = true := by decide +kernel
theorem zt_188 : zx_tv zm_188 = true := by decide +kernel
theorem zt_189 : zx_tv zm_189 = true := by decide +kernel
theorem zt_190 : zx_tv zm_190 = true := by decide +kernel
theorem zt_191 : zx_tv zm_191 = true := by decide +kernel
theorem zt_192 : zx_tv zm_192 = true := by decide +kernel
theorem zt_193 : zx_tv zm_193 = true := by decide +kernel
theorem zt_194 : zx_tv zm_194 = true := by decide +kernel
theorem zt_195 : zx_tv zm_195 = true := by decide +kernel
theorem zt_196 : zx_tv zm_196 = true := by decide +kernel
theorem zt_197 : zx_tv zm_197 = true := by decide +kernel
theorem zt_198 : zx_tv zm_198 = true := by decide +kernel
theorem zt_199 : zx_tv zm_199 = true := by decide +kernel
theorem zt_200 : zx_tv zm_200 = true := by decide +kernel
theorem zt_201 : zx_tv zm_201 = true := by decide +kernel
theorem zt_202 : zx_tv zm_202 = true := by decide +kernel
theorem zt_203 : zx_tv zm_203 = true := by decide +kernel
theorem zt_204 : zx_tv zm_204 = true := by decide +kernel
theorem zt_205 : zx_tv zm_205 = true := by decide +kernel
theorem zt_206 : zx_tv zm_206 = true := by decide +kernel
theorem zt_207 : zx_tv zm_207 = true := by decide +kernel
theorem zt_208 : zx_tv zm_208 = true := by decide +kernel
theorem zt_209 : zx_tv zm_209 = true := by decide +kernel
theorem zt_210 : zx_tv zm_210 = true := by decide +kernel
theorem zt_211 : zx_tv zm_211 = true := by decide +kernel
theorem zt_212 : zx_tv zm_212 = true := by decide +kernel
theorem zt_213 : zx_tv zm_213 = true := by decide +kernel
theorem zt_214 : zx_tv zm_214 = true := by decide +kernel
theorem zt_215 : zx_tv zm_215 = true := by decide +kernel
theorem zt_216 : zx_tv zm_216 = true := by decide +kernel
theorem zt_217 : zx_tv zm_217 = true := by decide +kernel
theorem zt_218 : zx_tv zm_218 = true := by decide +kernel
theorem zt_219 : zx_tv zm_219 = true := by decide +kernel
theorem zt_220 : zx_tv zm_220 = true := by decide +kernel
theorem zt_221 : zx_tv zm_221 = true := by decide +kernel
theorem zt_222 : zx_tv zm_222 = true := by decide +kernel
theorem zt_223 : zx_tv zm_223 = true := by decide +kernel
theorem zt_224 : zx_tv zm_224 = true := by decide +kernel
theorem zt_225 : zx_tv zm_225 = true := by decide +kernel
theorem zt_226 : zx_tv zm_226 = true := by decide +kernel
theorem zt_227 : zx_tv zm_227 = true := by decide +kernel
theorem zt_228 : zx_tv zm_228 = true := by decide +kernel
theorem zt_229 : zx_tv zm_229 = true := by decide +kernel
theorem zt_230 : zx_tv zm_230 = true := by decide +kernel
theorem zt_231 : zx_tv zm_231 = true := by decide +kernel
theorem zt_232 : zx_tv zm_232 = true := by decide +kernel
theorem zt_233 : zx_tv zm_233 = true := by decide +kernel
theorem zt_234 : zx_tv zm_234 = true := by decide +kernel
theorem zt_235 : zx_tv zm_235 = true := by decide +kernel
theorem zt_236 : zx_tv zm_236 = true := by decide +kernel
theorem zt_237 : zx_tv zm_237 = true := by decide +kernel
theorem zt_238 : zx_tv zm_238 = true := by decide +kernel
theorem zt_239 : zx_tv zm_239 = true := by decide +kernel
theorem zt_240 : zx_tv zm_240 = true := by decide +kernel
theorem zt_241 : zx_tv zm_241 = true := by decide +kernel
theorem zt_242 : zx_tv zm_242 = true := by decide +kernel
theorem zt_243 : zx_tv zm_243 = true := by decide +kernel
theorem zt_244 : zx_tv zm_244 = true := by decide +kernel
theorem zt_245 : zx_tv zm_245 = true := by decide +kernel
theorem zt_246 : zx_tv zm_246 = true := by decide +kernel
theorem zt_247 : zx_tv zm_247 = true := by decide +kernel
theorem zt_248 : zx_tv zm_248 = true := by decide +kernel
theorem zt_249 : zx_tv zm_249 = true := by decide +kernel
theorem zt_250 : zx_tv zm_250 = true := by decide +kernel
theorem zt_251 : zx_tv zm_251 = true := by decide +kernel
theorem zt_252 : zx_tv zm_252 = true := by decide +kernel
theorem zt_253 : zx_tv zm_253 = true := by decide +kernel
theorem zt_254 : zx_tv zm_254 = true := by decide +kernel
theorem zt_255 : zx_tv zm_255 = true := by decide +kernel
theorem zt_256 : zx_tv zm_256 = true := by decide +kernel
theorem zt_257 : zx_tv zm_257 = true := by decide +kernel
theorem zt_258 : zx_tv zm_258 = true := by decide +kernel
theorem zt_259 : zx_tv zm_259 = true := by decide +kernel
theorem zt_260 : zx_tv zm_260 = true := by decide +kernel
theorem zt_261 : zx_tv zm_261 = true := by decide +kernel
theorem zt_262 : zx_tv zm_262 = true := by decide +kernel
theorem zt_263 : zx_tv zm_263 = true := by decide +kernel
theorem zt_264 : zx_tv zm_264 = true := by decide +kernel
theorem zt_265 : zx_tv zm_265 = true := by decide +kernel
theorem zt_266 : zx_tv zm_266 = true := by decide +kernel
theorem zt_267 : zx_tv zm_267 = true := by decide +kernel
theorem zt_268 : zx_tv zm_268 = true := by decide +kernel
theorem zt_269 : zx_tv zm_269 = true := by decide +kernel
theorem zt_270 : zx_tv zm_270 = true := by decide +kernel
theorem zt_271 : zx_tv zm_271 = true := by decide +kernel
theorem zt_272 : zx_tv zm_272 = true := by decide +kernel
theorem zt_273 : zx_tv zm_273 = true := by decide +kernel
theorem zt_274 : zx_tv zm_274 = true := by decide +kernel
theorem zt_275 : zx_tv zm_275 = true := by decide +kernel
theorem zt_276 : zx_tv zm_276 = true := by decide +kernel
theorem zt_277 : zx_tv zm_277 = true := by decide +kernel
theorem zt_278 : zx_tv zm_278 = true := by decide +kernel
theorem zt_279 : zx_tv zm_279 = true := by decide +kernel
theorem zt_280 : zx_tv zm_280 = true := by decide +kernel
theorem zt_281 : zx_tv zm_281 = true := by decide +kernel
theorem zt_282 : zx_tv zm_282 = true := by decide +kernel
theorem zt_283 : zx_tv zm_283 = true := by decide +kernel
theorem zt_284 : zx_tv zm_284 = true := by decide +kernel
theorem zt_285 : zx_tv zm_285 = true := by decide +kernel
theorem zt_286 : zx_tv zm_286 = true := by decide +kernel
theorem zt_287 : zx_tv zm_287 = true := by decide +kernel
theorem zt_288 : zx_tv zm_288 = true := by decide +kernel
theorem zt_289 : zx_tv zm_289 = true := by decide +kernel
theorem zt_290 : zx_tv zm_290 = true := by decide +kernel
theorem zt_291 : zx_tv zm_291 = true := by decide +kernel
theorem zt_292 : zx_tv zm_292 = true := by decide +kernel
theorem zt_293 : zx_tv zm_293 = true := by decide +kernel
theorem zt_294 : zx_tv zm_294 = true := by decide +kernel
theorem zt_295 : zx_tv zm_295 = true := by decide +kernel
theorem zt_296 : zx_tv zm_296 = true := by decide +kernel
theorem zt_297 : zx_tv zm_297 = true := by decide +kernel
theorem zt_298 : zx_tv zm_298 = true := by decide +kernel
theorem zt_299 : zx_tv zm_299 = true := by decide +kernel
theorem zt_300 : zx_tv zm_300 = true := by decide +kernel
theorem zt_301 : zx_tv zm_301 = true := by decide +kernel
theorem zt_302 : zx_tv zm_302 = true := by decide +kernel
theorem zt_303 : zx_tv zm_303 = true := by decide +kernel
theorem zt_304 : zx_tv zm_304 = true := by decide +kernel
theorem zt_305 : zx_tv zm_305 = true := by decide +kernel
theorem zt_306 : zx_tv zm_306 = true := by decide +kernel
theorem zt_307 : zx_tv zm_307 = true := by decide +kernel
theorem zt_308 : zx_tv zm_308 = true := by decide +kernel
theorem zt_309 : zx_tv zm_309 = true := by decide +kernel
theorem zt_310 : zx_tv zm_310 = true := by decide +kernel
theorem zt_311 : zx_tv zm_311 = true := by decide +kernel
theorem zt_312 : zx_tv zm_312 = true := by decide +kernel
theorem zt_313 : zx_tv zm_313 = true := by decide +kernel
theorem zt_314 : zx_tv zm_314 = true := by decide +kernel
theorem zt_315 : zx_tv zm_315 = true := by decide +kernel
theorem zt_316 : zx_tv zm_316 = true := by decide +kernel
theorem zt_317 : zx_tv zm_317 = true := by decide +kernel
theorem zt_318 : zx_tv zm_318 = true := by decide +kernel
theorem zt_319 : zx_tv zm_319 = true := by decide +kernel
theorem zt_320 : zx_tv zm_320 = true := by decide +kernel
theorem zt_321 : zx_tv zm_321 = true := by decide +kernel
theorem zt_322 : zx_tv zm_322 = true := by decide +kernel
theorem zt_323 : zx_tv zm_323 = true := by decide +kernel
theorem zt_324 : zx_tv zm_324 = true := by decide +kernel
theorem zt_325 : zx_tv zm_325 = true := by decide +kernel
theorem zt_326 : zx_tv zm_326 = true := by decide +kernel
theorem zt_327 : zx_tv zm_327 = true := by decide +kernel
theorem zt_328 : zx_tv zm_328 = true := by decide +kernel
theorem zt_329 : zx_tv zm_329 = true := by decide +kernel
theorem zt_330 : zx_tv zm_330 = true := by decide +kernel
theorem zt_331 : zx_tv zm_331 = true := by decide +kernel
theorem zt_332 : zx_tv zm_332 = true := by decide +kernel
theorem zt_333 : zx_tv zm_333 = true := by decide +kernel
theorem zt_334 : zx_tv zm_334 = true := by decide +kernel
theorem zt_335 : zx_tv zm_335 = true := by decide +kernel
theorem zt_336 : zx_tv zm_336 = true := by decide +kernel
theorem zt_337 : zx_tv zm_337 = true := by decide +kernel
theorem zt_338 : zx_tv zm_338 = true := by decide +kernel
theorem zt_339 : zx_tv zm_339 = true := by decide +kernel
theorem zt_340 : zx_tv zm_340 = true := by decide +kernel
theorem zt_341 : zx_tv zm_341 = true := by decide +kernel
theorem zt_342 : zx_tv zm_342 = true := by decide +kernel
theorem zt_zc_L_law_0 : (zc_L_law_0.all (fun b => b.2.all (zx_vb zm_law))) = true := by decide +kernel
theorem zt_zc_L_law_1 : (zc_L_law_1.all (fun b => b.2.all (zx_vb zm_law))) = true := by decide +kernel
theorem zt_zc_L_law_2 : (zc_L_law_2.all (fun b => b.2.all (zx_vb zm_law))) = true := by decide +kernel
theorem zt_zc_L_law_3 : (zc_L_law_3.all (fun b => b.2.all (zx_vb zm_law))) = true := by decide +kernel
theorem zt_zc_L_law_4 : (zc_L_law_4.all (fun b => b.2.all (zx_vb zm_law))) = true := by decide +kernel
theorem zt_zc_L_law_5 : (zc_L_law_5.all (fun b => b.2.all (zx_vb zm_law))) = true := by decide +kernel
theorem zt_zc_L_law_6 : (zc_L_law_6.all (fun b => b.2.all (zx_vb zm_law))) = true := by decide +kernel
theorem zt_zc_L_law_7 : (zc_L_law_7.all (fun b => b.2.all (zx_vb zm_law))) = true := by decide +kernel
theorem zt_zc_L_law_8 : (zc_L_law_8.all (fun b => b.2.all (zx_vb zm_law))) = true := by decide +kernel
theorem zt_zc_L_law_9 : (zc_L_law_9.all (fun b => b.2.all (zx_vb zm_law))) = true := by decide +kernel
theorem zt_zc_L_law_10 : (zc_L_law_10.all (fun b => b.2.all (zx_vb zm_law))) = true := by decide +kernel
theorem zt_zc_L_law_11 : (zc_L_law_11.all (fun b => b.2.all (zx_vb zm_law))) = true := by decide +kernel
theorem zt_law : zx_tv zm_law = true := by
  show (zc_L_law.all (fun b => b.2.all (zx_vb zm_law))) = true
  unfold zc_L_law
  simp only [List.all_append, zt_zc_L_law_0, zt_zc_L_law_1, zt_zc_L_law_2, zt_zc_L_law_3, zt_zc_L_law_4, zt_zc_L_law_5, zt_zc_L_law_6, zt_zc_L_law_7, zt_zc_L_law_8, zt_zc_L_law_9, zt_zc_L_law_10, zt_zc_L_law_11, Bool.and_self, Bool.true_and, Bool.and_true]
theorem zu_0 : ∀ m ∈ [zm_0, zm_1, zm_2, zm_3, zm_4, zm_5, zm_6, zm_7, zm_8, zm_9, zm_10, zm_11, zm_12, zm_13, zm_14, zm_15], zx_tv m = true := by
  intro m h
  simp only [List.mem_cons, List.not_mem_nil, or_false] at h
  rcases h with rfl | rfl | rfl | rfl | rfl | rfl | rfl | rfl | rfl | rfl | rfl | rfl | rfl | rfl | rfl | rfl
  · exact zt_0
  · exact zt_1
  · exact zt_2
  · exact zt_3
  · exact zt_4
  · exact zt_5
  · exact zt_6
  · exact zt_7
  · exact zt_8
  · exact zt_9
  · exact zt_10
  · exact zt_11
  · exact zt_12
  · exact zt_13
  · exact zt_14
  · exact zt_15
theorem zu_1 : ∀ m ∈ [zm_16, zm_17, zm_18, zm_19, zm_20, zm_21, zm_22, zm_23, zm_24, zm_25, zm_26, zm_27, zm_28, zm_29, zm_30, zm_31], zx_tv m = true := by
  intro m h
  simp only [List.mem_cons, List.not_mem_nil, or_false] at h
  rcases h with rfl | rfl | rfl | rfl | rfl | rfl | rfl | rfl | rfl | rfl | rfl | rfl | rfl | rfl | rfl | rfl
  · exact zt_16
  · exact zt_17
  · exact zt_18
  · exact zt_19
  · exact zt_20
  · exact zt_21
  · exact zt_22
  · exact zt_23
  · exact zt_24
  · exact zt_25
  · exact zt_26
  · exact zt_27
  · exact zt_28
  · exact zt_29
  · exact zt_30
  · exact zt_31
theorem zu_2 : ∀ m ∈ [zm_32, zm_33, zm_34, zm_35, zm_36, zm_37, zm_38, zm_39, zm_40, zm_41, zm_42, zm_43, zm_44, zm_45, zm_46, zm_47], zx_tv m = true := by
  intro m h
  simp only [List.mem_cons, List.not_mem_nil, or_false] at h
  rcases h with rfl | rfl | rfl | rfl | rfl | rfl | rfl | rfl | rfl | rfl | rfl | rfl | rfl | rfl | rfl | rfl
  · exact zt_32
  · exact zt_33
  · exact zt_34
  · exact zt_35
  · exact zt_36
  · exact zt_37
  · exact zt_38
  · exact zt_39
  · exact zt_40
  · exact zt_41
  · exact zt_42
  · exact zt_43
  · exact zt_44
  · exact zt_45
  · exact zt_46
  · exact zt_47
theorem zu_3 : ∀ m ∈ [zm_48, zm_49, zm_50, zm_51, zm_52, zm_53, zm_54, zm_55, zm_56, zm_57, zm_58, zm_59, zm_60, zm_61, zm_62, zm_63], zx_tv m = true := by
  intro m h
  simp only [List.mem_cons, List.not_mem_nil, or_false] at h
  rcases h with rfl | rfl | rfl | rfl | rfl | rfl | rfl | rfl | rfl | rfl | rfl | rfl | rfl | rfl | rfl | rfl
  · exact zt_48
  · exact zt_49
  · exact zt_50
  · exact zt_51
  · exact zt_52
  · exact zt_53
  · exact zt_54
  · exact zt_55
  · exact zt_56
  · exact zt_57
  · exact zt_58
  · exact zt_59
  · exact zt_60
  · exact zt_61
  · exact zt_62
  · exact zt_63
theorem zu_4 : ∀ m ∈ [zm_64, zm_65, zm_66, zm_67, zm_68, zm_69, zm_70, zm_71, zm_72, zm_73, zm_74, zm_75, zm_76, zm_77, zm_78, zm_79], zx_tv m = true := by
  intro m h
  simp only [List.mem_cons, List.not_mem_nil, or_false] at h
  rcases h with rfl | rfl | rfl | rfl | rfl | rfl | rfl | rfl | rfl | rfl | rfl | rfl | rfl | rfl | rfl | rfl
  · exact zt_64
  · exact zt_65
  · exact zt_66
  · exact zt_67
  · exact zt_68
  · exact zt_69
  · exact zt_70
  · exact zt_71
  · exact zt_72
  · exact zt_73
  · exact zt_74
  · exact zt_75
  · exact zt_76
  · exact zt_77
  · exact zt_78
  · exact zt_79
theorem zu_5 : ∀ m ∈ [zm_80, zm_81, zm_82, zm_83, zm_84, zm_85, zm_86, zm_87, zm_88, zm_89, zm_90, zm_91, zm_92, zm_93, zm_94, zm_95], zx_tv m = true := by
  intro m h
  simp only [List.mem_cons, List.not_mem_nil, or_false] at h
  rcases h with rfl | rfl | rfl | rfl | rfl | rfl | rfl | rfl | rfl | rfl | rfl | rfl | rfl | rfl | rfl | rfl
  · exact zt_80
  · exact zt_81
  · exact zt_82
  · exact zt_83
  · exact zt_84
  · exact zt_85
  · exact zt_86
  · exact zt_87
  · exact zt_88
  · exact zt_89
  · exact zt_90
  · exact zt_91
  · exact zt_92
  · exact zt_93
  · exact zt_94
  · exact zt_95
theorem zu_6 : ∀ m ∈ [zm_96, zm_97, zm_98, zm_99, zm_100, zm_101, zm_102, zm_103, zm_104, zm_105, zm_106, zm_107, zm_108, zm_109, zm_110, zm_111], zx_tv m = true := by
  intro m h
  simp only [List.mem_cons, List.not_mem_nil, or_false] at h
  rcases h with rfl | rfl | rfl | rfl | rfl | rfl | rfl | rfl | rfl | rfl | rfl | rfl | rfl | rfl | rfl | rfl
  · exact zt_96
  · exact zt_97
  · exact zt_98
  · exact zt_99
  · exact zt_100
  · exact zt_101
  · exact zt_102
  · exact zt_103
  · exact zt_104
  · exact zt_105
  · exact zt_106
  · exact zt_107
  · exact zt_108
  · exact zt_109
  · exact zt_110
  · exact zt_111
theorem zu_7 : ∀ m ∈ [zm_112, zm_113, zm_114, zm_115, zm_116, zm_117, zm_118, zm_119, zm_120, zm_121, zm_122, zm_123, zm_124, zm_125, zm_126, zm_127], zx_tv m = true := by
  intro m h
  simp only [List.mem_cons, List.not_mem_nil, or_false] at h
  rcases h with rfl | rfl | rfl | rfl | rfl | rfl | rfl | rfl | rfl | rfl | rfl | rfl | rfl | rfl | rfl | rfl
  · exact zt_112
  · exact zt_113
  · exact zt_114
  · exact zt_115
  · exact zt_116
  · exact zt_117
  · exact zt_118
  · exact zt_119
  · exact zt_120
  · exact zt_121
  · exact zt_122
  · exact zt_123
  · exact zt_124
  · exact zt_125
  · exact zt_126
  · exact zt_127
theorem zu_8 : ∀ m ∈ [zm_128, zm_129, zm_130, zm_131, zm_132, zm_133, zm_134, zm_135, zm_136, zm_137, zm_138, zm_139, zm_140, zm_141, zm_142, zm_143], zx_tv m = true := by
  intro m h
  simp only [List.mem_cons, List.not_mem_nil, or_false] at h
  rcases h with rfl | rfl | rfl | rfl | rfl | rfl | rfl | rfl | rfl | rfl | rfl | rfl | rfl | rfl | rfl | rfl
  · exact zt_128
  · exact zt_129
  · exact zt_130
  · exact zt_131
  · exact zt_132
  · exact zt_133
  · exact zt_134
  · exact zt_135
  · exact zt_136
  · exact zt_137
  · exact zt_138
  · exact zt_139
  · exact zt_140
  · exact zt_141
  · exact zt_142
  · exact zt_143
theorem zu_9 : ∀ m ∈ [zm_144, zm_145, zm_146, zm_147, zm_148, zm_149, zm_150, zm_151, zm_152, zm_153, zm_154, zm_155, zm_156, zm_157, zm_158, zm_159], zx_tv m = true := by
  intro m h
  simp only [List.mem_cons, List.not_mem_nil, or_false] at h
  rcases h with rfl | rfl | rfl | rfl | rfl | rfl | rfl | rfl | rfl | rfl | rfl | rfl | rfl | rfl | rfl | rfl
  · exact zt_144
  · exact zt_145
  · exact zt_146
  · exact zt_147
  · exact zt_148
  · exact zt_149
  · exact zt_150
  · exact zt_151
  · exact zt_152
  · exact zt_153
  · exact zt_154
  · exact zt_155
  · exact zt_156
  · exact zt_157
  · exact zt_158
  · exact zt_159
theorem zu_10 : ∀ m ∈ [zm_160, zm_161, zm_162, zm_163, zm_164, zm_165, zm_166, zm_167, zm_168, zm_169, zm_170, zm_171, zm_172, zm_173, zm_174, zm_175], zx_tv m = true := by
  intro m h
  simp only [List.mem_cons, List.not_mem_nil, or_false] at h
  rcases h with rfl | rfl | rfl | rfl | rfl | rfl | rfl | rfl | rfl | rfl | rfl | rfl | rfl | rfl | rfl | rfl
  · exact zt_160
  · exact zt_161
  · exact zt_162
  · exact zt_163
  · exact zt_164
  · exact zt_165
  · exact zt_166
  · exact zt_167
  · exact zt_168
  · exact zt_169
  · exact zt_170
  · exact zt_171
  · exact zt_172
  · exact zt_173
  · exact zt_174
  · exact zt_175
theorem zu_11 : ∀ m ∈ [zm_176, zm_177, zm_178, zm_179, zm_180, zm_181, zm_182, zm_183, zm_184, zm_185, zm_186, zm_187, zm_188, zm_189, zm_190, zm_191], zx_tv m = true := by
  intro m h
  simp only [List.mem_cons, List.not_mem_nil, or_false] at h
  rcases h with rfl | rfl | rfl | rfl | rfl | rfl | rfl | rfl | rfl | rfl | rfl | rfl | rfl | rfl | rfl | rfl
  · exact zt_176
  · exact zt_177
  · exact zt_178
  · exact zt_179
  · exact zt_180
  · exact zt_181
  · exact zt_182
  · exact zt_183
  · exact zt_184
  · exact zt_185
  · exact zt_186
  · exact zt_187
  · exact zt_188
  · exact zt_189
  · exact zt_190
  · exact zt_191
theorem zu_12 : ∀ m ∈ [zm_192, zm_193, zm_194, zm_195, zm_196, zm_197, zm_198, zm_199, zm_200, zm_201, zm_202, zm_203, zm_204, zm_205, zm_206, zm_207], zx_tv m = true := by
  intro m h
  simp only [List.mem_cons, List.not_mem_nil, or_false] at h
  rcases h with rfl | rfl | rfl | rfl | rfl | rfl | rfl | rfl | rfl | rfl | rfl | rfl | rfl | rfl | rfl | rfl
  · exact zt_192
  · exact zt_193
  · exact zt_194
  · exact zt_195
  · exact zt_196
  · exact zt_197
  · exact zt_198
  · exact zt_199
  · exact zt_200
  · exact zt_201
  · exact zt_202
  · exact zt_203
  · exact zt_204
  · exact zt_205
  · exact zt_206
  · exact zt_207
theorem zu_13 : ∀ m ∈ [zm_208, zm_209, zm_210, zm_211, zm_212, zm_213, zm_214, zm_215, zm_216, zm_217, zm_218, zm_219, zm_220, zm_221, zm_222, zm_223], zx_tv m = true := by
  intro m h
  simp only [List.mem_cons, List.not_mem_nil, or_false] at h
  rcases h with rfl | rfl | rfl | rfl | rfl | rfl | rfl | rfl | rfl | rfl | rfl | rfl | rfl | rfl | rfl | rfl
  · exact zt_208
  · exact zt_209
  · exact zt_210
  · exact zt_211
  · exact zt_212
  · exact zt_213
  · exact zt_214
  · exact zt_215
  · exact zt_216
  · exact zt_217
  · exact zt_218
  · exact zt_219
  · exact zt_220
  · exact zt_221
  · exact zt_222
  · exact zt_223
theorem zu_14 : ∀ m ∈ [zm_224, zm_225, zm_226, zm_227, zm_228, zm_229, zm_230, zm_231, zm_232, zm_233, zm_234, zm_235, zm_236, zm_237, zm_238, zm_239], zx_tv m = true := by
  intro m h
  simp only [List.mem_cons, List.not_mem_nil, or_false] at h
  rcases h with rfl | rfl | rfl | rfl | rfl | rfl | rfl | rfl | rfl | rfl | rfl | rfl | rfl | rfl | rfl | rfl
  · exact zt_224
  · exact zt_225
  · exact zt_226
  · exact zt_227
  · exact zt_228
  · exact zt_229
  · exact zt_230
  · exact zt_231
  · exact zt_232
  · exact zt_233
  · exact zt_234
  · exact zt_235
  · exact zt_236
  · exact zt_237
  · exact zt_238
  · exact zt_239
theorem zu_15 : ∀ m ∈ [zm_240, zm_241, zm_242, zm_243, zm_244, zm_245, zm_246, zm_247, zm_248, zm_249, zm_250, zm_251, zm_252, zm_253, zm_254, zm_255], zx_tv m = true := by
  intro m h
  simp only [List.mem_cons, List.not_mem_nil, or_false] at h
  rcases h with rfl | rfl | rfl | rfl | rfl | rfl | rfl | rfl | rfl | rfl | rfl | rfl | rfl | rfl | rfl | rfl
  · exact zt_240
  · exact zt_241
  · exact zt_242
  · exact zt_243
  · exact zt_244
  · exact zt_245
  · exact zt_246
  · exact zt_247
  · exact zt_248
  · exact zt_249
  · exact zt_250
  · exact zt_251
  · exact zt_252
  · exact zt_253
  · exact zt_254
  · exact zt_255
theorem zu_16 : ∀ m ∈ [zm_256, zm_257, zm_258, zm_259, zm_260, zm_261, zm_262, zm_263, zm_264, zm_265, zm_266, zm_267, zm_268, zm_269, zm_270, zm_271], zx_tv m = true := by
  intro m h
  simp only [List.mem_cons, List.not_mem_nil, or_false] at h
  rcases h with rfl | rfl | rfl | rfl | rfl | rfl | rfl | rfl | rfl | rfl | rfl | rfl | rfl | rfl | rfl | rfl
  · exact zt_256
  · exact zt_257
  · exact zt_258
  · exact zt_259
  · exact zt_260
  · exact zt_261
  · exact zt_262
  · exact zt_263
  · exact zt_264
  · exact zt_265
  · exact zt_266
  · exact zt_267
  · exact zt_268
  · exact zt_269
  · exact zt_270
  · exact zt_271
theorem zu_17 : ∀ m ∈ [zm_272, zm_273, zm_274, zm_275, zm_276, zm_277, zm_278, zm_279, zm_280, zm_281, zm_282, zm_283, zm_284, zm_285, zm_286, zm_287], zx_tv m = true := by
  intro m h
  simp only [List.mem_cons, List.not_mem_nil, or_false] at h
  rcases h with rfl | rfl | rfl | rfl | rfl | rfl | rfl | rfl | rfl | rfl | rfl | rfl | rfl | rfl | rfl | rfl
  · exact zt_272
  · exact zt_273
  · exact zt_274
  · exact zt_275
  · exact zt_276
  · exact zt_277
  · exact zt_278
  · exact zt_279
  · exact zt_280
  · exact zt_281
  · exact zt_282
  · exact zt_283
  · exact zt_284
  · exact zt_285
  · exact zt_286
  · exact zt_287
theorem zu_18 : ∀ m ∈ [zm_288, zm_289, zm_290, zm_291, zm_292, zm_293, zm_294, zm_295, zm_296, zm_297, zm_298, zm_299, zm_300, zm_301, zm_302, zm_303], zx_tv m = true := by
  intro m h
  simp only [List.mem_cons, List.not_mem_nil, or_false] at h
  rcases h with rfl | rfl | rfl | rfl | rfl | rfl | rfl | rfl | rfl | rfl | rfl | rfl | rfl | rfl | rfl | rfl
  · exact zt_288
  · exact zt_289
  · exact zt_290
  · exact zt_291
  · exact zt_292
  · exact zt_293
  · exact zt_294
  · exact zt_295
  · exact zt_296
  · exact zt_297
  · exact zt_298
  · exact zt_299
  · exact zt_300
  · exact zt_301
  · exact zt_302
  · exact zt_303
theorem zu_19 : ∀ m ∈ [zm_304, zm_305, zm_306, zm_307, zm_308, zm_309, zm_310, zm_311, zm_312, zm_313, zm_314, zm_315, zm_316, zm_317, zm_318, zm_319], zx_tv m = true := by
  intro m h
  simp only [List.mem_cons, List.not_mem_nil, or_false] at h
  rcases h with rfl | rfl | rfl | rfl | rfl | rfl | rfl | rfl | rfl | rfl | rfl | rfl | rfl | rfl | rfl | rfl
  · exact zt_304
  · exact zt_305
  · exact zt_306
  · exact zt_307
  · exact zt_308
  · exact zt_309
  · exact zt_310
  · exact zt_311
  · exact zt_312
  · exact zt_313
  · exact zt_314
  · exact zt_315
  · exact zt_316
  · exact zt_317
  · exact zt_318
  · exact zt_319
theorem zu_20 : ∀ m ∈ [zm_320, zm_321, zm_322, zm_323, zm_324, zm_325, zm_326, zm_327, zm_328, zm_329, zm_330, zm_331, zm_332, zm_333, zm_334, zm_335], zx_tv m = true := by
  intro m h
  simp only [List.mem_cons, List.not_mem_nil, or_false] at h
  rcases h with rfl | rfl | rfl | rfl | rfl | rfl | rfl | rfl | rfl | rfl | rfl | rfl | rfl | rfl | rfl | rfl
  · exact zt_320
  · exact zt_321
  · exact zt_322
  · exact zt_323
  · exact zt_324
  · exact zt_325
  · exact zt_326
  · exact zt_327
  · exact zt_328
  · exact zt_329
  · exact zt_330
  · exact zt_331
  · exact zt_332
  · exact zt_333
  · exact zt_334
  · exact zt_335
theorem zu_21 : ∀ m ∈ [zm_336, zm_337, zm_338, zm_339, zm_340, zm_341, zm_342], zx_tv m = true := by
  intro m h
  simp only [List.mem_cons, List.not_mem_nil, or_false] at h
  rcases h with rfl | rfl | rfl | rfl | rfl | rfl | rfl
  · exact zt_336
  · exact zt_337
  · exact zt_338
  · exact zt_339
  · exact zt_340
  · exact zt_341
  · exact zt_342
theorem zx_tv_ok : ∀ l ∈ zx_mt, ∀ m ∈ l, zx_tv m = true := by
  intro l h
  unfold zx_mt at h
  simp only [List.mem_cons, List.not_mem_nil, or_false] at h
  rcases h with rfl | rfl | rfl | rfl | rfl | rfl | rfl | rfl | rfl | rfl | rfl | rfl | rfl | rfl | rfl | rfl | rfl | rfl | rfl | rfl | rfl | rfl
  · exact zu_0
  · exact zu_1
  · exact zu_2
  · exact zu_3
  · exact zu_4
  · exact zu_5
  · exact zu_6
  · exact zu_7
  · exact zu_8
  · exact zu_9
  · exact zu_10
  · exact zu_11
  · exact zu_12
  · exact zu_13
  · exact zu_14
  · exact zu_15
  · exact zu_16
  · exact zu_17
  · exact zu_18
  · exact zu_19
  · exact zu_20
  · exact zu_21
