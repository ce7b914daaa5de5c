set_option maxRecDepth 100000 in
theorem wdk_140 : ∀ m ∈ ([mi_140, mi_141, mi_142, mi_143, mi_144, mi_145, mi_146, mi_147, mi_148, mi_149] : List MI), wdM m = true := List.all_eq_true.mp (by decide +kernel)
set_option maxRecDepth 100000 in
theorem wdk_150 : ∀ m ∈ ([mi_150, mi_151, mi_152, mi_153, mi_154, mi_155, mi_156, mi_157, mi_158, mi_159] : List MI), wdM m = true := List.all_eq_true.mp (by decide +kernel)
set_option maxRecDepth 100000 in
theorem wdk_160 : ∀ m ∈ ([mi_160, mi_161, mi_162, mi_163, mi_164, mi_165, mi_166, mi_167, mi_168, mi_169] : List MI), wdM m = true := List.all_eq_true.mp (by decide +kernel)
set_option maxRecDepth 100000 in
theorem wdk_170 : ∀ m ∈ ([mi_170, mi_171, mi_172, mi_173, mi_174, mi_175, mi_176, mi_177, mi_178, mi_179] : List MI), wdM m = true := List.all_eq_true.mp (by decide +kernel)
set_option maxRecDepth 100000 in
theorem wdk_180 : ∀ m ∈ ([mi_180, mi_181, mi_182, mi_183, mi_184, mi_185, mi_186, mi_187, mi_188, mi_189] : List MI), wdM m = true := List.all_eq_true.mp (by decide +kernel)
set_option maxRecDepth 100000 in
theorem wdk_190 : ∀ m ∈ ([mi_190, mi_191, mi_192, mi_193, mi_194, mi_195, mi_196, mi_197, mi_198, mi_199] : List MI), wdM m = true := List.all_eq_true.mp (by decide +kernel)
set_option maxRecDepth 100000 in
theorem wdk_200 : ∀ m ∈ ([mi_200, mi_201, mi_202, mi_203, mi_204, mi_205, mi_206, mi_207, mi_208, mi_209] : List MI), wdM m = true := List.all_eq_true.mp (by decide +kernel)
set_option maxRecDepth 100000 in
theorem wdk_210 : ∀ m ∈ ([mi_210, mi_211, mi_212, mi_213, mi_214, mi_215, mi_216, mi_217, mi_218, mi_219] : List MI), wdM m = true := List.all_eq_true.mp (by decide +kernel)
set_option maxRecDepth 100000 in
theorem wdk_220 : ∀ m ∈ ([mi_220, mi_221, mi_222, mi_223, mi_224, mi_225, mi_226, mi_227, mi_228, mi_229] : List MI), wdM m = true := List.all_eq_true.mp (by decide +kernel)
set_option maxRecDepth 100000 in
theorem wdk_230 : ∀ m ∈ ([mi_230, mi_231, mi_232, mi_233, mi_234, mi_235, mi_236, mi_237, mi_238, mi_239] : List MI), wdM m = true := List.all_eq_true.mp (by decide +kernel)
set_option maxRecDepth 100000 in
theorem wdk_240 : ∀ m ∈ ([mi_240, mi_241, mi_242, mi_243, mi_244, mi_245, mi_246, mi_247, mi_248, mi_249] : List MI), wdM m = true := List.all_eq_true.mp (by decide +kernel)
set_option maxRecDepth 100000 in
theorem wdk_250 : ∀ m ∈ ([mi_250, mi_251, mi_252, mi_253, mi_254, mi_255, mi_256, mi_257, mi_258, mi_259] : List MI), wdM m = true := List.all_eq_true.mp (by decide +kernel)
set_option maxRecDepth 100000 in
theorem wdk_260 : ∀ m ∈ ([mi_260, mi_261, mi_262, mi_263, mi_264, mi_265, mi_266, mi_267, mi_268, mi_269] : List MI), wdM m = true := List.all_eq_true.mp (by decide +kernel)
set_option maxRecDepth 100000 in
theorem wdk_270 : ∀ m ∈ ([mi_270, mi_271, mi_272, mi_273, mi_274, mi_275, mi_276, mi_277] : List MI), wdM m = true := List.all_eq_true.mp (by decide +kernel)
