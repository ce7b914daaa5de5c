set_option maxRecDepth 100000 in
theorem ck_210 : ∀ m ∈ ([mi_210, mi_211, mi_212, mi_213, mi_214, mi_215, mi_216, mi_217, mi_218, mi_219] : List MI), ckM m = true := List.all_eq_true.mp (by decide +kernel)
set_option maxRecDepth 100000 in
theorem ck_220 : ∀ m ∈ ([mi_220, mi_221, mi_222, mi_223, mi_224, mi_225, mi_226, mi_227, mi_228, mi_229] : List MI), ckM m = true := List.all_eq_true.mp (by decide +kernel)
set_option maxRecDepth 100000 in
theorem ck_230 : ∀ m ∈ ([mi_230, mi_231, mi_232, mi_233, mi_234, mi_235, mi_236, mi_237, mi_238, mi_239] : List MI), ckM m = true := List.all_eq_true.mp (by decide +kernel)
set_option maxRecDepth 100000 in
theorem ck_240 : ∀ m ∈ ([mi_240, mi_241, mi_242, mi_243, mi_244, mi_245, mi_246, mi_247, mi_248, mi_249] : List MI), ckM m = true := List.all_eq_true.mp (by decide +kernel)
set_option maxRecDepth 100000 in
theorem ck_250 : ∀ m ∈ ([mi_250, mi_251, mi_252, mi_253, mi_254, mi_255, mi_256, mi_257, mi_258, mi_259] : List MI), ckM m = true := List.all_eq_true.mp (by decide +kernel)
set_option maxRecDepth 100000 in
theorem ck_260 : ∀ m ∈ ([mi_260, mi_261, mi_262, mi_263, mi_264, mi_265, mi_266, mi_267, mi_268, mi_269] : List MI), ckM m = true := List.all_eq_true.mp (by decide +kernel)
set_option maxRecDepth 100000 in
theorem ck_270 : ∀ m ∈ ([mi_270, mi_271, mi_272, mi_273, mi_274, mi_275, mi_276, mi_277] : List MI), ckM m = true := List.all_eq_true.mp (by decide +kernel)
