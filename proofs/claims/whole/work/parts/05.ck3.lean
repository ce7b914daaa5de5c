set_option maxRecDepth 100000 in
theorem ck_140 : ∀ m ∈ ([mi_140, mi_141, mi_142, mi_143, mi_144, mi_145, mi_146, mi_147, mi_148, mi_149] : List MI), ckM m = true := List.all_eq_true.mp (by decide +kernel)
set_option maxRecDepth 100000 in
theorem ck_150 : ∀ m ∈ ([mi_150, mi_151, mi_152, mi_153, mi_154, mi_155, mi_156, mi_157, mi_158, mi_159] : List MI), ckM m = true := List.all_eq_true.mp (by decide +kernel)
set_option maxRecDepth 100000 in
theorem ck_160 : ∀ m ∈ ([mi_160, mi_161, mi_162, mi_163, mi_164, mi_165, mi_166, mi_167, mi_168, mi_169] : List MI), ckM m = true := List.all_eq_true.mp (by decide +kernel)
set_option maxRecDepth 100000 in
theorem ck_170 : ∀ m ∈ ([mi_170, mi_171, mi_172, mi_173, mi_174, mi_175, mi_176, mi_177, mi_178, mi_179] : List MI), ckM m = true := List.all_eq_true.mp (by decide +kernel)
set_option maxRecDepth 100000 in
theorem ck_180 : ∀ m ∈ ([mi_180, mi_181, mi_182, mi_183, mi_184, mi_185, mi_186, mi_187, mi_188, mi_189] : List MI), ckM m = true := List.all_eq_true.mp (by decide +kernel)
set_option maxRecDepth 100000 in
theorem ck_190 : ∀ m ∈ ([mi_190, mi_191, mi_192, mi_193, mi_194, mi_195, mi_196, mi_197, mi_198, mi_199] : List MI), ckM m = true := List.all_eq_true.mp (by decide +kernel)
set_option maxRecDepth 100000 in
theorem ck_200 : ∀ m ∈ ([mi_200, mi_201, mi_202, mi_203, mi_204, mi_205, mi_206, mi_207, mi_208, mi_209] : List MI), ckM m = true := List.all_eq_true.mp (by decide +kernel)
