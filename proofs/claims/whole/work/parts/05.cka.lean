theorem all_app {f : MI → Bool} {l1 l2 : List MI} (h1 : ∀ m ∈ l1, f m = true) (h2 : ∀ m ∈ l2, f m = true) : ∀ m ∈ l1 ++ l2, f m = true := fun m h => (List.mem_append.mp h).elim (h1 m) (h2 m)
theorem all_one {f : MI → Bool} {a : MI} (h : f a = true) : ∀ m ∈ [a], f m = true := fun m hm => by rw [List.mem_singleton.mp hm]; exact h
theorem ckm_0 : ∀ m ∈ mt_0, ckM m = true := all_app ck_0 (all_app ck_10 (all_app ck_20 (ck_30)))
theorem ckm_1 : ∀ m ∈ mt_1, ckM m = true := all_app ck_40 (all_app ck_50 (all_app ck_60 (ck_70)))
theorem ckm_2 : ∀ m ∈ mt_2, ckM m = true := all_app ck_80 (all_app ck_90 (all_app ck_100 (ck_110)))
theorem ckm_3 : ∀ m ∈ mt_3, ckM m = true := all_app ck_120 (all_app ck_130 (all_app ck_140 (ck_150)))
theorem ckm_4 : ∀ m ∈ mt_4, ckM m = true := all_app ck_160 (all_app ck_170 (all_app ck_180 (ck_190)))
theorem ckm_5 : ∀ m ∈ mt_5, ckM m = true := all_app ck_200 (all_app ck_210 (all_app ck_220 (ck_230)))
theorem ckm_6 : ∀ m ∈ mt_6, ckM m = true := all_app ck_240 (all_app ck_250 (all_app ck_260 (all_app ck_270 (all_one ck_law))))
theorem wdkm_0 : ∀ m ∈ mt_0, wdM m = true := all_app wdk_0 (all_app wdk_10 (all_app wdk_20 (wdk_30)))
theorem wdkm_1 : ∀ m ∈ mt_1, wdM m = true := all_app wdk_40 (all_app wdk_50 (all_app wdk_60 (wdk_70)))
theorem wdkm_2 : ∀ m ∈ mt_2, wdM m = true := all_app wdk_80 (all_app wdk_90 (all_app wdk_100 (wdk_110)))
theorem wdkm_3 : ∀ m ∈ mt_3, wdM m = true := all_app wdk_120 (all_app wdk_130 (all_app wdk_140 (wdk_150)))
theorem wdkm_4 : ∀ m ∈ mt_4, wdM m = true := all_app wdk_160 (all_app wdk_170 (all_app wdk_180 (wdk_190)))
theorem wdkm_5 : ∀ m ∈ mt_5, wdM m = true := all_app wdk_200 (all_app wdk_210 (all_app wdk_220 (wdk_230)))
theorem wdkm_6 : ∀ m ∈ ([mi_240, mi_241, mi_242, mi_243, mi_244, mi_245, mi_246, mi_247, mi_248, mi_249, mi_250, mi_251, mi_252, mi_253, mi_254, mi_255, mi_256, mi_257, mi_258, mi_259, mi_260, mi_261, mi_262, mi_263, mi_264, mi_265, mi_266, mi_267, mi_268, mi_269, mi_270, mi_271, mi_272, mi_273, mi_274, mi_275, mi_276, mi_277] : List MI), wdM m = true := all_app wdk_240 (all_app wdk_250 (all_app wdk_260 wdk_270))
theorem ckAll : ∀ m ∈ mtab, ckM m = true := all_app ckm_0 (all_app ckm_1 (all_app ckm_2 (all_app ckm_3 (all_app ckm_4 (all_app ckm_5 ckm_6)))))
theorem wdAll : ∀ m ∈ mt_0 ++ (mt_1 ++ (mt_2 ++ (mt_3 ++ (mt_4 ++ (mt_5 ++ ([mi_240, mi_241, mi_242, mi_243, mi_244, mi_245, mi_246, mi_247, mi_248, mi_249, mi_250, mi_251, mi_252, mi_253, mi_254, mi_255, mi_256, mi_257, mi_258, mi_259, mi_260, mi_261, mi_262, mi_263, mi_264, mi_265, mi_266, mi_267, mi_268, mi_269, mi_270, mi_271, mi_272, mi_273, mi_274, mi_275, mi_276, mi_277] : List MI)))))), wdM m = true := all_app wdkm_0 (all_app wdkm_1 (all_app wdkm_2 (all_app wdkm_3 (all_app wdkm_4 (all_app wdkm_5 wdkm_6)))))
theorem mi_mem (k : Nat) : mi k ∈ mtab := by
  unfold mi
  cases h : mtab[k]? with
  | none => exact List.mem_of_getElem? (i := 0) rfl
  | some m => exact List.mem_of_getElem? h
theorem ckK (k : Nat) : ckM (mi k) = true := ckAll _ (mi_mem k)
theorem mtab_278 : mtab = (mt_0 ++ (mt_1 ++ (mt_2 ++ (mt_3 ++ (mt_4 ++ (mt_5 ++ ([mi_240, mi_241, mi_242, mi_243, mi_244, mi_245, mi_246, mi_247, mi_248, mi_249, mi_250, mi_251, mi_252, mi_253, mi_254, mi_255, mi_256, mi_257, mi_258, mi_259, mi_260, mi_261, mi_262, mi_263, mi_264, mi_265, mi_266, mi_267, mi_268, mi_269, mi_270, mi_271, mi_272, mi_273, mi_274, mi_275, mi_276, mi_277] : List MI)))))) ) ++ [mi_278] := by
  unfold mtab mt_6
  simp only [List.append_assoc]
  rfl
set_option maxRecDepth 20000 in
theorem wdK (k : Nat) (hk : k < 278) : wdM (mi k) = true := by
  unfold mi
  rw [mtab_278, List.getElem?_append_left (show k < 278 from hk)]
  cases h : (mt_0 ++ (mt_1 ++ (mt_2 ++ (mt_3 ++ (mt_4 ++ (mt_5 ++ ([mi_240, mi_241, mi_242, mi_243, mi_244, mi_245, mi_246, mi_247, mi_248, mi_249, mi_250, mi_251, mi_252, mi_253, mi_254, mi_255, mi_256, mi_257, mi_258, mi_259, mi_260, mi_261, mi_262, mi_263, mi_264, mi_265, mi_266, mi_267, mi_268, mi_269, mi_270, mi_271, mi_272, mi_273, mi_274, mi_275, mi_276, mi_277] : List MI)))))) )[k]? with
  | none => exact absurd (List.getElem?_eq_none_iff.mp h) (Nat.not_le.mpr (show k < 278 from hk))
  | some m => exact wdAll _ (List.mem_of_getElem? h)
