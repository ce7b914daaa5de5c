set_option maxRecDepth 100000 in
theorem ck_law : ckM mi_278 = true := by
  have h1 : dcOK code rw_278 = true := by
    unfold rw_278 dcOK
    simp only [List.all_append, Bool.and_eq_true]
    exact ⟨lwd_0, lwd_1, lwd_2, lwd_3, lwd_4, lwd_5, lwd_6, lwd_7, lwd_8, lwd_9, lwd_10, lwd_11, lwd_12, lwd_13, lwd_14, lwd_15, lwd_16, lwd_17, lwd_18, lwd_19, lwd_20, lwd_21, lwd_22, lwd_23, lwd_24, lwd_25⟩
  have h2 : lnOK RL rw_278 = true := by
    unfold rw_278 lnOK
    simp only [List.all_append, Bool.and_eq_true]
    exact ⟨lwl_0, lwl_1, lwl_2, lwl_3, lwl_4, lwl_5, lwl_6, lwl_7, lwl_8, lwl_9, lwl_10, lwl_11, lwl_12, lwl_13, lwl_14, lwl_15, lwl_16, lwl_17, lwl_18, lwl_19, lwl_20, lwl_21, lwl_22, lwl_23, lwl_24, lwl_25⟩
  have h3 : mdM mi_278 = true := by decide +kernel
  show (dcOK code rw_278 && lnOK RL rw_278 && mdM mi_278) = true
  rw [h1, h2, h3]; rfl
