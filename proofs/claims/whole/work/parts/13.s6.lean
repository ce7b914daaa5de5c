section Plain
variable {ph : Bool} {K : WK} {k i pc len : Nat} {raw : Instr} {x : List Nat} {ls ls' : Vls} {st st' : List AV} {σ σ' : Mem} {P : Option Prop} {c s : Nat} {Q : Out → Mem → Prop}
theorem s_iastore (hG : G0 K) (hr : (rows k)[i]? = some (pc, .iastore, len, x)) (h : plain ph (.iastore) x ls st σ = some (P, ls', st', σ')) (hP : hold P) (hn : Wst ph K k (i + 1) ls' st' σ' c s Q) : Wst ph K k i ls st σ c s Q := by
  have hlen : len = 1 := (row_of hr).2.2.2.1.resolve_left (by simp [ilen])
  subst hlen
  simp only [plain] at h
  split at h
  · split at h
    · rename_i hC
      cases h
      subst hC
      exact s_iast13 hG hr hP.1 hP.2 hn
    · cases h
  · cases h
theorem s_caload (hG : G0 K) (hr : (rows k)[i]? = some (pc, .caload, len, x)) (h : plain ph (.caload) x ls st σ = some (P, ls', st', σ')) (hP : hold P) (hn : Wst ph K k (i + 1) ls' st' σ' c s Q) : Wst ph K k i ls st σ c s Q := by
  have hlen : len = 1 := (row_of hr).2.2.2.1.resolve_left (by simp [ilen])
  subst hlen
  simp only [plain] at h
  split at h
  · split at h
    · rename_i hC
      cases h
      subst hC
      exact s_cald12 hG hr hP.1 hP.2 hn
    · cases h
  · cases h
theorem s_castore (hG : G0 K) (hr : (rows k)[i]? = some (pc, .castore, len, x)) (h : plain ph (.castore) x ls st σ = some (P, ls', st', σ')) (hP : hold P) (hn : Wst ph K k (i + 1) ls' st' σ' c s Q) : Wst ph K k i ls st σ c s Q := by
  have hlen : len = 1 := (row_of hr).2.2.2.1.resolve_left (by simp [ilen])
  subst hlen
  simp only [plain] at h
  split at h
  · split at h
    · rename_i hC
      cases h
      subst hC
      exact s_cast12 hG hr hP.1 hP.2 hn
    · cases h
  · cases h
theorem s_laload (hG : G0 K) (hr : (rows k)[i]? = some (pc, .laload, len, x)) (h : plain ph (.laload) x ls st σ = some (P, ls', st', σ')) (hP : hold P) (hn : Wst ph K k (i + 1) ls' st' σ' c s Q) : Wst ph K k i ls st σ c s Q := by
  have hlen : len = 1 := (row_of hr).2.2.2.1.resolve_left (by simp [ilen])
  subst hlen
  simp only [plain] at h
  split at h
  · split at h
    · rename_i hC
      cases h
      subst hC
      have hP : _ = (0 : Int) := hP
      subst hP
      exact s_lald15 hG hr hn
    · cases h
  · cases h
theorem s_lastore (hG : G0 K) (hr : (rows k)[i]? = some (pc, .lastore, len, x)) (h : plain ph (.lastore) x ls st σ = some (P, ls', st', σ')) (hP : hold P) (hn : Wst ph K k (i + 1) ls' st' σ' c s Q) : Wst ph K k i ls st σ c s Q := by
  have hlen : len = 1 := (row_of hr).2.2.2.1.resolve_left (by simp [ilen])
  subst hlen
  simp only [plain] at h
  split at h
  · split at h
    · rename_i hC
      cases h
      subst hC
      have hP : _ = (0 : Int) := hP
      subst hP
      exact s_last15 hG hr hn
    · cases h
  · cases h
theorem s_daload (hG : G0 K) (hr : (rows k)[i]? = some (pc, .daload, len, x)) (h : plain ph (.daload) x ls st σ = some (P, ls', st', σ')) (hP : hold P) (hn : Wst ph K k (i + 1) ls' st' σ' c s Q) : Wst ph K k i ls st σ c s Q := by
  have hlen : len = 1 := (row_of hr).2.2.2.1.resolve_left (by simp [ilen])
  subst hlen
  simp only [plain] at h
  split at h
  · split at h
    · rename_i hC
      cases h
      subst hC
      have hP : _ = (0 : Int) := hP
      subst hP
      exact s_dald16 hG hr hn
    · cases h
  · cases h
theorem s_dastore (hG : G0 K) (hr : (rows k)[i]? = some (pc, .dastore, len, x)) (h : plain ph (.dastore) x ls st σ = some (P, ls', st', σ')) (hP : hold P) (hn : Wst ph K k (i + 1) ls' st' σ' c s Q) : Wst ph K k i ls st σ c s Q := by
  have hlen : len = 1 := (row_of hr).2.2.2.1.resolve_left (by simp [ilen])
  subst hlen
  simp only [plain] at h
  split at h
  · split at h
    · rename_i hC
      cases h
      subst hC
      have hP : _ = (0 : Int) := hP
      subst hP
      exact s_dast16 hG hr hn
    · cases h
  · cases h
theorem s_aaload (hG : G0 K) (hr : (rows k)[i]? = some (pc, .aaload, len, x)) (h : plain ph (.aaload) x ls st σ = some (P, ls', st', σ')) (hP : hold P) (hn : Wst ph K k (i + 1) ls' st' σ' c s Q) : Wst ph K k i ls st σ c s Q := by
  have hlen : len = 1 := (row_of hr).2.2.2.1.resolve_left (by simp [ilen])
  subst hlen
  simp only [plain] at h
  split at h
  · split at h
    · rename_i hC
      cases h
      obtain ⟨hC, hph⟩ := hC
      subst hC
      exact s_aald14 hG hph hr hP.1 hP.2 hn
    · cases h
  · cases h
theorem s_invst (hG : G0 K) {j : Nat} (hr : (rows k)[i]? = some (pc, .invokestatic j, len, x)) (h : plain ph (.invokestatic j) x ls st σ = some (P, ls', st', σ')) (hP : hold P) (hn : Wst ph K k (i + 1) ls' st' σ' c s Q) : Wst ph K k i ls st σ c s Q := by
  have hlen : len = 3 := (row_of hr).2.2.2.1.resolve_left (by simp [ilen])
  subst hlen
  simp only [plain] at h
  split at h
  · rename_i n a b
    split at h
    · rename_i h6
      obtain ⟨rfl, hl⟩ := h6
      obtain ⟨y, z, r, rfl, -, rfl, rfl, rfl⟩ := b_inv h
      refine s_mm hG (Or.inl rfl) (by simp only [List.length_cons] at hl; omega) hr ?_
      rw [if_pos rfl]
      exact hn
    · split at h
      · rename_i h7
        obtain ⟨rfl, hl⟩ := h7
        obtain ⟨y, z, r, rfl, -, rfl, rfl, rfl⟩ := b_inv h
        refine s_mm hG (Or.inr rfl) (by simp only [List.length_cons] at hl; omega) hr ?_
        rw [if_neg (by decide)]
        exact hn
      · split at h
        · rename_i h8
          obtain ⟨rfl, hl⟩ := h8
          split at h
          · split at h
            · rename_i hC
              obtain ⟨hC1, hC2⟩ := hC
              cases h
              subst hC1
              subst hC2
              exact s_copy hG (by simp only [List.length_cons] at hl; omega) hP.1 hP.2.1 hP.2.2.1 hP.2.2.2.1 hP.2.2.2.2 hr hn
            · cases h
          · cases h
        · cases h
  · cases h
theorem s_plain (hG : G0 K) : c_plain ph (Wst ph K) := by
  intro k i ls st σ c s Q pc raw len x P ls' st' σ' hr h hP hn
  cases raw with
  | iconst n => exact s_iconst hr h hP hn
  | bipush n => exact s_bipush hr h hP hn
  | sipush n => exact s_sipush hr h hP hn
  | aconst_null => exact s_null hr h hP hn
  | dconst d => exact s_dconst hr h hP hn
  | ldc j => exact s_ldc hG hr h hP hn
  | ldc_w j => exact s_ldcw hG hr h hP hn
  | ldc2_w j => exact s_ldc2 hG hr h hP hn
  | iload a => exact s_iload hr h hP hn
  | iload_n a => exact s_iload_n hr h hP hn
  | aload a => exact s_aload hr h hP hn
  | aload_n a => exact s_aload_n hr h hP hn
  | dload a => exact s_dload hr h hP hn
  | istore a => exact s_istore hr h hn
  | istore_n a => exact s_istore_n hr h hn
  | astore a => exact s_astore hr h hn
  | astore_n a => exact s_astore_n hr h hn
  | dstore a => exact s_dstore hr h hn
  | iinc a n => exact s_iinc hr h hn
  | iadd => exact s_iadd hr h hP hn
  | isub => exact s_isub hr h hP hn
  | imul => exact s_imul hr h hP hn
  | idiv => exact s_idiv hr h hP hn
  | irem => exact s_irem hr h hP hn
  | iand => exact s_iand hr h hP hn
  | ishr => exact s_ishr hr h hP hn
  | i2l => exact s_i2l hr h hP hn
  | i2c => exact s_i2c hr h hP hn
  | i2d => exact s_i2d hr h hP hn
  | l2i => exact s_l2i hr h hP hn
  | ladd => exact s_ladd hr h hP hn
  | lmul => exact s_lmul hr h hP hn
  | lrem => exact s_lrem hr h hP hn
  | lcmp => exact s_lcmp hr h hP hn
  | ddiv => exact s_ddiv hr h hP hn
  | dup => exact s_dup hr h hP hn
  | dup2 => exact s_dup2 hr h hP hn
  | pop => exact s_pop hr h hP hn
  | dcmp op => exact s_dcmp hr h hP hn
  | getfield j => exact s_getfield hG hr h hP hn
  | putfield j => exact s_putfield hG hr h hP hn
  | getstatic j => exact s_getstatic hG hr h hn
  | iaload => exact s_iaload' hG hr h hP hn
  | arraylength => exact s_arraylength hG hr h hn
  | invokestatic j => exact s_invst hG hr h hP hn
  | iastore => exact s_iastore hG hr h hP hn
  | caload => exact s_caload hG hr h hP hn
  | castore => exact s_castore hG hr h hP hn
  | laload => exact s_laload hG hr h hP hn
  | lastore => exact s_lastore hG hr h hP hn
  | daload => exact s_daload hG hr h hP hn
  | dastore => exact s_dastore hG hr h hP hn
  | aaload => exact s_aaload hG hr h hP hn
  | _ => exact absurd h (by simp [plain])
end Plain
