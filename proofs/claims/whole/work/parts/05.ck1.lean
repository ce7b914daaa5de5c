def ckM (m : MI) : Bool := dcOK m.1.2.2 m.2.2.1 && lnOK m.1.1 m.2.2.1 && mdM m
set_option maxRecDepth 100000 in
theorem ck_0 : ∀ m ∈ ([mi_0, mi_1, mi_2, mi_3, mi_4, mi_5, mi_6, mi_7, mi_8, mi_9] : List MI), ckM m = true := List.all_eq_true.mp (by decide +kernel)
set_option maxRecDepth 100000 in
theorem ck_10 : ∀ m ∈ ([mi_10, mi_11, mi_12, mi_13, mi_14, mi_15, mi_16, mi_17, mi_18, mi_19] : List MI), ckM m = true := List.all_eq_true.mp (by decide +kernel)
set_option maxRecDepth 100000 in
theorem ck_20 : ∀ m ∈ ([mi_20, mi_21, mi_22, mi_23, mi_24, mi_25, mi_26, mi_27, mi_28, mi_29] : List MI), ckM m = true := List.all_eq_true.mp (by decide +kernel)
set_option maxRecDepth 100000 in
theorem ck_30 : ∀ m ∈ ([mi_30, mi_31, mi_32, mi_33, mi_34, mi_35, mi_36, mi_37, mi_38, mi_39] : List MI), ckM m = true := List.all_eq_true.mp (by decide +kernel)
set_option maxRecDepth 100000 in
theorem ck_40 : ∀ m ∈ ([mi_40, mi_41, mi_42, mi_43, mi_44, mi_45, mi_46, mi_47, mi_48, mi_49] : List MI), ckM m = true := List.all_eq_true.mp (by decide +kernel)
set_option maxRecDepth 100000 in
theorem ck_50 : ∀ m ∈ ([mi_50, mi_51, mi_52, mi_53, mi_54, mi_55, mi_56, mi_57, mi_58, mi_59] : List MI), ckM m = true := List.all_eq_true.mp (by decide +kernel)
set_option maxRecDepth 100000 in
theorem ck_60 : ∀ m ∈ ([mi_60, mi_61, mi_62, mi_63, mi_64, mi_65, mi_66, mi_67, mi_68, mi_69] : List MI), ckM m = true := List.all_eq_true.mp (by decide +kernel)
