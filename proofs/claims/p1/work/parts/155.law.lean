/-! the same of the law -/
set_option maxRecDepth 100000 in
theorem zc_a : zchk zP zMa := ⟨by decide +kernel, by decide +kernel, by decide +kernel, [], by decide +kernel⟩
theorem zMb_eq : zm_code zMb = zMb_0 ++ (zMb_1 ++ (zMb_2 ++ (zMb_3 ++ (zMb_4 ++ (zMb_5 ++ (zMb_6 ++ (zMb_7 ++ (zMb_8 ++ (zMb_9 ++ (zMb_10 ++ (zMb_11 ++ (zMb_12 ++ (zMb_13 ++ (zMb_14 ++ (zMb_15 ++ (zMb_16 ++ (zMb_17 ++ (zMb_18 ++ (zMb_19 ++ (zMb_20 ++ (zMb_21 ++ (zMb_22 ++ (zMb_23 ++ (zMb_24 ++ (zMb_25 ++ (zMb_26 ++ (zMb_27 ++ (zMb_28 ++ (zMb_29 ++ (zMb_30 ++ (zMb_31 ++ (zMb_32 ++ (zMb_33 ++ (zMb_34 ++ (zMb_35 ++ (zMb_36 ++ (zMb_37 ++ (zMb_38 ++ (zMb_39 ++ (zMb_40 ++ (zMb_41 ++ (zMb_42 ++ (zMb_43 ++ (zMb_44 ++ (zMb_45 ++ (zMb_46 ++ (zMb_47 ++ (zMb_48 ++ (zMb_49 ++ (zMb_50 ++ (zMb_51 ++ (zMb_52 ++ (zMb_53 ++ (zMb_54 ++ (zMb_55))))))))))))))))))))))))))))))))))))))))))))))))))))))) := by decide +kernel
theorem zcb_0 : ∀ i ∈ zMb_0, zchkI zP zMb i = true := by decide +kernel
theorem zcb_1 : ∀ i ∈ zMb_1, zchkI zP zMb i = true := by decide +kernel
theorem zcb_2 : ∀ i ∈ zMb_2, zchkI zP zMb i = true := by decide +kernel
theorem zcb_3 : ∀ i ∈ zMb_3, zchkI zP zMb i = true := by decide +kernel
theorem zcb_4 : ∀ i ∈ zMb_4, zchkI zP zMb i = true := by decide +kernel
theorem zcb_5 : ∀ i ∈ zMb_5, zchkI zP zMb i = true := by decide +kernel
theorem zcb_6 : ∀ i ∈ zMb_6, zchkI zP zMb i = true := by decide +kernel
theorem zcb_7 : ∀ i ∈ zMb_7, zchkI zP zMb i = true := by decide +kernel
theorem zcb_8 : ∀ i ∈ zMb_8, zchkI zP zMb i = true := by decide +kernel
theorem zcb_9 : ∀ i ∈ zMb_9, zchkI zP zMb i = true := by decide +kernel
theorem zcb_10 : ∀ i ∈ zMb_10, zchkI zP zMb i = true := by decide +kernel
theorem zcb_11 : ∀ i ∈ zMb_11, zchkI zP zMb i = true := by decide +kernel
theorem zcb_12 : ∀ i ∈ zMb_12, zchkI zP zMb i = true := by decide +kernel
theorem zcb_13 : ∀ i ∈ zMb_13, zchkI zP zMb i = true := by decide +kernel
theorem zcb_14 : ∀ i ∈ zMb_14, zchkI zP zMb i = true := by decide +kernel
theorem zcb_15 : ∀ i ∈ zMb_15, zchkI zP zMb i = true := by decide +kernel
theorem zcb_16 : ∀ i ∈ zMb_16, zchkI zP zMb i = true := by decide +kernel
theorem zcb_17 : ∀ i ∈ zMb_17, zchkI zP zMb i = true := by decide +kernel
theorem zcb_18 : ∀ i ∈ zMb_18, zchkI zP zMb i = true := by decide +kernel
theorem zcb_19 : ∀ i ∈ zMb_19, zchkI zP zMb i = true := by decide +kernel
theorem zcb_20 : ∀ i ∈ zMb_20, zchkI zP zMb i = true := by decide +kernel
theorem zcb_21 : ∀ i ∈ zMb_21, zchkI zP zMb i = true := by decide +kernel
theorem zcb_22 : ∀ i ∈ zMb_22, zchkI zP zMb i = true := by decide +kernel
theorem zcb_23 : ∀ i ∈ zMb_23, zchkI zP zMb i = true := by decide +kernel
theorem zcb_24 : ∀ i ∈ zMb_24, zchkI zP zMb i = true := by decide +kernel
theorem zcb_25 : ∀ i ∈ zMb_25, zchkI zP zMb i = true := by decide +kernel
theorem zcb_26 : ∀ i ∈ zMb_26, zchkI zP zMb i = true := by decide +kernel
theorem zcb_27 : ∀ i ∈ zMb_27, zchkI zP zMb i = true := by decide +kernel
theorem zcb_28 : ∀ i ∈ zMb_28, zchkI zP zMb i = true := by decide +kernel
theorem zcb_29 : ∀ i ∈ zMb_29, zchkI zP zMb i = true := by decide +kernel
theorem zcb_30 : ∀ i ∈ zMb_30, zchkI zP zMb i = true := by decide +kernel
theorem zcb_31 : ∀ i ∈ zMb_31, zchkI zP zMb i = true := by decide +kernel
theorem zcb_32 : ∀ i ∈ zMb_32, zchkI zP zMb i = true := by decide +kernel
theorem zcb_33 : ∀ i ∈ zMb_33, zchkI zP zMb i = true := by decide +kernel
theorem zcb_34 : ∀ i ∈ zMb_34, zchkI zP zMb i = true := by decide +kernel
theorem zcb_35 : ∀ i ∈ zMb_35, zchkI zP zMb i = true := by decide +kernel
theorem zcb_36 : ∀ i ∈ zMb_36, zchkI zP zMb i = true := by decide +kernel
theorem zcb_37 : ∀ i ∈ zMb_37, zchkI zP zMb i = true := by decide +kernel
theorem zcb_38 : ∀ i ∈ zMb_38, zchkI zP zMb i = true := by decide +kernel
theorem zcb_39 : ∀ i ∈ zMb_39, zchkI zP zMb i = true := by decide +kernel
theorem zcb_40 : ∀ i ∈ zMb_40, zchkI zP zMb i = true := by decide +kernel
theorem zcb_41 : ∀ i ∈ zMb_41, zchkI zP zMb i = true := by decide +kernel
theorem zcb_42 : ∀ i ∈ zMb_42, zchkI zP zMb i = true := by decide +kernel
theorem zcb_43 : ∀ i ∈ zMb_43, zchkI zP zMb i = true := by decide +kernel
theorem zcb_44 : ∀ i ∈ zMb_44, zchkI zP zMb i = true := by decide +kernel
theorem zcb_45 : ∀ i ∈ zMb_45, zchkI zP zMb i = true := by decide +kernel
theorem zcb_46 : ∀ i ∈ zMb_46, zchkI zP zMb i = true := by decide +kernel
theorem zcb_47 : ∀ i ∈ zMb_47, zchkI zP zMb i = true := by decide +kernel
theorem zcb_48 : ∀ i ∈ zMb_48, zchkI zP zMb i = true := by decide +kernel
theorem zcb_49 : ∀ i ∈ zMb_49, zchkI zP zMb i = true := by decide +kernel
theorem zcb_50 : ∀ i ∈ zMb_50, zchkI zP zMb i = true := by decide +kernel
theorem zcb_51 : ∀ i ∈ zMb_51, zchkI zP zMb i = true := by decide +kernel
theorem zcb_52 : ∀ i ∈ zMb_52, zchkI zP zMb i = true := by decide +kernel
theorem zcb_53 : ∀ i ∈ zMb_53, zchkI zP zMb i = true := by decide +kernel
theorem zcb_54 : ∀ i ∈ zMb_54, zchkI zP zMb i = true := by decide +kernel
theorem zcb_55 : ∀ i ∈ zMb_55, zchkI zP zMb i = true := by decide +kernel
theorem zcb : ∀ i ∈ zm_code zMb, zchkI zP zMb i = true := by
  rw [zMb_eq]
  exact List.forall_mem_append.mpr ⟨zcb_0, List.forall_mem_append.mpr ⟨zcb_1, List.forall_mem_append.mpr ⟨zcb_2, List.forall_mem_append.mpr ⟨zcb_3, List.forall_mem_append.mpr ⟨zcb_4, List.forall_mem_append.mpr ⟨zcb_5, List.forall_mem_append.mpr ⟨zcb_6, List.forall_mem_append.mpr ⟨zcb_7, List.forall_mem_append.mpr ⟨zcb_8, List.forall_mem_append.mpr ⟨zcb_9, List.forall_mem_append.mpr ⟨zcb_10, List.forall_mem_append.mpr ⟨zcb_11, List.forall_mem_append.mpr ⟨zcb_12, List.forall_mem_append.mpr ⟨zcb_13, List.forall_mem_append.mpr ⟨zcb_14, List.forall_mem_append.mpr ⟨zcb_15, List.forall_mem_append.mpr ⟨zcb_16, List.forall_mem_append.mpr ⟨zcb_17, List.forall_mem_append.mpr ⟨zcb_18, List.forall_mem_append.mpr ⟨zcb_19, List.forall_mem_append.mpr ⟨zcb_20, List.forall_mem_append.mpr ⟨zcb_21, List.forall_mem_append.mpr ⟨zcb_22, List.forall_mem_append.mpr ⟨zcb_23, List.forall_mem_append.mpr ⟨zcb_24, List.forall_mem_append.mpr ⟨zcb_25, List.forall_mem_append.mpr ⟨zcb_26, List.forall_mem_append.mpr ⟨zcb_27, List.forall_mem_append.mpr ⟨zcb_28, List.forall_mem_append.mpr ⟨zcb_29, List.forall_mem_append.mpr ⟨zcb_30, List.forall_mem_append.mpr ⟨zcb_31, List.forall_mem_append.mpr ⟨zcb_32, List.forall_mem_append.mpr ⟨zcb_33, List.forall_mem_append.mpr ⟨zcb_34, List.forall_mem_append.mpr ⟨zcb_35, List.forall_mem_append.mpr ⟨zcb_36, List.forall_mem_append.mpr ⟨zcb_37, List.forall_mem_append.mpr ⟨zcb_38, List.forall_mem_append.mpr ⟨zcb_39, List.forall_mem_append.mpr ⟨zcb_40, List.forall_mem_append.mpr ⟨zcb_41, List.forall_mem_append.mpr ⟨zcb_42, List.forall_mem_append.mpr ⟨zcb_43, List.forall_mem_append.mpr ⟨zcb_44, List.forall_mem_append.mpr ⟨zcb_45, List.forall_mem_append.mpr ⟨zcb_46, List.forall_mem_append.mpr ⟨zcb_47, List.forall_mem_append.mpr ⟨zcb_48, List.forall_mem_append.mpr ⟨zcb_49, List.forall_mem_append.mpr ⟨zcb_50, List.forall_mem_append.mpr ⟨zcb_51, List.forall_mem_append.mpr ⟨zcb_52, List.forall_mem_append.mpr ⟨zcb_53, List.forall_mem_append.mpr ⟨zcb_54, zcb_55⟩⟩⟩⟩⟩⟩⟩⟩⟩⟩⟩⟩⟩⟩⟩⟩⟩⟩⟩⟩⟩⟩⟩⟩⟩⟩⟩⟩⟩⟩⟩⟩⟩⟩⟩⟩⟩⟩⟩⟩⟩⟩⟩⟩⟩⟩⟩⟩⟩⟩⟩⟩⟩⟩⟩
theorem zc_b : zchk zP zMb := ⟨zcb, by decide +kernel, by decide +kernel, [], by decide +kernel⟩
