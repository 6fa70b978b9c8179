/-! PART 13: the instructions are checked -/
set_option maxRecDepth 100000 in
theorem am_v0 : am_t0.all (fun e => am_ckI am_rw0 true prog_14_method_1_code e.1 e.2) = true := by decide +kernel
theorem am_o0 : ∀ e ∈ am_t0, am_okI am_mth am_cl am_Ts am_stx am_slk am_m0 e.1 e.2 := fun e he => am_ckI_ok (rw := am_rw0) (ini := true) (M := am_m0) am_rq0 (fun z => rfl) (List.all_eq_true.mp am_v0 e he)
set_option maxRecDepth 100000 in
theorem am_v1 : am_t1.all (fun e => am_ckI am_rw0 false prog_14_method_2_code e.1 e.2) = true := by decide +kernel
theorem am_o1 : ∀ e ∈ am_t1, am_okI am_mth am_cl am_Ts am_stx am_slk am_m1 e.1 e.2 := fun e he => am_ckI_ok (rw := am_rw0) (ini := false) (M := am_m1) am_rq0 (fun z => by cases z) (List.all_eq_true.mp am_v1 e he)
set_option maxRecDepth 100000 in
theorem am_v2 : am_t2.all (fun e => am_ckI am_rw0 false prog_14_method_3_code e.1 e.2) = true := by decide +kernel
theorem am_o2 : ∀ e ∈ am_t2, am_okI am_mth am_cl am_Ts am_stx am_slk am_m2 e.1 e.2 := fun e he => am_ckI_ok (rw := am_rw0) (ini := false) (M := am_m2) am_rq0 (fun z => by cases z) (List.all_eq_true.mp am_v2 e he)
set_option maxRecDepth 100000 in
theorem am_v3 : am_t3.all (fun e => am_ckI am_rw0 false prog_14_method_4_code e.1 e.2) = true := by decide +kernel
theorem am_o3 : ∀ e ∈ am_t3, am_okI am_mth am_cl am_Ts am_stx am_slk am_m3 e.1 e.2 := fun e he => am_ckI_ok (rw := am_rw0) (ini := false) (M := am_m3) am_rq0 (fun z => by cases z) (List.all_eq_true.mp am_v3 e he)
set_option maxRecDepth 100000 in
theorem am_v4 : am_t4.all (fun e => am_ckI am_rw0 false prog_14_method_5_code e.1 e.2) = true := by decide +kernel
theorem am_o4 : ∀ e ∈ am_t4, am_okI am_mth am_cl am_Ts am_stx am_slk am_m4 e.1 e.2 := fun e he => am_ckI_ok (rw := am_rw0) (ini := false) (M := am_m4) am_rq0 (fun z => by cases z) (List.all_eq_true.mp am_v4 e he)
set_option maxRecDepth 100000 in
theorem am_v5 : am_t5.all (fun e => am_ckI am_rw0 false prog_14_method_6_code e.1 e.2) = true := by decide +kernel
theorem am_o5 : ∀ e ∈ am_t5, am_okI am_mth am_cl am_Ts am_stx am_slk am_m5 e.1 e.2 := fun e he => am_ckI_ok (rw := am_rw0) (ini := false) (M := am_m5) am_rq0 (fun z => by cases z) (List.all_eq_true.mp am_v5 e he)
set_option maxRecDepth 100000 in
theorem am_v6 : am_t6.all (fun e => am_ckI am_rw0 false prog_14_method_7_code e.1 e.2) = true := by decide +kernel
theorem am_o6 : ∀ e ∈ am_t6, am_okI am_mth am_cl am_Ts am_stx am_slk am_m6 e.1 e.2 := fun e he => am_ckI_ok (rw := am_rw0) (ini := false) (M := am_m6) am_rq0 (fun z => by cases z) (List.all_eq_true.mp am_v6 e he)
set_option maxRecDepth 100000 in
theorem am_v7 : am_t7.all (fun e => am_ckI am_rw0 false prog_14_method_8_code e.1 e.2) = true := by decide +kernel
theorem am_o7 : ∀ e ∈ am_t7, am_okI am_mth am_cl am_Ts am_stx am_slk am_m7 e.1 e.2 := fun e he => am_ckI_ok (rw := am_rw0) (ini := false) (M := am_m7) am_rq0 (fun z => by cases z) (List.all_eq_true.mp am_v7 e he)
set_option maxRecDepth 100000 in
theorem am_v8 : am_t8.all (fun e => am_ckI am_rw0 false prog_14_method_9_code e.1 e.2) = true := by decide +kernel
theorem am_o8 : ∀ e ∈ am_t8, am_okI am_mth am_cl am_Ts am_stx am_slk am_m8 e.1 e.2 := fun e he => am_ckI_ok (rw := am_rw0) (ini := false) (M := am_m8) am_rq0 (fun z => by cases z) (List.all_eq_true.mp am_v8 e he)
set_option maxRecDepth 100000 in
theorem am_v9 : am_t9.all (fun e => am_ckI am_rw0 false prog_14_method_10_code e.1 e.2) = true := by decide +kernel
theorem am_o9 : ∀ e ∈ am_t9, am_okI am_mth am_cl am_Ts am_stx am_slk am_m9 e.1 e.2 := fun e he => am_ckI_ok (rw := am_rw0) (ini := false) (M := am_m9) am_rq0 (fun z => by cases z) (List.all_eq_true.mp am_v9 e he)
set_option maxRecDepth 100000 in
theorem am_v10 : am_t10.all (fun e => am_ckI am_rw0 false prog_14_method_11_code e.1 e.2) = true := by decide +kernel
theorem am_o10 : ∀ e ∈ am_t10, am_okI am_mth am_cl am_Ts am_stx am_slk am_m10 e.1 e.2 := fun e he => am_ckI_ok (rw := am_rw0) (ini := false) (M := am_m10) am_rq0 (fun z => by cases z) (List.all_eq_true.mp am_v10 e he)
set_option maxRecDepth 100000 in
theorem am_v11 : am_t11.all (fun e => am_ckI am_rw0 false prog_14_method_12_code e.1 e.2) = true := by decide +kernel
theorem am_o11 : ∀ e ∈ am_t11, am_okI am_mth am_cl am_Ts am_stx am_slk am_m11 e.1 e.2 := fun e he => am_ckI_ok (rw := am_rw0) (ini := false) (M := am_m11) am_rq0 (fun z => by cases z) (List.all_eq_true.mp am_v11 e he)
set_option maxRecDepth 100000 in
theorem am_v12 : am_t12.all (fun e => am_ckI am_rw0 false prog_14_method_13_code e.1 e.2) = true := by decide +kernel
theorem am_o12 : ∀ e ∈ am_t12, am_okI am_mth am_cl am_Ts am_stx am_slk am_m12 e.1 e.2 := fun e he => am_ckI_ok (rw := am_rw0) (ini := false) (M := am_m12) am_rq0 (fun z => by cases z) (List.all_eq_true.mp am_v12 e he)
set_option maxRecDepth 100000 in
theorem am_v13 : am_t13.all (fun e => am_ckI am_rw0 false prog_14_method_14_code e.1 e.2) = true := by decide +kernel
theorem am_o13 : ∀ e ∈ am_t13, am_okI am_mth am_cl am_Ts am_stx am_slk am_m13 e.1 e.2 := fun e he => am_ckI_ok (rw := am_rw0) (ini := false) (M := am_m13) am_rq0 (fun z => by cases z) (List.all_eq_true.mp am_v13 e he)
set_option maxRecDepth 100000 in
theorem am_v14 : am_t14.all (fun e => am_ckI am_rw0 false prog_14_method_15_code e.1 e.2) = true := by decide +kernel
theorem am_o14 : ∀ e ∈ am_t14, am_okI am_mth am_cl am_Ts am_stx am_slk am_m14 e.1 e.2 := fun e he => am_ckI_ok (rw := am_rw0) (ini := false) (M := am_m14) am_rq0 (fun z => by cases z) (List.all_eq_true.mp am_v14 e he)
set_option maxRecDepth 100000 in
theorem am_v15 : am_t15.all (fun e => am_ckI am_rw0 false prog_14_method_16_code e.1 e.2) = true := by decide +kernel
theorem am_o15 : ∀ e ∈ am_t15, am_okI am_mth am_cl am_Ts am_stx am_slk am_m15 e.1 e.2 := fun e he => am_ckI_ok (rw := am_rw0) (ini := false) (M := am_m15) am_rq0 (fun z => by cases z) (List.all_eq_true.mp am_v15 e he)
set_option maxRecDepth 100000 in
theorem am_v16 : am_t16.all (fun e => am_ckI am_rw0 false prog_14_method_17_code e.1 e.2) = true := by decide +kernel
theorem am_o16 : ∀ e ∈ am_t16, am_okI am_mth am_cl am_Ts am_stx am_slk am_m16 e.1 e.2 := fun e he => am_ckI_ok (rw := am_rw0) (ini := false) (M := am_m16) am_rq0 (fun z => by cases z) (List.all_eq_true.mp am_v16 e he)
set_option maxRecDepth 100000 in
theorem am_v17 : am_t17.all (fun e => am_ckI am_rw0 false prog_14_method_18_code e.1 e.2) = true := by decide +kernel
theorem am_o17 : ∀ e ∈ am_t17, am_okI am_mth am_cl am_Ts am_stx am_slk am_m17 e.1 e.2 := fun e he => am_ckI_ok (rw := am_rw0) (ini := false) (M := am_m17) am_rq0 (fun z => by cases z) (List.all_eq_true.mp am_v17 e he)
set_option maxRecDepth 100000 in
theorem am_v18 : am_t18.all (fun e => am_ckI am_rw0 false prog_14_method_19_code e.1 e.2) = true := by decide +kernel
theorem am_o18 : ∀ e ∈ am_t18, am_okI am_mth am_cl am_Ts am_stx am_slk am_m18 e.1 e.2 := fun e he => am_ckI_ok (rw := am_rw0) (ini := false) (M := am_m18) am_rq0 (fun z => by cases z) (List.all_eq_true.mp am_v18 e he)
set_option maxRecDepth 100000 in
theorem am_v19 : am_t19.all (fun e => am_ckI am_rw0 false prog_14_method_20_code e.1 e.2) = true := by decide +kernel
theorem am_o19 : ∀ e ∈ am_t19, am_okI am_mth am_cl am_Ts am_stx am_slk am_m19 e.1 e.2 := fun e he => am_ckI_ok (rw := am_rw0) (ini := false) (M := am_m19) am_rq0 (fun z => by cases z) (List.all_eq_true.mp am_v19 e he)
set_option maxRecDepth 100000 in
theorem am_v20 : am_t20.all (fun e => am_ckI am_rw0 false prog_14_method_21_code e.1 e.2) = true := by decide +kernel
theorem am_o20 : ∀ e ∈ am_t20, am_okI am_mth am_cl am_Ts am_stx am_slk am_m20 e.1 e.2 := fun e he => am_ckI_ok (rw := am_rw0) (ini := false) (M := am_m20) am_rq0 (fun z => by cases z) (List.all_eq_true.mp am_v20 e he)
set_option maxRecDepth 100000 in
theorem am_v21 : am_t21.all (fun e => am_ckI am_rw0 false prog_14_method_22_code e.1 e.2) = true := by decide +kernel
theorem am_o21 : ∀ e ∈ am_t21, am_okI am_mth am_cl am_Ts am_stx am_slk am_m21 e.1 e.2 := fun e he => am_ckI_ok (rw := am_rw0) (ini := false) (M := am_m21) am_rq0 (fun z => by cases z) (List.all_eq_true.mp am_v21 e he)
set_option maxRecDepth 100000 in
theorem am_v22 : am_t22.all (fun e => am_ckI am_rw0 false prog_14_method_23_code e.1 e.2) = true := by decide +kernel
theorem am_o22 : ∀ e ∈ am_t22, am_okI am_mth am_cl am_Ts am_stx am_slk am_m22 e.1 e.2 := fun e he => am_ckI_ok (rw := am_rw0) (ini := false) (M := am_m22) am_rq0 (fun z => by cases z) (List.all_eq_true.mp am_v22 e he)
set_option maxRecDepth 100000 in
theorem am_v23 : am_t23.all (fun e => am_ckI am_rw0 false prog_14_method_24_code e.1 e.2) = true := by decide +kernel
theorem am_o23 : ∀ e ∈ am_t23, am_okI am_mth am_cl am_Ts am_stx am_slk am_m23 e.1 e.2 := fun e he => am_ckI_ok (rw := am_rw0) (ini := false) (M := am_m23) am_rq0 (fun z => by cases z) (List.all_eq_true.mp am_v23 e he)
set_option maxRecDepth 100000 in
theorem am_v24 : am_t24.all (fun e => am_ckI am_rw0 false prog_14_method_25_code e.1 e.2) = true := by decide +kernel
theorem am_o24 : ∀ e ∈ am_t24, am_okI am_mth am_cl am_Ts am_stx am_slk am_m24 e.1 e.2 := fun e he => am_ckI_ok (rw := am_rw0) (ini := false) (M := am_m24) am_rq0 (fun z => by cases z) (List.all_eq_true.mp am_v24 e he)
set_option maxRecDepth 100000 in
theorem am_v25 : am_t25.all (fun e => am_ckI am_rw0 false prog_14_method_26_code e.1 e.2) = true := by decide +kernel
theorem am_o25 : ∀ e ∈ am_t25, am_okI am_mth am_cl am_Ts am_stx am_slk am_m25 e.1 e.2 := fun e he => am_ckI_ok (rw := am_rw0) (ini := false) (M := am_m25) am_rq0 (fun z => by cases z) (List.all_eq_true.mp am_v25 e he)
set_option maxRecDepth 100000 in
theorem am_v26 : am_t26.all (fun e => am_ckI am_rw0 false prog_14_method_27_code e.1 e.2) = true := by decide +kernel
theorem am_o26 : ∀ e ∈ am_t26, am_okI am_mth am_cl am_Ts am_stx am_slk am_m26 e.1 e.2 := fun e he => am_ckI_ok (rw := am_rw0) (ini := false) (M := am_m26) am_rq0 (fun z => by cases z) (List.all_eq_true.mp am_v26 e he)
set_option maxRecDepth 100000 in
theorem am_v27 : am_t27.all (fun e => am_ckI am_rw0 false prog_14_method_28_code e.1 e.2) = true := by decide +kernel
theorem am_o27 : ∀ e ∈ am_t27, am_okI am_mth am_cl am_Ts am_stx am_slk am_m27 e.1 e.2 := fun e he => am_ckI_ok (rw := am_rw0) (ini := false) (M := am_m27) am_rq0 (fun z => by cases z) (List.all_eq_true.mp am_v27 e he)
set_option maxRecDepth 100000 in
theorem am_v28 : am_t28.all (fun e => am_ckI am_rw0 false prog_14_method_29_code e.1 e.2) = true := by decide +kernel
theorem am_o28 : ∀ e ∈ am_t28, am_okI am_mth am_cl am_Ts am_stx am_slk am_m28 e.1 e.2 := fun e he => am_ckI_ok (rw := am_rw0) (ini := false) (M := am_m28) am_rq0 (fun z => by cases z) (List.all_eq_true.mp am_v28 e he)
set_option maxRecDepth 100000 in
theorem am_v29 : am_t29.all (fun e => am_ckI am_rw0 false prog_14_method_30_code e.1 e.2) = true := by decide +kernel
theorem am_o29 : ∀ e ∈ am_t29, am_okI am_mth am_cl am_Ts am_stx am_slk am_m29 e.1 e.2 := fun e he => am_ckI_ok (rw := am_rw0) (ini := false) (M := am_m29) am_rq0 (fun z => by cases z) (List.all_eq_true.mp am_v29 e he)
set_option maxRecDepth 100000 in
theorem am_v30 : am_t30.all (fun e => am_ckI am_rw0 false prog_14_method_31_code e.1 e.2) = true := by decide +kernel
theorem am_o30 : ∀ e ∈ am_t30, am_okI am_mth am_cl am_Ts am_stx am_slk am_m30 e.1 e.2 := fun e he => am_ckI_ok (rw := am_rw0) (ini := false) (M := am_m30) am_rq0 (fun z => by cases z) (List.all_eq_true.mp am_v30 e he)
set_option maxRecDepth 100000 in
theorem am_v31 : am_t31.all (fun e => am_ckI am_rw0 false prog_14_method_32_code e.1 e.2) = true := by decide +kernel
theorem am_o31 : ∀ e ∈ am_t31, am_okI am_mth am_cl am_Ts am_stx am_slk am_m31 e.1 e.2 := fun e he => am_ckI_ok (rw := am_rw0) (ini := false) (M := am_m31) am_rq0 (fun z => by cases z) (List.all_eq_true.mp am_v31 e he)
set_option maxRecDepth 100000 in
theorem am_v32 : am_t32.all (fun e => am_ckI am_rw0 false prog_14_method_33_code e.1 e.2) = true := by decide +kernel
theorem am_o32 : ∀ e ∈ am_t32, am_okI am_mth am_cl am_Ts am_stx am_slk am_m32 e.1 e.2 := fun e he => am_ckI_ok (rw := am_rw0) (ini := false) (M := am_m32) am_rq0 (fun z => by cases z) (List.all_eq_true.mp am_v32 e he)
set_option maxRecDepth 100000 in
theorem am_v33 : am_t33.all (fun e => am_ckI am_rw0 false prog_14_method_34_code e.1 e.2) = true := by decide +kernel
theorem am_o33 : ∀ e ∈ am_t33, am_okI am_mth am_cl am_Ts am_stx am_slk am_m33 e.1 e.2 := fun e he => am_ckI_ok (rw := am_rw0) (ini := false) (M := am_m33) am_rq0 (fun z => by cases z) (List.all_eq_true.mp am_v33 e he)
set_option maxRecDepth 100000 in
theorem am_v34 : am_t34.all (fun e => am_ckI am_rw0 false prog_14_method_35_code e.1 e.2) = true := by decide +kernel
theorem am_o34 : ∀ e ∈ am_t34, am_okI am_mth am_cl am_Ts am_stx am_slk am_m34 e.1 e.2 := fun e he => am_ckI_ok (rw := am_rw0) (ini := false) (M := am_m34) am_rq0 (fun z => by cases z) (List.all_eq_true.mp am_v34 e he)
set_option maxRecDepth 100000 in
theorem am_v35 : am_t35.all (fun e => am_ckI am_rw0 false prog_14_method_36_code e.1 e.2) = true := by decide +kernel
theorem am_o35 : ∀ e ∈ am_t35, am_okI am_mth am_cl am_Ts am_stx am_slk am_m35 e.1 e.2 := fun e he => am_ckI_ok (rw := am_rw0) (ini := false) (M := am_m35) am_rq0 (fun z => by cases z) (List.all_eq_true.mp am_v35 e he)
set_option maxRecDepth 100000 in
theorem am_v36 : am_t36.all (fun e => am_ckI am_rw0 false prog_14_method_37_code e.1 e.2) = true := by decide +kernel
theorem am_o36 : ∀ e ∈ am_t36, am_okI am_mth am_cl am_Ts am_stx am_slk am_m36 e.1 e.2 := fun e he => am_ckI_ok (rw := am_rw0) (ini := false) (M := am_m36) am_rq0 (fun z => by cases z) (List.all_eq_true.mp am_v36 e he)
set_option maxRecDepth 100000 in
theorem am_v37 : am_t37.all (fun e => am_ckI am_rw0 false prog_14_method_38_code e.1 e.2) = true := by decide +kernel
theorem am_o37 : ∀ e ∈ am_t37, am_okI am_mth am_cl am_Ts am_stx am_slk am_m37 e.1 e.2 := fun e he => am_ckI_ok (rw := am_rw0) (ini := false) (M := am_m37) am_rq0 (fun z => by cases z) (List.all_eq_true.mp am_v37 e he)
set_option maxRecDepth 100000 in
theorem am_v38 : am_t38.all (fun e => am_ckI am_rw0 false prog_14_method_39_code e.1 e.2) = true := by decide +kernel
theorem am_o38 : ∀ e ∈ am_t38, am_okI am_mth am_cl am_Ts am_stx am_slk am_m38 e.1 e.2 := fun e he => am_ckI_ok (rw := am_rw0) (ini := false) (M := am_m38) am_rq0 (fun z => by cases z) (List.all_eq_true.mp am_v38 e he)
set_option maxRecDepth 100000 in
theorem am_v39 : am_t39.all (fun e => am_ckI am_rw0 false prog_14_method_40_code e.1 e.2) = true := by decide +kernel
theorem am_o39 : ∀ e ∈ am_t39, am_okI am_mth am_cl am_Ts am_stx am_slk am_m39 e.1 e.2 := fun e he => am_ckI_ok (rw := am_rw0) (ini := false) (M := am_m39) am_rq0 (fun z => by cases z) (List.all_eq_true.mp am_v39 e he)
set_option maxRecDepth 100000 in
theorem am_v40 : am_t40.all (fun e => am_ckI am_rw0 false prog_14_method_41_code e.1 e.2) = true := by decide +kernel
theorem am_o40 : ∀ e ∈ am_t40, am_okI am_mth am_cl am_Ts am_stx am_slk am_m40 e.1 e.2 := fun e he => am_ckI_ok (rw := am_rw0) (ini := false) (M := am_m40) am_rq0 (fun z => by cases z) (List.all_eq_true.mp am_v40 e he)
set_option maxRecDepth 100000 in
theorem am_v41 : am_t41.all (fun e => am_ckI am_rw0 false prog_14_method_42_code e.1 e.2) = true := by decide +kernel
theorem am_o41 : ∀ e ∈ am_t41, am_okI am_mth am_cl am_Ts am_stx am_slk am_m41 e.1 e.2 := fun e he => am_ckI_ok (rw := am_rw0) (ini := false) (M := am_m41) am_rq0 (fun z => by cases z) (List.all_eq_true.mp am_v41 e he)
set_option maxRecDepth 100000 in
theorem am_v42 : am_t42.all (fun e => am_ckI am_rw0 false prog_14_method_43_code e.1 e.2) = true := by decide +kernel
theorem am_o42 : ∀ e ∈ am_t42, am_okI am_mth am_cl am_Ts am_stx am_slk am_m42 e.1 e.2 := fun e he => am_ckI_ok (rw := am_rw0) (ini := false) (M := am_m42) am_rq0 (fun z => by cases z) (List.all_eq_true.mp am_v42 e he)
set_option maxRecDepth 100000 in
theorem am_v43 : am_t43.all (fun e => am_ckI am_rw0 false prog_14_method_44_code e.1 e.2) = true := by decide +kernel
theorem am_o43 : ∀ e ∈ am_t43, am_okI am_mth am_cl am_Ts am_stx am_slk am_m43 e.1 e.2 := fun e he => am_ckI_ok (rw := am_rw0) (ini := false) (M := am_m43) am_rq0 (fun z => by cases z) (List.all_eq_true.mp am_v43 e he)
set_option maxRecDepth 100000 in
theorem am_v44 : am_t44.all (fun e => am_ckI am_rw0 false prog_14_method_45_code e.1 e.2) = true := by decide +kernel
theorem am_o44 : ∀ e ∈ am_t44, am_okI am_mth am_cl am_Ts am_stx am_slk am_m44 e.1 e.2 := fun e he => am_ckI_ok (rw := am_rw0) (ini := false) (M := am_m44) am_rq0 (fun z => by cases z) (List.all_eq_true.mp am_v44 e he)
set_option maxRecDepth 100000 in
theorem am_v45 : am_t45.all (fun e => am_ckI am_rw0 false prog_14_method_46_code e.1 e.2) = true := by decide +kernel
theorem am_o45 : ∀ e ∈ am_t45, am_okI am_mth am_cl am_Ts am_stx am_slk am_m45 e.1 e.2 := fun e he => am_ckI_ok (rw := am_rw0) (ini := false) (M := am_m45) am_rq0 (fun z => by cases z) (List.all_eq_true.mp am_v45 e he)
set_option maxRecDepth 100000 in
theorem am_v46 : am_t46.all (fun e => am_ckI am_rw0 false prog_14_method_47_code e.1 e.2) = true := by decide +kernel
theorem am_o46 : ∀ e ∈ am_t46, am_okI am_mth am_cl am_Ts am_stx am_slk am_m46 e.1 e.2 := fun e he => am_ckI_ok (rw := am_rw0) (ini := false) (M := am_m46) am_rq0 (fun z => by cases z) (List.all_eq_true.mp am_v46 e he)
set_option maxRecDepth 100000 in
theorem am_v47 : am_t47.all (fun e => am_ckI am_rw0 false prog_14_method_48_code e.1 e.2) = true := by decide +kernel
theorem am_o47 : ∀ e ∈ am_t47, am_okI am_mth am_cl am_Ts am_stx am_slk am_m47 e.1 e.2 := fun e he => am_ckI_ok (rw := am_rw0) (ini := false) (M := am_m47) am_rq0 (fun z => by cases z) (List.all_eq_true.mp am_v47 e he)
set_option maxRecDepth 100000 in
theorem am_v48 : am_t48.all (fun e => am_ckI am_rw0 false prog_14_method_49_code e.1 e.2) = true := by decide +kernel
theorem am_o48 : ∀ e ∈ am_t48, am_okI am_mth am_cl am_Ts am_stx am_slk am_m48 e.1 e.2 := fun e he => am_ckI_ok (rw := am_rw0) (ini := false) (M := am_m48) am_rq0 (fun z => by cases z) (List.all_eq_true.mp am_v48 e he)
set_option maxRecDepth 100000 in
theorem am_v49 : am_t49.all (fun e => am_ckI am_rw0 false prog_14_method_50_code e.1 e.2) = true := by decide +kernel
theorem am_o49 : ∀ e ∈ am_t49, am_okI am_mth am_cl am_Ts am_stx am_slk am_m49 e.1 e.2 := fun e he => am_ckI_ok (rw := am_rw0) (ini := false) (M := am_m49) am_rq0 (fun z => by cases z) (List.all_eq_true.mp am_v49 e he)
