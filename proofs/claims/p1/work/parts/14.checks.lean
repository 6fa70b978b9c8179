/-! PART 14: the instructions are checked -/
set_option maxRecDepth 100000 in
theorem am_v50 : am_t50.all (fun e => am_ckI am_rw0 false prog_14_method_51_code e.1 e.2) = true := by decide +kernel
theorem am_o50 : ∀ e ∈ am_t50, am_okI am_mth am_cl am_Ts am_stx am_slk am_m50 e.1 e.2 := fun e he => am_ckI_ok (rw := am_rw0) (ini := false) (M := am_m50) am_rq0 (fun z => by cases z) (List.all_eq_true.mp am_v50 e he)
set_option maxRecDepth 100000 in
theorem am_v51 : am_t51.all (fun e => am_ckI am_rw0 false prog_14_method_52_code e.1 e.2) = true := by decide +kernel
theorem am_o51 : ∀ e ∈ am_t51, am_okI am_mth am_cl am_Ts am_stx am_slk am_m51 e.1 e.2 := fun e he => am_ckI_ok (rw := am_rw0) (ini := false) (M := am_m51) am_rq0 (fun z => by cases z) (List.all_eq_true.mp am_v51 e he)
set_option maxRecDepth 100000 in
theorem am_v52 : am_t52.all (fun e => am_ckI am_rw0 false prog_14_method_53_code e.1 e.2) = true := by decide +kernel
theorem am_o52 : ∀ e ∈ am_t52, am_okI am_mth am_cl am_Ts am_stx am_slk am_m52 e.1 e.2 := fun e he => am_ckI_ok (rw := am_rw0) (ini := false) (M := am_m52) am_rq0 (fun z => by cases z) (List.all_eq_true.mp am_v52 e he)
set_option maxRecDepth 100000 in
theorem am_v53 : am_t53.all (fun e => am_ckI am_rw0 false prog_14_method_54_code e.1 e.2) = true := by decide +kernel
theorem am_o53 : ∀ e ∈ am_t53, am_okI am_mth am_cl am_Ts am_stx am_slk am_m53 e.1 e.2 := fun e he => am_ckI_ok (rw := am_rw0) (ini := false) (M := am_m53) am_rq0 (fun z => by cases z) (List.all_eq_true.mp am_v53 e he)
set_option maxRecDepth 100000 in
theorem am_v54 : am_t54.all (fun e => am_ckI am_rw0 false prog_14_method_55_code e.1 e.2) = true := by decide +kernel
theorem am_o54 : ∀ e ∈ am_t54, am_okI am_mth am_cl am_Ts am_stx am_slk am_m54 e.1 e.2 := fun e he => am_ckI_ok (rw := am_rw0) (ini := false) (M := am_m54) am_rq0 (fun z => by cases z) (List.all_eq_true.mp am_v54 e he)
set_option maxRecDepth 100000 in
theorem am_v55 : am_t55.all (fun e => am_ckI am_rw0 false prog_14_method_56_code e.1 e.2) = true := by decide +kernel
theorem am_o55 : ∀ e ∈ am_t55, am_okI am_mth am_cl am_Ts am_stx am_slk am_m55 e.1 e.2 := fun e he => am_ckI_ok (rw := am_rw0) (ini := false) (M := am_m55) am_rq0 (fun z => by cases z) (List.all_eq_true.mp am_v55 e he)
set_option maxRecDepth 100000 in
theorem am_v56 : am_t56.all (fun e => am_ckI am_rw0 false prog_14_method_57_code e.1 e.2) = true := by decide +kernel
theorem am_o56 : ∀ e ∈ am_t56, am_okI am_mth am_cl am_Ts am_stx am_slk am_m56 e.1 e.2 := fun e he => am_ckI_ok (rw := am_rw0) (ini := false) (M := am_m56) am_rq0 (fun z => by cases z) (List.all_eq_true.mp am_v56 e he)
set_option maxRecDepth 100000 in
theorem am_v57 : am_t57.all (fun e => am_ckI am_rw0 false prog_14_method_58_code e.1 e.2) = true := by decide +kernel
theorem am_o57 : ∀ e ∈ am_t57, am_okI am_mth am_cl am_Ts am_stx am_slk am_m57 e.1 e.2 := fun e he => am_ckI_ok (rw := am_rw0) (ini := false) (M := am_m57) am_rq0 (fun z => by cases z) (List.all_eq_true.mp am_v57 e he)
set_option maxRecDepth 100000 in
theorem am_v58 : am_t58.all (fun e => am_ckI am_rw0 false prog_14_method_59_code e.1 e.2) = true := by decide +kernel
theorem am_o58 : ∀ e ∈ am_t58, am_okI am_mth am_cl am_Ts am_stx am_slk am_m58 e.1 e.2 := fun e he => am_ckI_ok (rw := am_rw0) (ini := false) (M := am_m58) am_rq0 (fun z => by cases z) (List.all_eq_true.mp am_v58 e he)
set_option maxRecDepth 100000 in
theorem am_v59 : am_t59.all (fun e => am_ckI am_rw0 false prog_14_method_60_code e.1 e.2) = true := by decide +kernel
theorem am_o59 : ∀ e ∈ am_t59, am_okI am_mth am_cl am_Ts am_stx am_slk am_m59 e.1 e.2 := fun e he => am_ckI_ok (rw := am_rw0) (ini := false) (M := am_m59) am_rq0 (fun z => by cases z) (List.all_eq_true.mp am_v59 e he)
set_option maxRecDepth 100000 in
theorem am_v60 : am_t60.all (fun e => am_ckI am_rw0 false prog_14_method_61_code e.1 e.2) = true := by decide +kernel
theorem am_o60 : ∀ e ∈ am_t60, am_okI am_mth am_cl am_Ts am_stx am_slk am_m60 e.1 e.2 := fun e he => am_ckI_ok (rw := am_rw0) (ini := false) (M := am_m60) am_rq0 (fun z => by cases z) (List.all_eq_true.mp am_v60 e he)
set_option maxRecDepth 100000 in
theorem am_v61 : am_t61.all (fun e => am_ckI am_rw0 false prog_14_method_62_code e.1 e.2) = true := by decide +kernel
theorem am_o61 : ∀ e ∈ am_t61, am_okI am_mth am_cl am_Ts am_stx am_slk am_m61 e.1 e.2 := fun e he => am_ckI_ok (rw := am_rw0) (ini := false) (M := am_m61) am_rq0 (fun z => by cases z) (List.all_eq_true.mp am_v61 e he)
set_option maxRecDepth 100000 in
theorem am_v62 : am_t62.all (fun e => am_ckI am_rw0 false prog_14_method_63_code e.1 e.2) = true := by decide +kernel
theorem am_o62 : ∀ e ∈ am_t62, am_okI am_mth am_cl am_Ts am_stx am_slk am_m62 e.1 e.2 := fun e he => am_ckI_ok (rw := am_rw0) (ini := false) (M := am_m62) am_rq0 (fun z => by cases z) (List.all_eq_true.mp am_v62 e he)
set_option maxRecDepth 100000 in
theorem am_v63 : am_t63.all (fun e => am_ckI am_rw0 false prog_14_method_64_code e.1 e.2) = true := by decide +kernel
theorem am_o63 : ∀ e ∈ am_t63, am_okI am_mth am_cl am_Ts am_stx am_slk am_m63 e.1 e.2 := fun e he => am_ckI_ok (rw := am_rw0) (ini := false) (M := am_m63) am_rq0 (fun z => by cases z) (List.all_eq_true.mp am_v63 e he)
set_option maxRecDepth 100000 in
theorem am_v64 : am_t64.all (fun e => am_ckI am_rw0 false prog_14_method_65_code e.1 e.2) = true := by decide +kernel
theorem am_o64 : ∀ e ∈ am_t64, am_okI am_mth am_cl am_Ts am_stx am_slk am_m64 e.1 e.2 := fun e he => am_ckI_ok (rw := am_rw0) (ini := false) (M := am_m64) am_rq0 (fun z => by cases z) (List.all_eq_true.mp am_v64 e he)
set_option maxRecDepth 100000 in
theorem am_v65 : am_t65.all (fun e => am_ckI am_rw0 false prog_14_method_66_code e.1 e.2) = true := by decide +kernel
theorem am_o65 : ∀ e ∈ am_t65, am_okI am_mth am_cl am_Ts am_stx am_slk am_m65 e.1 e.2 := fun e he => am_ckI_ok (rw := am_rw0) (ini := false) (M := am_m65) am_rq0 (fun z => by cases z) (List.all_eq_true.mp am_v65 e he)
set_option maxRecDepth 100000 in
theorem am_v66 : am_t66.all (fun e => am_ckI am_rw0 false prog_14_method_67_code e.1 e.2) = true := by decide +kernel
theorem am_o66 : ∀ e ∈ am_t66, am_okI am_mth am_cl am_Ts am_stx am_slk am_m66 e.1 e.2 := fun e he => am_ckI_ok (rw := am_rw0) (ini := false) (M := am_m66) am_rq0 (fun z => by cases z) (List.all_eq_true.mp am_v66 e he)
set_option maxRecDepth 100000 in
theorem am_v67 : am_t67.all (fun e => am_ckI am_rw0 false prog_14_method_68_code e.1 e.2) = true := by decide +kernel
theorem am_o67 : ∀ e ∈ am_t67, am_okI am_mth am_cl am_Ts am_stx am_slk am_m67 e.1 e.2 := fun e he => am_ckI_ok (rw := am_rw0) (ini := false) (M := am_m67) am_rq0 (fun z => by cases z) (List.all_eq_true.mp am_v67 e he)
set_option maxRecDepth 100000 in
theorem am_v68 : am_t68.all (fun e => am_ckI am_rw0 false prog_14_method_69_code e.1 e.2) = true := by decide +kernel
theorem am_o68 : ∀ e ∈ am_t68, am_okI am_mth am_cl am_Ts am_stx am_slk am_m68 e.1 e.2 := fun e he => am_ckI_ok (rw := am_rw0) (ini := false) (M := am_m68) am_rq0 (fun z => by cases z) (List.all_eq_true.mp am_v68 e he)
set_option maxRecDepth 100000 in
theorem am_v69 : am_t69.all (fun e => am_ckI am_rw0 false prog_14_method_70_code e.1 e.2) = true := by decide +kernel
theorem am_o69 : ∀ e ∈ am_t69, am_okI am_mth am_cl am_Ts am_stx am_slk am_m69 e.1 e.2 := fun e he => am_ckI_ok (rw := am_rw0) (ini := false) (M := am_m69) am_rq0 (fun z => by cases z) (List.all_eq_true.mp am_v69 e he)
set_option maxRecDepth 100000 in
theorem am_v70 : am_t70.all (fun e => am_ckI am_rw0 false prog_14_method_71_code e.1 e.2) = true := by decide +kernel
theorem am_o70 : ∀ e ∈ am_t70, am_okI am_mth am_cl am_Ts am_stx am_slk am_m70 e.1 e.2 := fun e he => am_ckI_ok (rw := am_rw0) (ini := false) (M := am_m70) am_rq0 (fun z => by cases z) (List.all_eq_true.mp am_v70 e he)
set_option maxRecDepth 100000 in
theorem am_v71 : am_t71.all (fun e => am_ckI am_rw0 false prog_14_method_72_code e.1 e.2) = true := by decide +kernel
theorem am_o71 : ∀ e ∈ am_t71, am_okI am_mth am_cl am_Ts am_stx am_slk am_m71 e.1 e.2 := fun e he => am_ckI_ok (rw := am_rw0) (ini := false) (M := am_m71) am_rq0 (fun z => by cases z) (List.all_eq_true.mp am_v71 e he)
set_option maxRecDepth 100000 in
theorem am_v72 : am_t72.all (fun e => am_ckI am_rw0 false prog_14_method_73_code e.1 e.2) = true := by decide +kernel
theorem am_o72 : ∀ e ∈ am_t72, am_okI am_mth am_cl am_Ts am_stx am_slk am_m72 e.1 e.2 := fun e he => am_ckI_ok (rw := am_rw0) (ini := false) (M := am_m72) am_rq0 (fun z => by cases z) (List.all_eq_true.mp am_v72 e he)
set_option maxRecDepth 100000 in
theorem am_v73 : am_t73.all (fun e => am_ckI am_rw0 false prog_14_method_74_code e.1 e.2) = true := by decide +kernel
theorem am_o73 : ∀ e ∈ am_t73, am_okI am_mth am_cl am_Ts am_stx am_slk am_m73 e.1 e.2 := fun e he => am_ckI_ok (rw := am_rw0) (ini := false) (M := am_m73) am_rq0 (fun z => by cases z) (List.all_eq_true.mp am_v73 e he)
set_option maxRecDepth 100000 in
theorem am_v74 : am_t74.all (fun e => am_ckI am_rw0 false prog_14_method_75_code e.1 e.2) = true := by decide +kernel
theorem am_o74 : ∀ e ∈ am_t74, am_okI am_mth am_cl am_Ts am_stx am_slk am_m74 e.1 e.2 := fun e he => am_ckI_ok (rw := am_rw0) (ini := false) (M := am_m74) am_rq0 (fun z => by cases z) (List.all_eq_true.mp am_v74 e he)
set_option maxRecDepth 100000 in
theorem am_v75 : am_t75.all (fun e => am_ckI am_rw0 false prog_14_method_76_code e.1 e.2) = true := by decide +kernel
theorem am_o75 : ∀ e ∈ am_t75, am_okI am_mth am_cl am_Ts am_stx am_slk am_m75 e.1 e.2 := fun e he => am_ckI_ok (rw := am_rw0) (ini := false) (M := am_m75) am_rq0 (fun z => by cases z) (List.all_eq_true.mp am_v75 e he)
set_option maxRecDepth 100000 in
theorem am_v76 : am_t76.all (fun e => am_ckI am_rw0 false prog_14_method_77_code e.1 e.2) = true := by decide +kernel
theorem am_o76 : ∀ e ∈ am_t76, am_okI am_mth am_cl am_Ts am_stx am_slk am_m76 e.1 e.2 := fun e he => am_ckI_ok (rw := am_rw0) (ini := false) (M := am_m76) am_rq0 (fun z => by cases z) (List.all_eq_true.mp am_v76 e he)
set_option maxRecDepth 100000 in
theorem am_v77 : am_t77.all (fun e => am_ckI am_rw0 false prog_14_method_78_code e.1 e.2) = true := by decide +kernel
theorem am_o77 : ∀ e ∈ am_t77, am_okI am_mth am_cl am_Ts am_stx am_slk am_m77 e.1 e.2 := fun e he => am_ckI_ok (rw := am_rw0) (ini := false) (M := am_m77) am_rq0 (fun z => by cases z) (List.all_eq_true.mp am_v77 e he)
set_option maxRecDepth 100000 in
theorem am_v78 : am_t78.all (fun e => am_ckI am_rw0 false prog_14_method_79_code e.1 e.2) = true := by decide +kernel
theorem am_o78 : ∀ e ∈ am_t78, am_okI am_mth am_cl am_Ts am_stx am_slk am_m78 e.1 e.2 := fun e he => am_ckI_ok (rw := am_rw0) (ini := false) (M := am_m78) am_rq0 (fun z => by cases z) (List.all_eq_true.mp am_v78 e he)
set_option maxRecDepth 100000 in
theorem am_v79 : am_t79.all (fun e => am_ckI am_rw0 false prog_14_method_80_code e.1 e.2) = true := by decide +kernel
theorem am_o79 : ∀ e ∈ am_t79, am_okI am_mth am_cl am_Ts am_stx am_slk am_m79 e.1 e.2 := fun e he => am_ckI_ok (rw := am_rw0) (ini := false) (M := am_m79) am_rq0 (fun z => by cases z) (List.all_eq_true.mp am_v79 e he)
set_option maxRecDepth 100000 in
theorem am_v80 : am_t80.all (fun e => am_ckI am_rw0 false prog_14_method_81_code e.1 e.2) = true := by decide +kernel
theorem am_o80 : ∀ e ∈ am_t80, am_okI am_mth am_cl am_Ts am_stx am_slk am_m80 e.1 e.2 := fun e he => am_ckI_ok (rw := am_rw0) (ini := false) (M := am_m80) am_rq0 (fun z => by cases z) (List.all_eq_true.mp am_v80 e he)
set_option maxRecDepth 100000 in
theorem am_v81 : am_t81.all (fun e => am_ckI am_rw0 false prog_14_method_82_code e.1 e.2) = true := by decide +kernel
theorem am_o81 : ∀ e ∈ am_t81, am_okI am_mth am_cl am_Ts am_stx am_slk am_m81 e.1 e.2 := fun e he => am_ckI_ok (rw := am_rw0) (ini := false) (M := am_m81) am_rq0 (fun z => by cases z) (List.all_eq_true.mp am_v81 e he)
set_option maxRecDepth 100000 in
theorem am_v82 : am_t82.all (fun e => am_ckI am_rw0 false prog_14_method_83_code e.1 e.2) = true := by decide +kernel
theorem am_o82 : ∀ e ∈ am_t82, am_okI am_mth am_cl am_Ts am_stx am_slk am_m82 e.1 e.2 := fun e he => am_ckI_ok (rw := am_rw0) (ini := false) (M := am_m82) am_rq0 (fun z => by cases z) (List.all_eq_true.mp am_v82 e he)
set_option maxRecDepth 100000 in
theorem am_v83 : am_t83.all (fun e => am_ckI am_rw0 false prog_14_method_84_code e.1 e.2) = true := by decide +kernel
theorem am_o83 : ∀ e ∈ am_t83, am_okI am_mth am_cl am_Ts am_stx am_slk am_m83 e.1 e.2 := fun e he => am_ckI_ok (rw := am_rw0) (ini := false) (M := am_m83) am_rq0 (fun z => by cases z) (List.all_eq_true.mp am_v83 e he)
set_option maxRecDepth 100000 in
theorem am_v84 : am_t84.all (fun e => am_ckI am_rw0 false prog_14_method_85_code e.1 e.2) = true := by decide +kernel
theorem am_o84 : ∀ e ∈ am_t84, am_okI am_mth am_cl am_Ts am_stx am_slk am_m84 e.1 e.2 := fun e he => am_ckI_ok (rw := am_rw0) (ini := false) (M := am_m84) am_rq0 (fun z => by cases z) (List.all_eq_true.mp am_v84 e he)
set_option maxRecDepth 100000 in
theorem am_v85 : am_t85.all (fun e => am_ckI am_rw0 false prog_14_method_86_code e.1 e.2) = true := by decide +kernel
theorem am_o85 : ∀ e ∈ am_t85, am_okI am_mth am_cl am_Ts am_stx am_slk am_m85 e.1 e.2 := fun e he => am_ckI_ok (rw := am_rw0) (ini := false) (M := am_m85) am_rq0 (fun z => by cases z) (List.all_eq_true.mp am_v85 e he)
set_option maxRecDepth 100000 in
theorem am_v86 : am_t86.all (fun e => am_ckI am_rw0 false prog_14_method_87_code e.1 e.2) = true := by decide +kernel
theorem am_o86 : ∀ e ∈ am_t86, am_okI am_mth am_cl am_Ts am_stx am_slk am_m86 e.1 e.2 := fun e he => am_ckI_ok (rw := am_rw0) (ini := false) (M := am_m86) am_rq0 (fun z => by cases z) (List.all_eq_true.mp am_v86 e he)
set_option maxRecDepth 100000 in
theorem am_v87 : am_t87.all (fun e => am_ckI am_rw0 false prog_14_method_88_code e.1 e.2) = true := by decide +kernel
theorem am_o87 : ∀ e ∈ am_t87, am_okI am_mth am_cl am_Ts am_stx am_slk am_m87 e.1 e.2 := fun e he => am_ckI_ok (rw := am_rw0) (ini := false) (M := am_m87) am_rq0 (fun z => by cases z) (List.all_eq_true.mp am_v87 e he)
set_option maxRecDepth 100000 in
theorem am_v88 : am_t88.all (fun e => am_ckI am_rw0 false prog_14_method_89_code e.1 e.2) = true := by decide +kernel
theorem am_o88 : ∀ e ∈ am_t88, am_okI am_mth am_cl am_Ts am_stx am_slk am_m88 e.1 e.2 := fun e he => am_ckI_ok (rw := am_rw0) (ini := false) (M := am_m88) am_rq0 (fun z => by cases z) (List.all_eq_true.mp am_v88 e he)
set_option maxRecDepth 100000 in
theorem am_v89 : am_t89.all (fun e => am_ckI am_rw0 false prog_14_method_90_code e.1 e.2) = true := by decide +kernel
theorem am_o89 : ∀ e ∈ am_t89, am_okI am_mth am_cl am_Ts am_stx am_slk am_m89 e.1 e.2 := fun e he => am_ckI_ok (rw := am_rw0) (ini := false) (M := am_m89) am_rq0 (fun z => by cases z) (List.all_eq_true.mp am_v89 e he)
set_option maxRecDepth 100000 in
theorem am_v90 : am_t90.all (fun e => am_ckI am_rw0 false prog_14_method_91_code e.1 e.2) = true := by decide +kernel
theorem am_o90 : ∀ e ∈ am_t90, am_okI am_mth am_cl am_Ts am_stx am_slk am_m90 e.1 e.2 := fun e he => am_ckI_ok (rw := am_rw0) (ini := false) (M := am_m90) am_rq0 (fun z => by cases z) (List.all_eq_true.mp am_v90 e he)
set_option maxRecDepth 100000 in
theorem am_v91 : am_t91.all (fun e => am_ckI am_rw0 false prog_14_method_92_code e.1 e.2) = true := by decide +kernel
theorem am_o91 : ∀ e ∈ am_t91, am_okI am_mth am_cl am_Ts am_stx am_slk am_m91 e.1 e.2 := fun e he => am_ckI_ok (rw := am_rw0) (ini := false) (M := am_m91) am_rq0 (fun z => by cases z) (List.all_eq_true.mp am_v91 e he)
set_option maxRecDepth 100000 in
theorem am_v92 : am_t92.all (fun e => am_ckI am_rw0 false prog_14_method_93_code e.1 e.2) = true := by decide +kernel
theorem am_o92 : ∀ e ∈ am_t92, am_okI am_mth am_cl am_Ts am_stx am_slk am_m92 e.1 e.2 := fun e he => am_ckI_ok (rw := am_rw0) (ini := false) (M := am_m92) am_rq0 (fun z => by cases z) (List.all_eq_true.mp am_v92 e he)
set_option maxRecDepth 100000 in
theorem am_v93 : am_t93.all (fun e => am_ckI am_rw0 false prog_14_method_94_code e.1 e.2) = true := by decide +kernel
theorem am_o93 : ∀ e ∈ am_t93, am_okI am_mth am_cl am_Ts am_stx am_slk am_m93 e.1 e.2 := fun e he => am_ckI_ok (rw := am_rw0) (ini := false) (M := am_m93) am_rq0 (fun z => by cases z) (List.all_eq_true.mp am_v93 e he)
set_option maxRecDepth 100000 in
theorem am_v94 : am_t94.all (fun e => am_ckI am_rw0 false prog_14_method_95_code e.1 e.2) = true := by decide +kernel
theorem am_o94 : ∀ e ∈ am_t94, am_okI am_mth am_cl am_Ts am_stx am_slk am_m94 e.1 e.2 := fun e he => am_ckI_ok (rw := am_rw0) (ini := false) (M := am_m94) am_rq0 (fun z => by cases z) (List.all_eq_true.mp am_v94 e he)
set_option maxRecDepth 100000 in
theorem am_v95 : am_t95.all (fun e => am_ckI am_rw0 false prog_14_method_96_code e.1 e.2) = true := by decide +kernel
theorem am_o95 : ∀ e ∈ am_t95, am_okI am_mth am_cl am_Ts am_stx am_slk am_m95 e.1 e.2 := fun e he => am_ckI_ok (rw := am_rw0) (ini := false) (M := am_m95) am_rq0 (fun z => by cases z) (List.all_eq_true.mp am_v95 e he)
set_option maxRecDepth 100000 in
theorem am_v96 : am_t96.all (fun e => am_ckI am_rw1 false code e.1 e.2) = true := by decide +kernel
theorem am_o96 : ∀ e ∈ am_t96, am_okI am_mth am_cl am_Ts am_stx am_slk am_m96 e.1 e.2 := fun e he => am_ckI_ok (rw := am_rw1) (ini := false) (M := am_m96) am_rq1 (fun z => by cases z) (List.all_eq_true.mp am_v96 e he)
set_option maxRecDepth 100000 in
theorem am_v97 : am_t97.all (fun e => am_ckI am_rw2 true prog_1_method_1_code e.1 e.2) = true := by decide +kernel
theorem am_o97 : ∀ e ∈ am_t97, am_okI am_mth am_cl am_Ts am_stx am_slk am_m97 e.1 e.2 := fun e he => am_ckI_ok (rw := am_rw2) (ini := true) (M := am_m97) am_rq2 (fun z => rfl) (List.all_eq_true.mp am_v97 e he)
set_option maxRecDepth 100000 in
theorem am_v98 : am_t98.all (fun e => am_ckI am_rw2 false prog_1_method_2_code e.1 e.2) = true := by decide +kernel
theorem am_o98 : ∀ e ∈ am_t98, am_okI am_mth am_cl am_Ts am_stx am_slk am_m98 e.1 e.2 := fun e he => am_ckI_ok (rw := am_rw2) (ini := false) (M := am_m98) am_rq2 (fun z => by cases z) (List.all_eq_true.mp am_v98 e he)
set_option maxRecDepth 100000 in
theorem am_v99 : am_t99.all (fun e => am_ckI am_rw2 false prog_1_method_3_code e.1 e.2) = true := by decide +kernel
theorem am_o99 : ∀ e ∈ am_t99, am_okI am_mth am_cl am_Ts am_stx am_slk am_m99 e.1 e.2 := fun e he => am_ckI_ok (rw := am_rw2) (ini := false) (M := am_m99) am_rq2 (fun z => by cases z) (List.all_eq_true.mp am_v99 e he)
set_option maxRecDepth 100000 in
theorem am_v100 : am_t100.all (fun e => am_ckI am_rw2 false prog_1_method_4_code e.1 e.2) = true := by decide +kernel
theorem am_o100 : ∀ e ∈ am_t100, am_okI am_mth am_cl am_Ts am_stx am_slk am_m100 e.1 e.2 := fun e he => am_ckI_ok (rw := am_rw2) (ini := false) (M := am_m100) am_rq2 (fun z => by cases z) (List.all_eq_true.mp am_v100 e he)
