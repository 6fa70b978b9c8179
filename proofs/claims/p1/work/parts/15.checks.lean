/-! PART 15: the instructions are checked -/
set_option maxRecDepth 100000 in
theorem am_v101 : am_t101.all (fun e => am_ckI am_rw2 false prog_1_method_5_code e.1 e.2) = true := by decide +kernel
theorem am_o101 : ∀ e ∈ am_t101, am_okI am_mth am_cl am_Ts am_stx am_slk am_m101 e.1 e.2 := fun e he => am_ckI_ok (rw := am_rw2) (ini := false) (M := am_m101) am_rq2 (fun z => by cases z) (List.all_eq_true.mp am_v101 e he)
set_option maxRecDepth 100000 in
theorem am_v102 : am_t102.all (fun e => am_ckI am_rw2 false prog_1_method_6_code e.1 e.2) = true := by decide +kernel
theorem am_o102 : ∀ e ∈ am_t102, am_okI am_mth am_cl am_Ts am_stx am_slk am_m102 e.1 e.2 := fun e he => am_ckI_ok (rw := am_rw2) (ini := false) (M := am_m102) am_rq2 (fun z => by cases z) (List.all_eq_true.mp am_v102 e he)
set_option maxRecDepth 100000 in
theorem am_v103 : am_t103.all (fun e => am_ckI am_rw2 false prog_1_method_7_code e.1 e.2) = true := by decide +kernel
theorem am_o103 : ∀ e ∈ am_t103, am_okI am_mth am_cl am_Ts am_stx am_slk am_m103 e.1 e.2 := fun e he => am_ckI_ok (rw := am_rw2) (ini := false) (M := am_m103) am_rq2 (fun z => by cases z) (List.all_eq_true.mp am_v103 e he)
set_option maxRecDepth 100000 in
theorem am_v104 : am_t104.all (fun e => am_ckI am_rw2 false prog_1_method_8_code e.1 e.2) = true := by decide +kernel
theorem am_o104 : ∀ e ∈ am_t104, am_okI am_mth am_cl am_Ts am_stx am_slk am_m104 e.1 e.2 := fun e he => am_ckI_ok (rw := am_rw2) (ini := false) (M := am_m104) am_rq2 (fun z => by cases z) (List.all_eq_true.mp am_v104 e he)
set_option maxRecDepth 100000 in
theorem am_v105 : am_t105.all (fun e => am_ckI am_rw2 false prog_1_method_9_code e.1 e.2) = true := by decide +kernel
theorem am_o105 : ∀ e ∈ am_t105, am_okI am_mth am_cl am_Ts am_stx am_slk am_m105 e.1 e.2 := fun e he => am_ckI_ok (rw := am_rw2) (ini := false) (M := am_m105) am_rq2 (fun z => by cases z) (List.all_eq_true.mp am_v105 e he)
set_option maxRecDepth 100000 in
theorem am_v106 : am_t106.all (fun e => am_ckI am_rw2 false prog_1_method_10_code e.1 e.2) = true := by decide +kernel
theorem am_o106 : ∀ e ∈ am_t106, am_okI am_mth am_cl am_Ts am_stx am_slk am_m106 e.1 e.2 := fun e he => am_ckI_ok (rw := am_rw2) (ini := false) (M := am_m106) am_rq2 (fun z => by cases z) (List.all_eq_true.mp am_v106 e he)
set_option maxRecDepth 100000 in
theorem am_v107 : am_t107.all (fun e => am_ckI am_rw3 true prog_2_method_1_code e.1 e.2) = true := by decide +kernel
theorem am_o107 : ∀ e ∈ am_t107, am_okI am_mth am_cl am_Ts am_stx am_slk am_m107 e.1 e.2 := fun e he => am_ckI_ok (rw := am_rw3) (ini := true) (M := am_m107) am_rq3 (fun z => rfl) (List.all_eq_true.mp am_v107 e he)
set_option maxRecDepth 100000 in
theorem am_v108 : am_t108.all (fun e => am_ckI am_rw3 false prog_2_method_2_code e.1 e.2) = true := by decide +kernel
theorem am_o108 : ∀ e ∈ am_t108, am_okI am_mth am_cl am_Ts am_stx am_slk am_m108 e.1 e.2 := fun e he => am_ckI_ok (rw := am_rw3) (ini := false) (M := am_m108) am_rq3 (fun z => by cases z) (List.all_eq_true.mp am_v108 e he)
set_option maxRecDepth 100000 in
theorem am_v109 : am_t109.all (fun e => am_ckI am_rw3 false prog_2_method_3_code e.1 e.2) = true := by decide +kernel
theorem am_o109 : ∀ e ∈ am_t109, am_okI am_mth am_cl am_Ts am_stx am_slk am_m109 e.1 e.2 := fun e he => am_ckI_ok (rw := am_rw3) (ini := false) (M := am_m109) am_rq3 (fun z => by cases z) (List.all_eq_true.mp am_v109 e he)
set_option maxRecDepth 100000 in
theorem am_v110 : am_t110.all (fun e => am_ckI am_rw3 false prog_2_method_4_code e.1 e.2) = true := by decide +kernel
theorem am_o110 : ∀ e ∈ am_t110, am_okI am_mth am_cl am_Ts am_stx am_slk am_m110 e.1 e.2 := fun e he => am_ckI_ok (rw := am_rw3) (ini := false) (M := am_m110) am_rq3 (fun z => by cases z) (List.all_eq_true.mp am_v110 e he)
set_option maxRecDepth 100000 in
theorem am_v111 : am_t111.all (fun e => am_ckI am_rw3 false prog_2_method_5_code e.1 e.2) = true := by decide +kernel
theorem am_o111 : ∀ e ∈ am_t111, am_okI am_mth am_cl am_Ts am_stx am_slk am_m111 e.1 e.2 := fun e he => am_ckI_ok (rw := am_rw3) (ini := false) (M := am_m111) am_rq3 (fun z => by cases z) (List.all_eq_true.mp am_v111 e he)
set_option maxRecDepth 100000 in
theorem am_v112 : am_t112.all (fun e => am_ckI am_rw3 false prog_2_method_6_code e.1 e.2) = true := by decide +kernel
theorem am_o112 : ∀ e ∈ am_t112, am_okI am_mth am_cl am_Ts am_stx am_slk am_m112 e.1 e.2 := fun e he => am_ckI_ok (rw := am_rw3) (ini := false) (M := am_m112) am_rq3 (fun z => by cases z) (List.all_eq_true.mp am_v112 e he)
set_option maxRecDepth 100000 in
theorem am_v113 : am_t113.all (fun e => am_ckI am_rw3 false prog_2_method_7_code e.1 e.2) = true := by decide +kernel
theorem am_o113 : ∀ e ∈ am_t113, am_okI am_mth am_cl am_Ts am_stx am_slk am_m113 e.1 e.2 := fun e he => am_ckI_ok (rw := am_rw3) (ini := false) (M := am_m113) am_rq3 (fun z => by cases z) (List.all_eq_true.mp am_v113 e he)
set_option maxRecDepth 100000 in
theorem am_v114 : am_t114.all (fun e => am_ckI am_rw3 false prog_2_method_8_code e.1 e.2) = true := by decide +kernel
theorem am_o114 : ∀ e ∈ am_t114, am_okI am_mth am_cl am_Ts am_stx am_slk am_m114 e.1 e.2 := fun e he => am_ckI_ok (rw := am_rw3) (ini := false) (M := am_m114) am_rq3 (fun z => by cases z) (List.all_eq_true.mp am_v114 e he)
set_option maxRecDepth 100000 in
theorem am_v115 : am_t115.all (fun e => am_ckI am_rw3 false prog_2_method_9_code e.1 e.2) = true := by decide +kernel
theorem am_o115 : ∀ e ∈ am_t115, am_okI am_mth am_cl am_Ts am_stx am_slk am_m115 e.1 e.2 := fun e he => am_ckI_ok (rw := am_rw3) (ini := false) (M := am_m115) am_rq3 (fun z => by cases z) (List.all_eq_true.mp am_v115 e he)
set_option maxRecDepth 100000 in
theorem am_v116 : am_t116.all (fun e => am_ckI am_rw3 false prog_2_method_10_code e.1 e.2) = true := by decide +kernel
theorem am_o116 : ∀ e ∈ am_t116, am_okI am_mth am_cl am_Ts am_stx am_slk am_m116 e.1 e.2 := fun e he => am_ckI_ok (rw := am_rw3) (ini := false) (M := am_m116) am_rq3 (fun z => by cases z) (List.all_eq_true.mp am_v116 e he)
set_option maxRecDepth 100000 in
theorem am_v117 : am_t117.all (fun e => am_ckI am_rw4 true prog_3_method_1_code e.1 e.2) = true := by decide +kernel
theorem am_o117 : ∀ e ∈ am_t117, am_okI am_mth am_cl am_Ts am_stx am_slk am_m117 e.1 e.2 := fun e he => am_ckI_ok (rw := am_rw4) (ini := true) (M := am_m117) am_rq4 (fun z => rfl) (List.all_eq_true.mp am_v117 e he)
set_option maxRecDepth 100000 in
theorem am_v118 : am_t118.all (fun e => am_ckI am_rw4 false prog_3_method_2_code e.1 e.2) = true := by decide +kernel
theorem am_o118 : ∀ e ∈ am_t118, am_okI am_mth am_cl am_Ts am_stx am_slk am_m118 e.1 e.2 := fun e he => am_ckI_ok (rw := am_rw4) (ini := false) (M := am_m118) am_rq4 (fun z => by cases z) (List.all_eq_true.mp am_v118 e he)
set_option maxRecDepth 100000 in
theorem am_v119 : am_t119.all (fun e => am_ckI am_rw4 false prog_3_method_3_code e.1 e.2) = true := by decide +kernel
theorem am_o119 : ∀ e ∈ am_t119, am_okI am_mth am_cl am_Ts am_stx am_slk am_m119 e.1 e.2 := fun e he => am_ckI_ok (rw := am_rw4) (ini := false) (M := am_m119) am_rq4 (fun z => by cases z) (List.all_eq_true.mp am_v119 e he)
set_option maxRecDepth 100000 in
theorem am_v120 : am_t120.all (fun e => am_ckI am_rw4 false prog_3_method_4_code e.1 e.2) = true := by decide +kernel
theorem am_o120 : ∀ e ∈ am_t120, am_okI am_mth am_cl am_Ts am_stx am_slk am_m120 e.1 e.2 := fun e he => am_ckI_ok (rw := am_rw4) (ini := false) (M := am_m120) am_rq4 (fun z => by cases z) (List.all_eq_true.mp am_v120 e he)
set_option maxRecDepth 100000 in
theorem am_v121 : am_t121.all (fun e => am_ckI am_rw4 false prog_3_method_5_code e.1 e.2) = true := by decide +kernel
theorem am_o121 : ∀ e ∈ am_t121, am_okI am_mth am_cl am_Ts am_stx am_slk am_m121 e.1 e.2 := fun e he => am_ckI_ok (rw := am_rw4) (ini := false) (M := am_m121) am_rq4 (fun z => by cases z) (List.all_eq_true.mp am_v121 e he)
set_option maxRecDepth 100000 in
theorem am_v122 : am_t122.all (fun e => am_ckI am_rw4 false prog_3_method_6_code e.1 e.2) = true := by decide +kernel
theorem am_o122 : ∀ e ∈ am_t122, am_okI am_mth am_cl am_Ts am_stx am_slk am_m122 e.1 e.2 := fun e he => am_ckI_ok (rw := am_rw4) (ini := false) (M := am_m122) am_rq4 (fun z => by cases z) (List.all_eq_true.mp am_v122 e he)
set_option maxRecDepth 100000 in
theorem am_v123 : am_t123.all (fun e => am_ckI am_rw4 false prog_3_method_7_code e.1 e.2) = true := by decide +kernel
theorem am_o123 : ∀ e ∈ am_t123, am_okI am_mth am_cl am_Ts am_stx am_slk am_m123 e.1 e.2 := fun e he => am_ckI_ok (rw := am_rw4) (ini := false) (M := am_m123) am_rq4 (fun z => by cases z) (List.all_eq_true.mp am_v123 e he)
set_option maxRecDepth 100000 in
theorem am_v124 : am_t124.all (fun e => am_ckI am_rw4 false prog_3_method_8_code e.1 e.2) = true := by decide +kernel
theorem am_o124 : ∀ e ∈ am_t124, am_okI am_mth am_cl am_Ts am_stx am_slk am_m124 e.1 e.2 := fun e he => am_ckI_ok (rw := am_rw4) (ini := false) (M := am_m124) am_rq4 (fun z => by cases z) (List.all_eq_true.mp am_v124 e he)
set_option maxRecDepth 100000 in
theorem am_v125 : am_t125.all (fun e => am_ckI am_rw4 false prog_3_method_9_code e.1 e.2) = true := by decide +kernel
theorem am_o125 : ∀ e ∈ am_t125, am_okI am_mth am_cl am_Ts am_stx am_slk am_m125 e.1 e.2 := fun e he => am_ckI_ok (rw := am_rw4) (ini := false) (M := am_m125) am_rq4 (fun z => by cases z) (List.all_eq_true.mp am_v125 e he)
set_option maxRecDepth 100000 in
theorem am_v126 : am_t126.all (fun e => am_ckI am_rw4 false prog_3_method_10_code e.1 e.2) = true := by decide +kernel
theorem am_o126 : ∀ e ∈ am_t126, am_okI am_mth am_cl am_Ts am_stx am_slk am_m126 e.1 e.2 := fun e he => am_ckI_ok (rw := am_rw4) (ini := false) (M := am_m126) am_rq4 (fun z => by cases z) (List.all_eq_true.mp am_v126 e he)
set_option maxRecDepth 100000 in
theorem am_v127 : am_t127.all (fun e => am_ckI am_rw5 true prog_4_method_1_code e.1 e.2) = true := by decide +kernel
theorem am_o127 : ∀ e ∈ am_t127, am_okI am_mth am_cl am_Ts am_stx am_slk am_m127 e.1 e.2 := fun e he => am_ckI_ok (rw := am_rw5) (ini := true) (M := am_m127) am_rq5 (fun z => rfl) (List.all_eq_true.mp am_v127 e he)
set_option maxRecDepth 100000 in
theorem am_v128 : am_t128.all (fun e => am_ckI am_rw5 false prog_4_method_2_code e.1 e.2) = true := by decide +kernel
theorem am_o128 : ∀ e ∈ am_t128, am_okI am_mth am_cl am_Ts am_stx am_slk am_m128 e.1 e.2 := fun e he => am_ckI_ok (rw := am_rw5) (ini := false) (M := am_m128) am_rq5 (fun z => by cases z) (List.all_eq_true.mp am_v128 e he)
set_option maxRecDepth 100000 in
theorem am_v129 : am_t129.all (fun e => am_ckI am_rw5 false prog_4_method_3_code e.1 e.2) = true := by decide +kernel
theorem am_o129 : ∀ e ∈ am_t129, am_okI am_mth am_cl am_Ts am_stx am_slk am_m129 e.1 e.2 := fun e he => am_ckI_ok (rw := am_rw5) (ini := false) (M := am_m129) am_rq5 (fun z => by cases z) (List.all_eq_true.mp am_v129 e he)
set_option maxRecDepth 100000 in
theorem am_v130 : am_t130.all (fun e => am_ckI am_rw5 false prog_4_method_4_code e.1 e.2) = true := by decide +kernel
theorem am_o130 : ∀ e ∈ am_t130, am_okI am_mth am_cl am_Ts am_stx am_slk am_m130 e.1 e.2 := fun e he => am_ckI_ok (rw := am_rw5) (ini := false) (M := am_m130) am_rq5 (fun z => by cases z) (List.all_eq_true.mp am_v130 e he)
set_option maxRecDepth 100000 in
theorem am_v131 : am_t131.all (fun e => am_ckI am_rw5 false prog_4_method_5_code e.1 e.2) = true := by decide +kernel
theorem am_o131 : ∀ e ∈ am_t131, am_okI am_mth am_cl am_Ts am_stx am_slk am_m131 e.1 e.2 := fun e he => am_ckI_ok (rw := am_rw5) (ini := false) (M := am_m131) am_rq5 (fun z => by cases z) (List.all_eq_true.mp am_v131 e he)
set_option maxRecDepth 100000 in
theorem am_v132 : am_t132.all (fun e => am_ckI am_rw5 false prog_4_method_6_code e.1 e.2) = true := by decide +kernel
theorem am_o132 : ∀ e ∈ am_t132, am_okI am_mth am_cl am_Ts am_stx am_slk am_m132 e.1 e.2 := fun e he => am_ckI_ok (rw := am_rw5) (ini := false) (M := am_m132) am_rq5 (fun z => by cases z) (List.all_eq_true.mp am_v132 e he)
set_option maxRecDepth 100000 in
theorem am_v133 : am_t133.all (fun e => am_ckI am_rw5 false prog_4_method_7_code e.1 e.2) = true := by decide +kernel
theorem am_o133 : ∀ e ∈ am_t133, am_okI am_mth am_cl am_Ts am_stx am_slk am_m133 e.1 e.2 := fun e he => am_ckI_ok (rw := am_rw5) (ini := false) (M := am_m133) am_rq5 (fun z => by cases z) (List.all_eq_true.mp am_v133 e he)
set_option maxRecDepth 100000 in
theorem am_v134 : am_t134.all (fun e => am_ckI am_rw5 false prog_4_method_8_code e.1 e.2) = true := by decide +kernel
theorem am_o134 : ∀ e ∈ am_t134, am_okI am_mth am_cl am_Ts am_stx am_slk am_m134 e.1 e.2 := fun e he => am_ckI_ok (rw := am_rw5) (ini := false) (M := am_m134) am_rq5 (fun z => by cases z) (List.all_eq_true.mp am_v134 e he)
set_option maxRecDepth 100000 in
theorem am_v135 : am_t135.all (fun e => am_ckI am_rw5 false prog_4_method_9_code e.1 e.2) = true := by decide +kernel
theorem am_o135 : ∀ e ∈ am_t135, am_okI am_mth am_cl am_Ts am_stx am_slk am_m135 e.1 e.2 := fun e he => am_ckI_ok (rw := am_rw5) (ini := false) (M := am_m135) am_rq5 (fun z => by cases z) (List.all_eq_true.mp am_v135 e he)
set_option maxRecDepth 100000 in
theorem am_v136 : am_t136.all (fun e => am_ckI am_rw5 false prog_4_method_10_code e.1 e.2) = true := by decide +kernel
theorem am_o136 : ∀ e ∈ am_t136, am_okI am_mth am_cl am_Ts am_stx am_slk am_m136 e.1 e.2 := fun e he => am_ckI_ok (rw := am_rw5) (ini := false) (M := am_m136) am_rq5 (fun z => by cases z) (List.all_eq_true.mp am_v136 e he)
set_option maxRecDepth 100000 in
theorem am_v137 : am_t137.all (fun e => am_ckI am_rw5 false prog_4_method_11_code e.1 e.2) = true := by decide +kernel
theorem am_o137 : ∀ e ∈ am_t137, am_okI am_mth am_cl am_Ts am_stx am_slk am_m137 e.1 e.2 := fun e he => am_ckI_ok (rw := am_rw5) (ini := false) (M := am_m137) am_rq5 (fun z => by cases z) (List.all_eq_true.mp am_v137 e he)
set_option maxRecDepth 100000 in
theorem am_v138 : am_t138.all (fun e => am_ckI am_rw5 false prog_4_method_12_code e.1 e.2) = true := by decide +kernel
theorem am_o138 : ∀ e ∈ am_t138, am_okI am_mth am_cl am_Ts am_stx am_slk am_m138 e.1 e.2 := fun e he => am_ckI_ok (rw := am_rw5) (ini := false) (M := am_m138) am_rq5 (fun z => by cases z) (List.all_eq_true.mp am_v138 e he)
set_option maxRecDepth 100000 in
theorem am_v139 : am_t139.all (fun e => am_ckI am_rw5 false prog_4_method_13_code e.1 e.2) = true := by decide +kernel
theorem am_o139 : ∀ e ∈ am_t139, am_okI am_mth am_cl am_Ts am_stx am_slk am_m139 e.1 e.2 := fun e he => am_ckI_ok (rw := am_rw5) (ini := false) (M := am_m139) am_rq5 (fun z => by cases z) (List.all_eq_true.mp am_v139 e he)
set_option maxRecDepth 100000 in
theorem am_v140 : am_t140.all (fun e => am_ckI am_rw5 false prog_4_method_14_code e.1 e.2) = true := by decide +kernel
theorem am_o140 : ∀ e ∈ am_t140, am_okI am_mth am_cl am_Ts am_stx am_slk am_m140 e.1 e.2 := fun e he => am_ckI_ok (rw := am_rw5) (ini := false) (M := am_m140) am_rq5 (fun z => by cases z) (List.all_eq_true.mp am_v140 e he)
set_option maxRecDepth 100000 in
theorem am_v141 : am_t141.all (fun e => am_ckI am_rw5 false prog_4_method_15_code e.1 e.2) = true := by decide +kernel
theorem am_o141 : ∀ e ∈ am_t141, am_okI am_mth am_cl am_Ts am_stx am_slk am_m141 e.1 e.2 := fun e he => am_ckI_ok (rw := am_rw5) (ini := false) (M := am_m141) am_rq5 (fun z => by cases z) (List.all_eq_true.mp am_v141 e he)
set_option maxRecDepth 100000 in
theorem am_v142 : am_t142.all (fun e => am_ckI am_rw5 false prog_4_method_16_code e.1 e.2) = true := by decide +kernel
theorem am_o142 : ∀ e ∈ am_t142, am_okI am_mth am_cl am_Ts am_stx am_slk am_m142 e.1 e.2 := fun e he => am_ckI_ok (rw := am_rw5) (ini := false) (M := am_m142) am_rq5 (fun z => by cases z) (List.all_eq_true.mp am_v142 e he)
set_option maxRecDepth 100000 in
theorem am_v143 : am_t143.all (fun e => am_ckI am_rw5 false prog_4_method_17_code e.1 e.2) = true := by decide +kernel
theorem am_o143 : ∀ e ∈ am_t143, am_okI am_mth am_cl am_Ts am_stx am_slk am_m143 e.1 e.2 := fun e he => am_ckI_ok (rw := am_rw5) (ini := false) (M := am_m143) am_rq5 (fun z => by cases z) (List.all_eq_true.mp am_v143 e he)
set_option maxRecDepth 100000 in
theorem am_v144 : am_t144.all (fun e => am_ckI am_rw5 false prog_4_method_18_code e.1 e.2) = true := by decide +kernel
theorem am_o144 : ∀ e ∈ am_t144, am_okI am_mth am_cl am_Ts am_stx am_slk am_m144 e.1 e.2 := fun e he => am_ckI_ok (rw := am_rw5) (ini := false) (M := am_m144) am_rq5 (fun z => by cases z) (List.all_eq_true.mp am_v144 e he)
set_option maxRecDepth 100000 in
theorem am_v145 : am_t145.all (fun e => am_ckI am_rw5 false prog_4_method_19_code e.1 e.2) = true := by decide +kernel
theorem am_o145 : ∀ e ∈ am_t145, am_okI am_mth am_cl am_Ts am_stx am_slk am_m145 e.1 e.2 := fun e he => am_ckI_ok (rw := am_rw5) (ini := false) (M := am_m145) am_rq5 (fun z => by cases z) (List.all_eq_true.mp am_v145 e he)
set_option maxRecDepth 100000 in
theorem am_v146 : am_t146.all (fun e => am_ckI am_rw5 false prog_4_method_20_code e.1 e.2) = true := by decide +kernel
theorem am_o146 : ∀ e ∈ am_t146, am_okI am_mth am_cl am_Ts am_stx am_slk am_m146 e.1 e.2 := fun e he => am_ckI_ok (rw := am_rw5) (ini := false) (M := am_m146) am_rq5 (fun z => by cases z) (List.all_eq_true.mp am_v146 e he)
set_option maxRecDepth 100000 in
theorem am_v147 : am_t147.all (fun e => am_ckI am_rw6 true prog_5_method_1_code e.1 e.2) = true := by decide +kernel
theorem am_o147 : ∀ e ∈ am_t147, am_okI am_mth am_cl am_Ts am_stx am_slk am_m147 e.1 e.2 := fun e he => am_ckI_ok (rw := am_rw6) (ini := true) (M := am_m147) am_rq6 (fun z => rfl) (List.all_eq_true.mp am_v147 e he)
set_option maxRecDepth 100000 in
theorem am_v148 : am_t148.all (fun e => am_ckI am_rw6 false prog_5_method_2_code e.1 e.2) = true := by decide +kernel
theorem am_o148 : ∀ e ∈ am_t148, am_okI am_mth am_cl am_Ts am_stx am_slk am_m148 e.1 e.2 := fun e he => am_ckI_ok (rw := am_rw6) (ini := false) (M := am_m148) am_rq6 (fun z => by cases z) (List.all_eq_true.mp am_v148 e he)
set_option maxRecDepth 100000 in
theorem am_v149 : am_t149.all (fun e => am_ckI am_rw6 false prog_5_method_3_code e.1 e.2) = true := by decide +kernel
theorem am_o149 : ∀ e ∈ am_t149, am_okI am_mth am_cl am_Ts am_stx am_slk am_m149 e.1 e.2 := fun e he => am_ckI_ok (rw := am_rw6) (ini := false) (M := am_m149) am_rq6 (fun z => by cases z) (List.all_eq_true.mp am_v149 e he)
set_option maxRecDepth 100000 in
theorem am_v150 : am_t150.all (fun e => am_ckI am_rw6 false prog_5_method_4_code e.1 e.2) = true := by decide +kernel
theorem am_o150 : ∀ e ∈ am_t150, am_okI am_mth am_cl am_Ts am_stx am_slk am_m150 e.1 e.2 := fun e he => am_ckI_ok (rw := am_rw6) (ini := false) (M := am_m150) am_rq6 (fun z => by cases z) (List.all_eq_true.mp am_v150 e he)
set_option maxRecDepth 100000 in
theorem am_v151 : am_t151.all (fun e => am_ckI am_rw6 false prog_5_method_5_code e.1 e.2) = true := by decide +kernel
theorem am_o151 : ∀ e ∈ am_t151, am_okI am_mth am_cl am_Ts am_stx am_slk am_m151 e.1 e.2 := fun e he => am_ckI_ok (rw := am_rw6) (ini := false) (M := am_m151) am_rq6 (fun z => by cases z) (List.all_eq_true.mp am_v151 e he)
set_option maxRecDepth 100000 in
theorem am_v152 : am_t152.all (fun e => am_ckI am_rw6 false prog_5_method_6_code e.1 e.2) = true := by decide +kernel
theorem am_o152 : ∀ e ∈ am_t152, am_okI am_mth am_cl am_Ts am_stx am_slk am_m152 e.1 e.2 := fun e he => am_ckI_ok (rw := am_rw6) (ini := false) (M := am_m152) am_rq6 (fun z => by cases z) (List.all_eq_true.mp am_v152 e he)
set_option maxRecDepth 100000 in
theorem am_v153 : am_t153.all (fun e => am_ckI am_rw6 false prog_5_method_7_code e.1 e.2) = true := by decide +kernel
theorem am_o153 : ∀ e ∈ am_t153, am_okI am_mth am_cl am_Ts am_stx am_slk am_m153 e.1 e.2 := fun e he => am_ckI_ok (rw := am_rw6) (ini := false) (M := am_m153) am_rq6 (fun z => by cases z) (List.all_eq_true.mp am_v153 e he)
set_option maxRecDepth 100000 in
theorem am_v154 : am_t154.all (fun e => am_ckI am_rw6 false prog_5_method_8_code e.1 e.2) = true := by decide +kernel
theorem am_o154 : ∀ e ∈ am_t154, am_okI am_mth am_cl am_Ts am_stx am_slk am_m154 e.1 e.2 := fun e he => am_ckI_ok (rw := am_rw6) (ini := false) (M := am_m154) am_rq6 (fun z => by cases z) (List.all_eq_true.mp am_v154 e he)
set_option maxRecDepth 100000 in
theorem am_v155 : am_t155.all (fun e => am_ckI am_rw6 false prog_5_method_9_code e.1 e.2) = true := by decide +kernel
theorem am_o155 : ∀ e ∈ am_t155, am_okI am_mth am_cl am_Ts am_stx am_slk am_m155 e.1 e.2 := fun e he => am_ckI_ok (rw := am_rw6) (ini := false) (M := am_m155) am_rq6 (fun z => by cases z) (List.all_eq_true.mp am_v155 e he)
set_option maxRecDepth 100000 in
theorem am_v156 : am_t156.all (fun e => am_ckI am_rw6 false prog_5_method_10_code e.1 e.2) = true := by decide +kernel
theorem am_o156 : ∀ e ∈ am_t156, am_okI am_mth am_cl am_Ts am_stx am_slk am_m156 e.1 e.2 := fun e he => am_ckI_ok (rw := am_rw6) (ini := false) (M := am_m156) am_rq6 (fun z => by cases z) (List.all_eq_true.mp am_v156 e he)
set_option maxRecDepth 100000 in
theorem am_v157 : am_t157.all (fun e => am_ckI am_rw6 false prog_5_method_11_code e.1 e.2) = true := by decide +kernel
theorem am_o157 : ∀ e ∈ am_t157, am_okI am_mth am_cl am_Ts am_stx am_slk am_m157 e.1 e.2 := fun e he => am_ckI_ok (rw := am_rw6) (ini := false) (M := am_m157) am_rq6 (fun z => by cases z) (List.all_eq_true.mp am_v157 e he)
set_option maxRecDepth 100000 in
theorem am_v158 : am_t158.all (fun e => am_ckI am_rw6 false prog_5_method_12_code e.1 e.2) = true := by decide +kernel
theorem am_o158 : ∀ e ∈ am_t158, am_okI am_mth am_cl am_Ts am_stx am_slk am_m158 e.1 e.2 := fun e he => am_ckI_ok (rw := am_rw6) (ini := false) (M := am_m158) am_rq6 (fun z => by cases z) (List.all_eq_true.mp am_v158 e he)
set_option maxRecDepth 100000 in
theorem am_v159 : am_t159.all (fun e => am_ckI am_rw6 false prog_5_method_13_code e.1 e.2) = true := by decide +kernel
theorem am_o159 : ∀ e ∈ am_t159, am_okI am_mth am_cl am_Ts am_stx am_slk am_m159 e.1 e.2 := fun e he => am_ckI_ok (rw := am_rw6) (ini := false) (M := am_m159) am_rq6 (fun z => by cases z) (List.all_eq_true.mp am_v159 e he)
set_option maxRecDepth 100000 in
theorem am_v160 : am_t160.all (fun e => am_ckI am_rw6 false prog_5_method_14_code e.1 e.2) = true := by decide +kernel
theorem am_o160 : ∀ e ∈ am_t160, am_okI am_mth am_cl am_Ts am_stx am_slk am_m160 e.1 e.2 := fun e he => am_ckI_ok (rw := am_rw6) (ini := false) (M := am_m160) am_rq6 (fun z => by cases z) (List.all_eq_true.mp am_v160 e he)
set_option maxRecDepth 100000 in
theorem am_v161 : am_t161.all (fun e => am_ckI am_rw6 false prog_5_method_15_code e.1 e.2) = true := by decide +kernel
theorem am_o161 : ∀ e ∈ am_t161, am_okI am_mth am_cl am_Ts am_stx am_slk am_m161 e.1 e.2 := fun e he => am_ckI_ok (rw := am_rw6) (ini := false) (M := am_m161) am_rq6 (fun z => by cases z) (List.all_eq_true.mp am_v161 e he)
set_option maxRecDepth 100000 in
theorem am_v162 : am_t162.all (fun e => am_ckI am_rw6 false prog_5_method_16_code e.1 e.2) = true := by decide +kernel
theorem am_o162 : ∀ e ∈ am_t162, am_okI am_mth am_cl am_Ts am_stx am_slk am_m162 e.1 e.2 := fun e he => am_ckI_ok (rw := am_rw6) (ini := false) (M := am_m162) am_rq6 (fun z => by cases z) (List.all_eq_true.mp am_v162 e he)
set_option maxRecDepth 100000 in
theorem am_v163 : am_t163.all (fun e => am_ckI am_rw6 false prog_5_method_17_code e.1 e.2) = true := by decide +kernel
theorem am_o163 : ∀ e ∈ am_t163, am_okI am_mth am_cl am_Ts am_stx am_slk am_m163 e.1 e.2 := fun e he => am_ckI_ok (rw := am_rw6) (ini := false) (M := am_m163) am_rq6 (fun z => by cases z) (List.all_eq_true.mp am_v163 e he)
set_option maxRecDepth 100000 in
theorem am_v164 : am_t164.all (fun e => am_ckI am_rw6 false prog_5_method_18_code e.1 e.2) = true := by decide +kernel
theorem am_o164 : ∀ e ∈ am_t164, am_okI am_mth am_cl am_Ts am_stx am_slk am_m164 e.1 e.2 := fun e he => am_ckI_ok (rw := am_rw6) (ini := false) (M := am_m164) am_rq6 (fun z => by cases z) (List.all_eq_true.mp am_v164 e he)
set_option maxRecDepth 100000 in
theorem am_v165 : am_t165.all (fun e => am_ckI am_rw6 false prog_5_method_19_code e.1 e.2) = true := by decide +kernel
theorem am_o165 : ∀ e ∈ am_t165, am_okI am_mth am_cl am_Ts am_stx am_slk am_m165 e.1 e.2 := fun e he => am_ckI_ok (rw := am_rw6) (ini := false) (M := am_m165) am_rq6 (fun z => by cases z) (List.all_eq_true.mp am_v165 e he)
set_option maxRecDepth 100000 in
theorem am_v166 : am_t166.all (fun e => am_ckI am_rw6 false prog_5_method_20_code e.1 e.2) = true := by decide +kernel
theorem am_o166 : ∀ e ∈ am_t166, am_okI am_mth am_cl am_Ts am_stx am_slk am_m166 e.1 e.2 := fun e he => am_ckI_ok (rw := am_rw6) (ini := false) (M := am_m166) am_rq6 (fun z => by cases z) (List.all_eq_true.mp am_v166 e he)
set_option maxRecDepth 100000 in
theorem am_v167 : am_t167.all (fun e => am_ckI am_rw6 false prog_5_method_21_code e.1 e.2) = true := by decide +kernel
theorem am_o167 : ∀ e ∈ am_t167, am_okI am_mth am_cl am_Ts am_stx am_slk am_m167 e.1 e.2 := fun e he => am_ckI_ok (rw := am_rw6) (ini := false) (M := am_m167) am_rq6 (fun z => by cases z) (List.all_eq_true.mp am_v167 e he)
set_option maxRecDepth 100000 in
theorem am_v168 : am_t168.all (fun e => am_ckI am_rw6 false prog_5_method_22_code e.1 e.2) = true := by decide +kernel
theorem am_o168 : ∀ e ∈ am_t168, am_okI am_mth am_cl am_Ts am_stx am_slk am_m168 e.1 e.2 := fun e he => am_ckI_ok (rw := am_rw6) (ini := false) (M := am_m168) am_rq6 (fun z => by cases z) (List.all_eq_true.mp am_v168 e he)
set_option maxRecDepth 100000 in
theorem am_v169 : am_t169.all (fun e => am_ckI am_rw6 false prog_5_method_23_code e.1 e.2) = true := by decide +kernel
theorem am_o169 : ∀ e ∈ am_t169, am_okI am_mth am_cl am_Ts am_stx am_slk am_m169 e.1 e.2 := fun e he => am_ckI_ok (rw := am_rw6) (ini := false) (M := am_m169) am_rq6 (fun z => by cases z) (List.all_eq_true.mp am_v169 e he)
set_option maxRecDepth 100000 in
theorem am_v170 : am_t170.all (fun e => am_ckI am_rw6 false prog_5_method_24_code e.1 e.2) = true := by decide +kernel
theorem am_o170 : ∀ e ∈ am_t170, am_okI am_mth am_cl am_Ts am_stx am_slk am_m170 e.1 e.2 := fun e he => am_ckI_ok (rw := am_rw6) (ini := false) (M := am_m170) am_rq6 (fun z => by cases z) (List.all_eq_true.mp am_v170 e he)
set_option maxRecDepth 100000 in
theorem am_v171 : am_t171.all (fun e => am_ckI am_rw6 false prog_5_method_25_code e.1 e.2) = true := by decide +kernel
theorem am_o171 : ∀ e ∈ am_t171, am_okI am_mth am_cl am_Ts am_stx am_slk am_m171 e.1 e.2 := fun e he => am_ckI_ok (rw := am_rw6) (ini := false) (M := am_m171) am_rq6 (fun z => by cases z) (List.all_eq_true.mp am_v171 e he)
set_option maxRecDepth 100000 in
theorem am_v172 : am_t172.all (fun e => am_ckI am_rw6 false prog_5_method_26_code e.1 e.2) = true := by decide +kernel
theorem am_o172 : ∀ e ∈ am_t172, am_okI am_mth am_cl am_Ts am_stx am_slk am_m172 e.1 e.2 := fun e he => am_ckI_ok (rw := am_rw6) (ini := false) (M := am_m172) am_rq6 (fun z => by cases z) (List.all_eq_true.mp am_v172 e he)
set_option maxRecDepth 100000 in
theorem am_v173 : am_t173.all (fun e => am_ckI am_rw6 false prog_5_method_27_code e.1 e.2) = true := by decide +kernel
theorem am_o173 : ∀ e ∈ am_t173, am_okI am_mth am_cl am_Ts am_stx am_slk am_m173 e.1 e.2 := fun e he => am_ckI_ok (rw := am_rw6) (ini := false) (M := am_m173) am_rq6 (fun z => by cases z) (List.all_eq_true.mp am_v173 e he)
set_option maxRecDepth 100000 in
theorem am_v174 : am_t174.all (fun e => am_ckI am_rw6 false prog_5_method_28_code e.1 e.2) = true := by decide +kernel
theorem am_o174 : ∀ e ∈ am_t174, am_okI am_mth am_cl am_Ts am_stx am_slk am_m174 e.1 e.2 := fun e he => am_ckI_ok (rw := am_rw6) (ini := false) (M := am_m174) am_rq6 (fun z => by cases z) (List.all_eq_true.mp am_v174 e he)
set_option maxRecDepth 100000 in
theorem am_v175 : am_t175.all (fun e => am_ckI am_rw6 false prog_5_method_29_code e.1 e.2) = true := by decide +kernel
theorem am_o175 : ∀ e ∈ am_t175, am_okI am_mth am_cl am_Ts am_stx am_slk am_m175 e.1 e.2 := fun e he => am_ckI_ok (rw := am_rw6) (ini := false) (M := am_m175) am_rq6 (fun z => by cases z) (List.all_eq_true.mp am_v175 e he)
set_option maxRecDepth 100000 in
theorem am_v176 : am_t176.all (fun e => am_ckI am_rw6 false prog_5_method_30_code e.1 e.2) = true := by decide +kernel
theorem am_o176 : ∀ e ∈ am_t176, am_okI am_mth am_cl am_Ts am_stx am_slk am_m176 e.1 e.2 := fun e he => am_ckI_ok (rw := am_rw6) (ini := false) (M := am_m176) am_rq6 (fun z => by cases z) (List.all_eq_true.mp am_v176 e he)
set_option maxRecDepth 100000 in
theorem am_v177 : am_t177.all (fun e => am_ckI am_rw6 false prog_5_method_31_code e.1 e.2) = true := by decide +kernel
theorem am_o177 : ∀ e ∈ am_t177, am_okI am_mth am_cl am_Ts am_stx am_slk am_m177 e.1 e.2 := fun e he => am_ckI_ok (rw := am_rw6) (ini := false) (M := am_m177) am_rq6 (fun z => by cases z) (List.all_eq_true.mp am_v177 e he)
set_option maxRecDepth 100000 in
theorem am_v178 : am_t178.all (fun e => am_ckI am_rw6 false prog_5_method_32_code e.1 e.2) = true := by decide +kernel
theorem am_o178 : ∀ e ∈ am_t178, am_okI am_mth am_cl am_Ts am_stx am_slk am_m178 e.1 e.2 := fun e he => am_ckI_ok (rw := am_rw6) (ini := false) (M := am_m178) am_rq6 (fun z => by cases z) (List.all_eq_true.mp am_v178 e he)
set_option maxRecDepth 100000 in
theorem am_v179 : am_t179.all (fun e => am_ckI am_rw6 false prog_5_method_33_code e.1 e.2) = true := by decide +kernel
theorem am_o179 : ∀ e ∈ am_t179, am_okI am_mth am_cl am_Ts am_stx am_slk am_m179 e.1 e.2 := fun e he => am_ckI_ok (rw := am_rw6) (ini := false) (M := am_m179) am_rq6 (fun z => by cases z) (List.all_eq_true.mp am_v179 e he)
set_option maxRecDepth 100000 in
theorem am_v180 : am_t180.all (fun e => am_ckI am_rw6 false prog_5_method_34_code e.1 e.2) = true := by decide +kernel
theorem am_o180 : ∀ e ∈ am_t180, am_okI am_mth am_cl am_Ts am_stx am_slk am_m180 e.1 e.2 := fun e he => am_ckI_ok (rw := am_rw6) (ini := false) (M := am_m180) am_rq6 (fun z => by cases z) (List.all_eq_true.mp am_v180 e he)
set_option maxRecDepth 100000 in
theorem am_v181 : am_t181.all (fun e => am_ckI am_rw6 false prog_5_method_35_code e.1 e.2) = true := by decide +kernel
theorem am_o181 : ∀ e ∈ am_t181, am_okI am_mth am_cl am_Ts am_stx am_slk am_m181 e.1 e.2 := fun e he => am_ckI_ok (rw := am_rw6) (ini := false) (M := am_m181) am_rq6 (fun z => by cases z) (List.all_eq_true.mp am_v181 e he)
set_option maxRecDepth 100000 in
theorem am_v182 : am_t182.all (fun e => am_ckI am_rw6 false prog_5_method_36_code e.1 e.2) = true := by decide +kernel
theorem am_o182 : ∀ e ∈ am_t182, am_okI am_mth am_cl am_Ts am_stx am_slk am_m182 e.1 e.2 := fun e he => am_ckI_ok (rw := am_rw6) (ini := false) (M := am_m182) am_rq6 (fun z => by cases z) (List.all_eq_true.mp am_v182 e he)
set_option maxRecDepth 100000 in
theorem am_v183 : am_t183.all (fun e => am_ckI am_rw6 false prog_5_method_37_code e.1 e.2) = true := by decide +kernel
theorem am_o183 : ∀ e ∈ am_t183, am_okI am_mth am_cl am_Ts am_stx am_slk am_m183 e.1 e.2 := fun e he => am_ckI_ok (rw := am_rw6) (ini := false) (M := am_m183) am_rq6 (fun z => by cases z) (List.all_eq_true.mp am_v183 e he)
set_option maxRecDepth 100000 in
theorem am_v184 : am_t184.all (fun e => am_ckI am_rw6 false prog_5_method_38_code e.1 e.2) = true := by decide +kernel
theorem am_o184 : ∀ e ∈ am_t184, am_okI am_mth am_cl am_Ts am_stx am_slk am_m184 e.1 e.2 := fun e he => am_ckI_ok (rw := am_rw6) (ini := false) (M := am_m184) am_rq6 (fun z => by cases z) (List.all_eq_true.mp am_v184 e he)
set_option maxRecDepth 100000 in
theorem am_v185 : am_t185.all (fun e => am_ckI am_rw6 false prog_5_method_39_code e.1 e.2) = true := by decide +kernel
theorem am_o185 : ∀ e ∈ am_t185, am_okI am_mth am_cl am_Ts am_stx am_slk am_m185 e.1 e.2 := fun e he => am_ckI_ok (rw := am_rw6) (ini := false) (M := am_m185) am_rq6 (fun z => by cases z) (List.all_eq_true.mp am_v185 e he)
set_option maxRecDepth 100000 in
theorem am_v186 : am_t186.all (fun e => am_ckI am_rw6 false prog_5_method_40_code e.1 e.2) = true := by decide +kernel
theorem am_o186 : ∀ e ∈ am_t186, am_okI am_mth am_cl am_Ts am_stx am_slk am_m186 e.1 e.2 := fun e he => am_ckI_ok (rw := am_rw6) (ini := false) (M := am_m186) am_rq6 (fun z => by cases z) (List.all_eq_true.mp am_v186 e he)
set_option maxRecDepth 100000 in
theorem am_v187 : am_t187.all (fun e => am_ckI am_rw6 false prog_5_method_41_code e.1 e.2) = true := by decide +kernel
theorem am_o187 : ∀ e ∈ am_t187, am_okI am_mth am_cl am_Ts am_stx am_slk am_m187 e.1 e.2 := fun e he => am_ckI_ok (rw := am_rw6) (ini := false) (M := am_m187) am_rq6 (fun z => by cases z) (List.all_eq_true.mp am_v187 e he)
set_option maxRecDepth 100000 in
theorem am_v188 : am_t188.all (fun e => am_ckI am_rw6 false prog_5_method_42_code e.1 e.2) = true := by decide +kernel
theorem am_o188 : ∀ e ∈ am_t188, am_okI am_mth am_cl am_Ts am_stx am_slk am_m188 e.1 e.2 := fun e he => am_ckI_ok (rw := am_rw6) (ini := false) (M := am_m188) am_rq6 (fun z => by cases z) (List.all_eq_true.mp am_v188 e he)
set_option maxRecDepth 100000 in
theorem am_v189 : am_t189.all (fun e => am_ckI am_rw6 false prog_5_method_43_code e.1 e.2) = true := by decide +kernel
theorem am_o189 : ∀ e ∈ am_t189, am_okI am_mth am_cl am_Ts am_stx am_slk am_m189 e.1 e.2 := fun e he => am_ckI_ok (rw := am_rw6) (ini := false) (M := am_m189) am_rq6 (fun z => by cases z) (List.all_eq_true.mp am_v189 e he)
set_option maxRecDepth 100000 in
theorem am_v190 : am_t190.all (fun e => am_ckI am_rw6 false prog_5_method_44_code e.1 e.2) = true := by decide +kernel
theorem am_o190 : ∀ e ∈ am_t190, am_okI am_mth am_cl am_Ts am_stx am_slk am_m190 e.1 e.2 := fun e he => am_ckI_ok (rw := am_rw6) (ini := false) (M := am_m190) am_rq6 (fun z => by cases z) (List.all_eq_true.mp am_v190 e he)
set_option maxRecDepth 100000 in
theorem am_v191 : am_t191.all (fun e => am_ckI am_rw6 false prog_5_method_45_code e.1 e.2) = true := by decide +kernel
theorem am_o191 : ∀ e ∈ am_t191, am_okI am_mth am_cl am_Ts am_stx am_slk am_m191 e.1 e.2 := fun e he => am_ckI_ok (rw := am_rw6) (ini := false) (M := am_m191) am_rq6 (fun z => by cases z) (List.all_eq_true.mp am_v191 e he)
set_option maxRecDepth 100000 in
theorem am_v192 : am_t192.all (fun e => am_ckI am_rw6 false prog_5_method_46_code e.1 e.2) = true := by decide +kernel
theorem am_o192 : ∀ e ∈ am_t192, am_okI am_mth am_cl am_Ts am_stx am_slk am_m192 e.1 e.2 := fun e he => am_ckI_ok (rw := am_rw6) (ini := false) (M := am_m192) am_rq6 (fun z => by cases z) (List.all_eq_true.mp am_v192 e he)
set_option maxRecDepth 100000 in
theorem am_v193 : am_t193.all (fun e => am_ckI am_rw6 false prog_5_method_47_code e.1 e.2) = true := by decide +kernel
theorem am_o193 : ∀ e ∈ am_t193, am_okI am_mth am_cl am_Ts am_stx am_slk am_m193 e.1 e.2 := fun e he => am_ckI_ok (rw := am_rw6) (ini := false) (M := am_m193) am_rq6 (fun z => by cases z) (List.all_eq_true.mp am_v193 e he)
set_option maxRecDepth 100000 in
theorem am_v194 : am_t194.all (fun e => am_ckI am_rw6 false prog_5_method_48_code e.1 e.2) = true := by decide +kernel
theorem am_o194 : ∀ e ∈ am_t194, am_okI am_mth am_cl am_Ts am_stx am_slk am_m194 e.1 e.2 := fun e he => am_ckI_ok (rw := am_rw6) (ini := false) (M := am_m194) am_rq6 (fun z => by cases z) (List.all_eq_true.mp am_v194 e he)
set_option maxRecDepth 100000 in
theorem am_v195 : am_t195.all (fun e => am_ckI am_rw6 false prog_5_method_49_code e.1 e.2) = true := by decide +kernel
theorem am_o195 : ∀ e ∈ am_t195, am_okI am_mth am_cl am_Ts am_stx am_slk am_m195 e.1 e.2 := fun e he => am_ckI_ok (rw := am_rw6) (ini := false) (M := am_m195) am_rq6 (fun z => by cases z) (List.all_eq_true.mp am_v195 e he)
set_option maxRecDepth 100000 in
theorem am_v196 : am_t196.all (fun e => am_ckI am_rw6 false prog_5_method_50_code e.1 e.2) = true := by decide +kernel
theorem am_o196 : ∀ e ∈ am_t196, am_okI am_mth am_cl am_Ts am_stx am_slk am_m196 e.1 e.2 := fun e he => am_ckI_ok (rw := am_rw6) (ini := false) (M := am_m196) am_rq6 (fun z => by cases z) (List.all_eq_true.mp am_v196 e he)
set_option maxRecDepth 100000 in
theorem am_v197 : am_t197.all (fun e => am_ckI am_rw6 false prog_5_method_51_code e.1 e.2) = true := by decide +kernel
theorem am_o197 : ∀ e ∈ am_t197, am_okI am_mth am_cl am_Ts am_stx am_slk am_m197 e.1 e.2 := fun e he => am_ckI_ok (rw := am_rw6) (ini := false) (M := am_m197) am_rq6 (fun z => by cases z) (List.all_eq_true.mp am_v197 e he)
set_option maxRecDepth 100000 in
theorem am_v198 : am_t198.all (fun e => am_ckI am_rw6 false prog_5_method_52_code e.1 e.2) = true := by decide +kernel
theorem am_o198 : ∀ e ∈ am_t198, am_okI am_mth am_cl am_Ts am_stx am_slk am_m198 e.1 e.2 := fun e he => am_ckI_ok (rw := am_rw6) (ini := false) (M := am_m198) am_rq6 (fun z => by cases z) (List.all_eq_true.mp am_v198 e he)
set_option maxRecDepth 100000 in
theorem am_v199 : am_t199.all (fun e => am_ckI am_rw6 false prog_5_method_53_code e.1 e.2) = true := by decide +kernel
theorem am_o199 : ∀ e ∈ am_t199, am_okI am_mth am_cl am_Ts am_stx am_slk am_m199 e.1 e.2 := fun e he => am_ckI_ok (rw := am_rw6) (ini := false) (M := am_m199) am_rq6 (fun z => by cases z) (List.all_eq_true.mp am_v199 e he)
set_option maxRecDepth 100000 in
theorem am_v200 : am_t200.all (fun e => am_ckI am_rw6 false prog_5_method_54_code e.1 e.2) = true := by decide +kernel
theorem am_o200 : ∀ e ∈ am_t200, am_okI am_mth am_cl am_Ts am_stx am_slk am_m200 e.1 e.2 := fun e he => am_ckI_ok (rw := am_rw6) (ini := false) (M := am_m200) am_rq6 (fun z => by cases z) (List.all_eq_true.mp am_v200 e he)
