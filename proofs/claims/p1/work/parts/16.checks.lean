/-! PART 16: the instructions are checked -/
set_option maxRecDepth 100000 in
theorem am_v201 : am_t201.all (fun e => am_ckI am_rw6 false prog_5_method_55_code e.1 e.2) = true := by decide +kernel
theorem am_o201 : ∀ e ∈ am_t201, am_okI am_mth am_cl am_Ts am_stx am_slk am_m201 e.1 e.2 := fun e he => am_ckI_ok (rw := am_rw6) (ini := false) (M := am_m201) am_rq6 (fun z => by cases z) (List.all_eq_true.mp am_v201 e he)
set_option maxRecDepth 100000 in
theorem am_v202 : am_t202.all (fun e => am_ckI am_rw6 false prog_5_method_56_code e.1 e.2) = true := by decide +kernel
theorem am_o202 : ∀ e ∈ am_t202, am_okI am_mth am_cl am_Ts am_stx am_slk am_m202 e.1 e.2 := fun e he => am_ckI_ok (rw := am_rw6) (ini := false) (M := am_m202) am_rq6 (fun z => by cases z) (List.all_eq_true.mp am_v202 e he)
set_option maxRecDepth 100000 in
theorem am_v203 : am_t203.all (fun e => am_ckI am_rw6 false prog_5_method_57_code e.1 e.2) = true := by decide +kernel
theorem am_o203 : ∀ e ∈ am_t203, am_okI am_mth am_cl am_Ts am_stx am_slk am_m203 e.1 e.2 := fun e he => am_ckI_ok (rw := am_rw6) (ini := false) (M := am_m203) am_rq6 (fun z => by cases z) (List.all_eq_true.mp am_v203 e he)
set_option maxRecDepth 100000 in
theorem am_v204 : am_t204.all (fun e => am_ckI am_rw7 true prog_6_method_1_code e.1 e.2) = true := by decide +kernel
theorem am_o204 : ∀ e ∈ am_t204, am_okI am_mth am_cl am_Ts am_stx am_slk am_m204 e.1 e.2 := fun e he => am_ckI_ok (rw := am_rw7) (ini := true) (M := am_m204) am_rq7 (fun z => rfl) (List.all_eq_true.mp am_v204 e he)
set_option maxRecDepth 100000 in
theorem am_v205 : am_t205.all (fun e => am_ckI am_rw7 false prog_6_method_2_code e.1 e.2) = true := by decide +kernel
theorem am_o205 : ∀ e ∈ am_t205, am_okI am_mth am_cl am_Ts am_stx am_slk am_m205 e.1 e.2 := fun e he => am_ckI_ok (rw := am_rw7) (ini := false) (M := am_m205) am_rq7 (fun z => by cases z) (List.all_eq_true.mp am_v205 e he)
set_option maxRecDepth 100000 in
theorem am_v206 : am_t206.all (fun e => am_ckI am_rw7 false prog_6_method_3_code e.1 e.2) = true := by decide +kernel
theorem am_o206 : ∀ e ∈ am_t206, am_okI am_mth am_cl am_Ts am_stx am_slk am_m206 e.1 e.2 := fun e he => am_ckI_ok (rw := am_rw7) (ini := false) (M := am_m206) am_rq7 (fun z => by cases z) (List.all_eq_true.mp am_v206 e he)
set_option maxRecDepth 100000 in
theorem am_v207 : am_t207.all (fun e => am_ckI am_rw7 false prog_6_method_4_code e.1 e.2) = true := by decide +kernel
theorem am_o207 : ∀ e ∈ am_t207, am_okI am_mth am_cl am_Ts am_stx am_slk am_m207 e.1 e.2 := fun e he => am_ckI_ok (rw := am_rw7) (ini := false) (M := am_m207) am_rq7 (fun z => by cases z) (List.all_eq_true.mp am_v207 e he)
set_option maxRecDepth 100000 in
theorem am_v208 : am_t208.all (fun e => am_ckI am_rw7 false prog_6_method_5_code e.1 e.2) = true := by decide +kernel
theorem am_o208 : ∀ e ∈ am_t208, am_okI am_mth am_cl am_Ts am_stx am_slk am_m208 e.1 e.2 := fun e he => am_ckI_ok (rw := am_rw7) (ini := false) (M := am_m208) am_rq7 (fun z => by cases z) (List.all_eq_true.mp am_v208 e he)
set_option maxRecDepth 100000 in
theorem am_v209 : am_t209.all (fun e => am_ckI am_rw7 false prog_6_method_6_code e.1 e.2) = true := by decide +kernel
theorem am_o209 : ∀ e ∈ am_t209, am_okI am_mth am_cl am_Ts am_stx am_slk am_m209 e.1 e.2 := fun e he => am_ckI_ok (rw := am_rw7) (ini := false) (M := am_m209) am_rq7 (fun z => by cases z) (List.all_eq_true.mp am_v209 e he)
set_option maxRecDepth 100000 in
theorem am_v210 : am_t210.all (fun e => am_ckI am_rw7 false prog_6_method_7_code e.1 e.2) = true := by decide +kernel
theorem am_o210 : ∀ e ∈ am_t210, am_okI am_mth am_cl am_Ts am_stx am_slk am_m210 e.1 e.2 := fun e he => am_ckI_ok (rw := am_rw7) (ini := false) (M := am_m210) am_rq7 (fun z => by cases z) (List.all_eq_true.mp am_v210 e he)
set_option maxRecDepth 100000 in
theorem am_v211 : am_t211.all (fun e => am_ckI am_rw7 false prog_6_method_8_code e.1 e.2) = true := by decide +kernel
theorem am_o211 : ∀ e ∈ am_t211, am_okI am_mth am_cl am_Ts am_stx am_slk am_m211 e.1 e.2 := fun e he => am_ckI_ok (rw := am_rw7) (ini := false) (M := am_m211) am_rq7 (fun z => by cases z) (List.all_eq_true.mp am_v211 e he)
set_option maxRecDepth 100000 in
theorem am_v212 : am_t212.all (fun e => am_ckI am_rw7 false prog_6_method_9_code e.1 e.2) = true := by decide +kernel
theorem am_o212 : ∀ e ∈ am_t212, am_okI am_mth am_cl am_Ts am_stx am_slk am_m212 e.1 e.2 := fun e he => am_ckI_ok (rw := am_rw7) (ini := false) (M := am_m212) am_rq7 (fun z => by cases z) (List.all_eq_true.mp am_v212 e he)
set_option maxRecDepth 100000 in
theorem am_v213 : am_t213.all (fun e => am_ckI am_rw7 false prog_6_method_10_code e.1 e.2) = true := by decide +kernel
theorem am_o213 : ∀ e ∈ am_t213, am_okI am_mth am_cl am_Ts am_stx am_slk am_m213 e.1 e.2 := fun e he => am_ckI_ok (rw := am_rw7) (ini := false) (M := am_m213) am_rq7 (fun z => by cases z) (List.all_eq_true.mp am_v213 e he)
set_option maxRecDepth 100000 in
theorem am_v214 : am_t214.all (fun e => am_ckI am_rw7 false prog_6_method_11_code e.1 e.2) = true := by decide +kernel
theorem am_o214 : ∀ e ∈ am_t214, am_okI am_mth am_cl am_Ts am_stx am_slk am_m214 e.1 e.2 := fun e he => am_ckI_ok (rw := am_rw7) (ini := false) (M := am_m214) am_rq7 (fun z => by cases z) (List.all_eq_true.mp am_v214 e he)
set_option maxRecDepth 100000 in
theorem am_v215 : am_t215.all (fun e => am_ckI am_rw7 false prog_6_method_12_code e.1 e.2) = true := by decide +kernel
theorem am_o215 : ∀ e ∈ am_t215, am_okI am_mth am_cl am_Ts am_stx am_slk am_m215 e.1 e.2 := fun e he => am_ckI_ok (rw := am_rw7) (ini := false) (M := am_m215) am_rq7 (fun z => by cases z) (List.all_eq_true.mp am_v215 e he)
set_option maxRecDepth 100000 in
theorem am_v216 : am_t216.all (fun e => am_ckI am_rw7 false prog_6_method_13_code e.1 e.2) = true := by decide +kernel
theorem am_o216 : ∀ e ∈ am_t216, am_okI am_mth am_cl am_Ts am_stx am_slk am_m216 e.1 e.2 := fun e he => am_ckI_ok (rw := am_rw7) (ini := false) (M := am_m216) am_rq7 (fun z => by cases z) (List.all_eq_true.mp am_v216 e he)
set_option maxRecDepth 100000 in
theorem am_v217 : am_t217.all (fun e => am_ckI am_rw7 false prog_6_method_14_code e.1 e.2) = true := by decide +kernel
theorem am_o217 : ∀ e ∈ am_t217, am_okI am_mth am_cl am_Ts am_stx am_slk am_m217 e.1 e.2 := fun e he => am_ckI_ok (rw := am_rw7) (ini := false) (M := am_m217) am_rq7 (fun z => by cases z) (List.all_eq_true.mp am_v217 e he)
set_option maxRecDepth 100000 in
theorem am_v218 : am_t218.all (fun e => am_ckI am_rw7 false prog_6_method_15_code e.1 e.2) = true := by decide +kernel
theorem am_o218 : ∀ e ∈ am_t218, am_okI am_mth am_cl am_Ts am_stx am_slk am_m218 e.1 e.2 := fun e he => am_ckI_ok (rw := am_rw7) (ini := false) (M := am_m218) am_rq7 (fun z => by cases z) (List.all_eq_true.mp am_v218 e he)
set_option maxRecDepth 100000 in
theorem am_v219 : am_t219.all (fun e => am_ckI am_rw7 false prog_6_method_16_code e.1 e.2) = true := by decide +kernel
theorem am_o219 : ∀ e ∈ am_t219, am_okI am_mth am_cl am_Ts am_stx am_slk am_m219 e.1 e.2 := fun e he => am_ckI_ok (rw := am_rw7) (ini := false) (M := am_m219) am_rq7 (fun z => by cases z) (List.all_eq_true.mp am_v219 e he)
set_option maxRecDepth 100000 in
theorem am_v220 : am_t220.all (fun e => am_ckI am_rw7 false prog_6_method_17_code e.1 e.2) = true := by decide +kernel
theorem am_o220 : ∀ e ∈ am_t220, am_okI am_mth am_cl am_Ts am_stx am_slk am_m220 e.1 e.2 := fun e he => am_ckI_ok (rw := am_rw7) (ini := false) (M := am_m220) am_rq7 (fun z => by cases z) (List.all_eq_true.mp am_v220 e he)
set_option maxRecDepth 100000 in
theorem am_v221 : am_t221.all (fun e => am_ckI am_rw7 false prog_6_method_18_code e.1 e.2) = true := by decide +kernel
theorem am_o221 : ∀ e ∈ am_t221, am_okI am_mth am_cl am_Ts am_stx am_slk am_m221 e.1 e.2 := fun e he => am_ckI_ok (rw := am_rw7) (ini := false) (M := am_m221) am_rq7 (fun z => by cases z) (List.all_eq_true.mp am_v221 e he)
set_option maxRecDepth 100000 in
theorem am_v222 : am_t222.all (fun e => am_ckI am_rw7 false prog_6_method_19_code e.1 e.2) = true := by decide +kernel
theorem am_o222 : ∀ e ∈ am_t222, am_okI am_mth am_cl am_Ts am_stx am_slk am_m222 e.1 e.2 := fun e he => am_ckI_ok (rw := am_rw7) (ini := false) (M := am_m222) am_rq7 (fun z => by cases z) (List.all_eq_true.mp am_v222 e he)
set_option maxRecDepth 100000 in
theorem am_v223 : am_t223.all (fun e => am_ckI am_rw7 false prog_6_method_20_code e.1 e.2) = true := by decide +kernel
theorem am_o223 : ∀ e ∈ am_t223, am_okI am_mth am_cl am_Ts am_stx am_slk am_m223 e.1 e.2 := fun e he => am_ckI_ok (rw := am_rw7) (ini := false) (M := am_m223) am_rq7 (fun z => by cases z) (List.all_eq_true.mp am_v223 e he)
set_option maxRecDepth 100000 in
theorem am_v224 : am_t224.all (fun e => am_ckI am_rw7 false prog_6_method_21_code e.1 e.2) = true := by decide +kernel
theorem am_o224 : ∀ e ∈ am_t224, am_okI am_mth am_cl am_Ts am_stx am_slk am_m224 e.1 e.2 := fun e he => am_ckI_ok (rw := am_rw7) (ini := false) (M := am_m224) am_rq7 (fun z => by cases z) (List.all_eq_true.mp am_v224 e he)
set_option maxRecDepth 100000 in
theorem am_v225 : am_t225.all (fun e => am_ckI am_rw7 false prog_6_method_22_code e.1 e.2) = true := by decide +kernel
theorem am_o225 : ∀ e ∈ am_t225, am_okI am_mth am_cl am_Ts am_stx am_slk am_m225 e.1 e.2 := fun e he => am_ckI_ok (rw := am_rw7) (ini := false) (M := am_m225) am_rq7 (fun z => by cases z) (List.all_eq_true.mp am_v225 e he)
set_option maxRecDepth 100000 in
theorem am_v226 : am_t226.all (fun e => am_ckI am_rw7 false prog_6_method_23_code e.1 e.2) = true := by decide +kernel
theorem am_o226 : ∀ e ∈ am_t226, am_okI am_mth am_cl am_Ts am_stx am_slk am_m226 e.1 e.2 := fun e he => am_ckI_ok (rw := am_rw7) (ini := false) (M := am_m226) am_rq7 (fun z => by cases z) (List.all_eq_true.mp am_v226 e he)
set_option maxRecDepth 100000 in
theorem am_v227 : am_t227.all (fun e => am_ckI am_rw7 false prog_6_method_24_code e.1 e.2) = true := by decide +kernel
theorem am_o227 : ∀ e ∈ am_t227, am_okI am_mth am_cl am_Ts am_stx am_slk am_m227 e.1 e.2 := fun e he => am_ckI_ok (rw := am_rw7) (ini := false) (M := am_m227) am_rq7 (fun z => by cases z) (List.all_eq_true.mp am_v227 e he)
set_option maxRecDepth 100000 in
theorem am_v228 : am_t228.all (fun e => am_ckI am_rw7 false prog_6_method_25_code e.1 e.2) = true := by decide +kernel
theorem am_o228 : ∀ e ∈ am_t228, am_okI am_mth am_cl am_Ts am_stx am_slk am_m228 e.1 e.2 := fun e he => am_ckI_ok (rw := am_rw7) (ini := false) (M := am_m228) am_rq7 (fun z => by cases z) (List.all_eq_true.mp am_v228 e he)
set_option maxRecDepth 100000 in
theorem am_v229 : am_t229.all (fun e => am_ckI am_rw7 false prog_6_method_26_code e.1 e.2) = true := by decide +kernel
theorem am_o229 : ∀ e ∈ am_t229, am_okI am_mth am_cl am_Ts am_stx am_slk am_m229 e.1 e.2 := fun e he => am_ckI_ok (rw := am_rw7) (ini := false) (M := am_m229) am_rq7 (fun z => by cases z) (List.all_eq_true.mp am_v229 e he)
set_option maxRecDepth 100000 in
theorem am_v230 : am_t230.all (fun e => am_ckI am_rw7 false prog_6_method_27_code e.1 e.2) = true := by decide +kernel
theorem am_o230 : ∀ e ∈ am_t230, am_okI am_mth am_cl am_Ts am_stx am_slk am_m230 e.1 e.2 := fun e he => am_ckI_ok (rw := am_rw7) (ini := false) (M := am_m230) am_rq7 (fun z => by cases z) (List.all_eq_true.mp am_v230 e he)
set_option maxRecDepth 100000 in
theorem am_v231 : am_t231.all (fun e => am_ckI am_rw8 true prog_7_method_1_code e.1 e.2) = true := by decide +kernel
theorem am_o231 : ∀ e ∈ am_t231, am_okI am_mth am_cl am_Ts am_stx am_slk am_m231 e.1 e.2 := fun e he => am_ckI_ok (rw := am_rw8) (ini := true) (M := am_m231) am_rq8 (fun z => rfl) (List.all_eq_true.mp am_v231 e he)
set_option maxRecDepth 100000 in
theorem am_v232 : am_t232.all (fun e => am_ckI am_rw8 false prog_7_method_2_code e.1 e.2) = true := by decide +kernel
theorem am_o232 : ∀ e ∈ am_t232, am_okI am_mth am_cl am_Ts am_stx am_slk am_m232 e.1 e.2 := fun e he => am_ckI_ok (rw := am_rw8) (ini := false) (M := am_m232) am_rq8 (fun z => by cases z) (List.all_eq_true.mp am_v232 e he)
set_option maxRecDepth 100000 in
theorem am_v233 : am_t233.all (fun e => am_ckI am_rw8 false prog_7_method_3_code e.1 e.2) = true := by decide +kernel
theorem am_o233 : ∀ e ∈ am_t233, am_okI am_mth am_cl am_Ts am_stx am_slk am_m233 e.1 e.2 := fun e he => am_ckI_ok (rw := am_rw8) (ini := false) (M := am_m233) am_rq8 (fun z => by cases z) (List.all_eq_true.mp am_v233 e he)
set_option maxRecDepth 100000 in
theorem am_v234 : am_t234.all (fun e => am_ckI am_rw8 false prog_7_method_4_code e.1 e.2) = true := by decide +kernel
theorem am_o234 : ∀ e ∈ am_t234, am_okI am_mth am_cl am_Ts am_stx am_slk am_m234 e.1 e.2 := fun e he => am_ckI_ok (rw := am_rw8) (ini := false) (M := am_m234) am_rq8 (fun z => by cases z) (List.all_eq_true.mp am_v234 e he)
set_option maxRecDepth 100000 in
theorem am_v235 : am_t235.all (fun e => am_ckI am_rw8 false prog_7_method_5_code e.1 e.2) = true := by decide +kernel
theorem am_o235 : ∀ e ∈ am_t235, am_okI am_mth am_cl am_Ts am_stx am_slk am_m235 e.1 e.2 := fun e he => am_ckI_ok (rw := am_rw8) (ini := false) (M := am_m235) am_rq8 (fun z => by cases z) (List.all_eq_true.mp am_v235 e he)
set_option maxRecDepth 100000 in
theorem am_v236 : am_t236.all (fun e => am_ckI am_rw8 false prog_7_method_6_code e.1 e.2) = true := by decide +kernel
theorem am_o236 : ∀ e ∈ am_t236, am_okI am_mth am_cl am_Ts am_stx am_slk am_m236 e.1 e.2 := fun e he => am_ckI_ok (rw := am_rw8) (ini := false) (M := am_m236) am_rq8 (fun z => by cases z) (List.all_eq_true.mp am_v236 e he)
set_option maxRecDepth 100000 in
theorem am_v237 : am_t237.all (fun e => am_ckI am_rw8 false prog_7_method_7_code e.1 e.2) = true := by decide +kernel
theorem am_o237 : ∀ e ∈ am_t237, am_okI am_mth am_cl am_Ts am_stx am_slk am_m237 e.1 e.2 := fun e he => am_ckI_ok (rw := am_rw8) (ini := false) (M := am_m237) am_rq8 (fun z => by cases z) (List.all_eq_true.mp am_v237 e he)
set_option maxRecDepth 100000 in
theorem am_v238 : am_t238.all (fun e => am_ckI am_rw8 false prog_7_method_8_code e.1 e.2) = true := by decide +kernel
theorem am_o238 : ∀ e ∈ am_t238, am_okI am_mth am_cl am_Ts am_stx am_slk am_m238 e.1 e.2 := fun e he => am_ckI_ok (rw := am_rw8) (ini := false) (M := am_m238) am_rq8 (fun z => by cases z) (List.all_eq_true.mp am_v238 e he)
set_option maxRecDepth 100000 in
theorem am_v239 : am_t239.all (fun e => am_ckI am_rw9 true prog_8_method_1_code e.1 e.2) = true := by decide +kernel
theorem am_o239 : ∀ e ∈ am_t239, am_okI am_mth am_cl am_Ts am_stx am_slk am_m239 e.1 e.2 := fun e he => am_ckI_ok (rw := am_rw9) (ini := true) (M := am_m239) am_rq9 (fun z => rfl) (List.all_eq_true.mp am_v239 e he)
set_option maxRecDepth 100000 in
theorem am_v240 : am_t240.all (fun e => am_ckI am_rw9 false prog_8_method_2_code e.1 e.2) = true := by decide +kernel
theorem am_o240 : ∀ e ∈ am_t240, am_okI am_mth am_cl am_Ts am_stx am_slk am_m240 e.1 e.2 := fun e he => am_ckI_ok (rw := am_rw9) (ini := false) (M := am_m240) am_rq9 (fun z => by cases z) (List.all_eq_true.mp am_v240 e he)
set_option maxRecDepth 100000 in
theorem am_v241 : am_t241.all (fun e => am_ckI am_rw9 false prog_8_method_3_code e.1 e.2) = true := by decide +kernel
theorem am_o241 : ∀ e ∈ am_t241, am_okI am_mth am_cl am_Ts am_stx am_slk am_m241 e.1 e.2 := fun e he => am_ckI_ok (rw := am_rw9) (ini := false) (M := am_m241) am_rq9 (fun z => by cases z) (List.all_eq_true.mp am_v241 e he)
set_option maxRecDepth 100000 in
theorem am_v242 : am_t242.all (fun e => am_ckI am_rw9 false prog_8_method_4_code e.1 e.2) = true := by decide +kernel
theorem am_o242 : ∀ e ∈ am_t242, am_okI am_mth am_cl am_Ts am_stx am_slk am_m242 e.1 e.2 := fun e he => am_ckI_ok (rw := am_rw9) (ini := false) (M := am_m242) am_rq9 (fun z => by cases z) (List.all_eq_true.mp am_v242 e he)
set_option maxRecDepth 100000 in
theorem am_v243 : am_t243.all (fun e => am_ckI am_rw9 false prog_8_method_5_code e.1 e.2) = true := by decide +kernel
theorem am_o243 : ∀ e ∈ am_t243, am_okI am_mth am_cl am_Ts am_stx am_slk am_m243 e.1 e.2 := fun e he => am_ckI_ok (rw := am_rw9) (ini := false) (M := am_m243) am_rq9 (fun z => by cases z) (List.all_eq_true.mp am_v243 e he)
set_option maxRecDepth 100000 in
theorem am_v244 : am_t244.all (fun e => am_ckI am_rw9 false prog_8_method_6_code e.1 e.2) = true := by decide +kernel
theorem am_o244 : ∀ e ∈ am_t244, am_okI am_mth am_cl am_Ts am_stx am_slk am_m244 e.1 e.2 := fun e he => am_ckI_ok (rw := am_rw9) (ini := false) (M := am_m244) am_rq9 (fun z => by cases z) (List.all_eq_true.mp am_v244 e he)
set_option maxRecDepth 100000 in
theorem am_v245 : am_t245.all (fun e => am_ckI am_rw9 false prog_8_method_7_code e.1 e.2) = true := by decide +kernel
theorem am_o245 : ∀ e ∈ am_t245, am_okI am_mth am_cl am_Ts am_stx am_slk am_m245 e.1 e.2 := fun e he => am_ckI_ok (rw := am_rw9) (ini := false) (M := am_m245) am_rq9 (fun z => by cases z) (List.all_eq_true.mp am_v245 e he)
set_option maxRecDepth 100000 in
theorem am_v246 : am_t246.all (fun e => am_ckI am_rw9 false prog_8_method_8_code e.1 e.2) = true := by decide +kernel
theorem am_o246 : ∀ e ∈ am_t246, am_okI am_mth am_cl am_Ts am_stx am_slk am_m246 e.1 e.2 := fun e he => am_ckI_ok (rw := am_rw9) (ini := false) (M := am_m246) am_rq9 (fun z => by cases z) (List.all_eq_true.mp am_v246 e he)
set_option maxRecDepth 100000 in
theorem am_v247 : am_t247.all (fun e => am_ckI am_rw9 false prog_8_method_9_code e.1 e.2) = true := by decide +kernel
theorem am_o247 : ∀ e ∈ am_t247, am_okI am_mth am_cl am_Ts am_stx am_slk am_m247 e.1 e.2 := fun e he => am_ckI_ok (rw := am_rw9) (ini := false) (M := am_m247) am_rq9 (fun z => by cases z) (List.all_eq_true.mp am_v247 e he)
set_option maxRecDepth 100000 in
theorem am_v248 : am_t248.all (fun e => am_ckI am_rw9 false prog_8_method_10_code e.1 e.2) = true := by decide +kernel
theorem am_o248 : ∀ e ∈ am_t248, am_okI am_mth am_cl am_Ts am_stx am_slk am_m248 e.1 e.2 := fun e he => am_ckI_ok (rw := am_rw9) (ini := false) (M := am_m248) am_rq9 (fun z => by cases z) (List.all_eq_true.mp am_v248 e he)
set_option maxRecDepth 100000 in
theorem am_v249 : am_t249.all (fun e => am_ckI am_rw9 false prog_8_method_11_code e.1 e.2) = true := by decide +kernel
theorem am_o249 : ∀ e ∈ am_t249, am_okI am_mth am_cl am_Ts am_stx am_slk am_m249 e.1 e.2 := fun e he => am_ckI_ok (rw := am_rw9) (ini := false) (M := am_m249) am_rq9 (fun z => by cases z) (List.all_eq_true.mp am_v249 e he)
set_option maxRecDepth 100000 in
theorem am_v250 : am_t250.all (fun e => am_ckI am_rw9 false prog_8_method_12_code e.1 e.2) = true := by decide +kernel
theorem am_o250 : ∀ e ∈ am_t250, am_okI am_mth am_cl am_Ts am_stx am_slk am_m250 e.1 e.2 := fun e he => am_ckI_ok (rw := am_rw9) (ini := false) (M := am_m250) am_rq9 (fun z => by cases z) (List.all_eq_true.mp am_v250 e he)
set_option maxRecDepth 100000 in
theorem am_v251 : am_t251.all (fun e => am_ckI am_rw9 false prog_8_method_13_code e.1 e.2) = true := by decide +kernel
theorem am_o251 : ∀ e ∈ am_t251, am_okI am_mth am_cl am_Ts am_stx am_slk am_m251 e.1 e.2 := fun e he => am_ckI_ok (rw := am_rw9) (ini := false) (M := am_m251) am_rq9 (fun z => by cases z) (List.all_eq_true.mp am_v251 e he)
set_option maxRecDepth 100000 in
theorem am_v252 : am_t252.all (fun e => am_ckI am_rw9 false prog_8_method_14_code e.1 e.2) = true := by decide +kernel
theorem am_o252 : ∀ e ∈ am_t252, am_okI am_mth am_cl am_Ts am_stx am_slk am_m252 e.1 e.2 := fun e he => am_ckI_ok (rw := am_rw9) (ini := false) (M := am_m252) am_rq9 (fun z => by cases z) (List.all_eq_true.mp am_v252 e he)
set_option maxRecDepth 100000 in
theorem am_v253 : am_t253.all (fun e => am_ckI am_rw9 false prog_8_method_15_code e.1 e.2) = true := by decide +kernel
theorem am_o253 : ∀ e ∈ am_t253, am_okI am_mth am_cl am_Ts am_stx am_slk am_m253 e.1 e.2 := fun e he => am_ckI_ok (rw := am_rw9) (ini := false) (M := am_m253) am_rq9 (fun z => by cases z) (List.all_eq_true.mp am_v253 e he)
set_option maxRecDepth 100000 in
theorem am_v254 : am_t254.all (fun e => am_ckI am_rw9 false prog_8_method_16_code e.1 e.2) = true := by decide +kernel
theorem am_o254 : ∀ e ∈ am_t254, am_okI am_mth am_cl am_Ts am_stx am_slk am_m254 e.1 e.2 := fun e he => am_ckI_ok (rw := am_rw9) (ini := false) (M := am_m254) am_rq9 (fun z => by cases z) (List.all_eq_true.mp am_v254 e he)
set_option maxRecDepth 100000 in
theorem am_v255 : am_t255.all (fun e => am_ckI am_rw9 false prog_8_method_17_code e.1 e.2) = true := by decide +kernel
theorem am_o255 : ∀ e ∈ am_t255, am_okI am_mth am_cl am_Ts am_stx am_slk am_m255 e.1 e.2 := fun e he => am_ckI_ok (rw := am_rw9) (ini := false) (M := am_m255) am_rq9 (fun z => by cases z) (List.all_eq_true.mp am_v255 e he)
set_option maxRecDepth 100000 in
theorem am_v256 : am_t256.all (fun e => am_ckI am_rw10 true prog_9_method_1_code e.1 e.2) = true := by decide +kernel
theorem am_o256 : ∀ e ∈ am_t256, am_okI am_mth am_cl am_Ts am_stx am_slk am_m256 e.1 e.2 := fun e he => am_ckI_ok (rw := am_rw10) (ini := true) (M := am_m256) am_rq10 (fun z => rfl) (List.all_eq_true.mp am_v256 e he)
set_option maxRecDepth 100000 in
theorem am_v257 : am_t257.all (fun e => am_ckI am_rw10 false prog_9_method_2_code e.1 e.2) = true := by decide +kernel
theorem am_o257 : ∀ e ∈ am_t257, am_okI am_mth am_cl am_Ts am_stx am_slk am_m257 e.1 e.2 := fun e he => am_ckI_ok (rw := am_rw10) (ini := false) (M := am_m257) am_rq10 (fun z => by cases z) (List.all_eq_true.mp am_v257 e he)
set_option maxRecDepth 100000 in
theorem am_v258 : am_t258.all (fun e => am_ckI am_rw10 false prog_9_method_3_code e.1 e.2) = true := by decide +kernel
theorem am_o258 : ∀ e ∈ am_t258, am_okI am_mth am_cl am_Ts am_stx am_slk am_m258 e.1 e.2 := fun e he => am_ckI_ok (rw := am_rw10) (ini := false) (M := am_m258) am_rq10 (fun z => by cases z) (List.all_eq_true.mp am_v258 e he)
set_option maxRecDepth 100000 in
theorem am_v259 : am_t259.all (fun e => am_ckI am_rw10 false prog_9_method_4_code e.1 e.2) = true := by decide +kernel
theorem am_o259 : ∀ e ∈ am_t259, am_okI am_mth am_cl am_Ts am_stx am_slk am_m259 e.1 e.2 := fun e he => am_ckI_ok (rw := am_rw10) (ini := false) (M := am_m259) am_rq10 (fun z => by cases z) (List.all_eq_true.mp am_v259 e he)
set_option maxRecDepth 100000 in
theorem am_v260 : am_t260.all (fun e => am_ckI am_rw10 false prog_9_method_5_code e.1 e.2) = true := by decide +kernel
theorem am_o260 : ∀ e ∈ am_t260, am_okI am_mth am_cl am_Ts am_stx am_slk am_m260 e.1 e.2 := fun e he => am_ckI_ok (rw := am_rw10) (ini := false) (M := am_m260) am_rq10 (fun z => by cases z) (List.all_eq_true.mp am_v260 e he)
set_option maxRecDepth 100000 in
theorem am_v261 : am_t261.all (fun e => am_ckI am_rw10 false prog_9_method_6_code e.1 e.2) = true := by decide +kernel
theorem am_o261 : ∀ e ∈ am_t261, am_okI am_mth am_cl am_Ts am_stx am_slk am_m261 e.1 e.2 := fun e he => am_ckI_ok (rw := am_rw10) (ini := false) (M := am_m261) am_rq10 (fun z => by cases z) (List.all_eq_true.mp am_v261 e he)
set_option maxRecDepth 100000 in
theorem am_v262 : am_t262.all (fun e => am_ckI am_rw10 false prog_9_method_7_code e.1 e.2) = true := by decide +kernel
theorem am_o262 : ∀ e ∈ am_t262, am_okI am_mth am_cl am_Ts am_stx am_slk am_m262 e.1 e.2 := fun e he => am_ckI_ok (rw := am_rw10) (ini := false) (M := am_m262) am_rq10 (fun z => by cases z) (List.all_eq_true.mp am_v262 e he)
set_option maxRecDepth 100000 in
theorem am_v263 : am_t263.all (fun e => am_ckI am_rw10 false prog_9_method_8_code e.1 e.2) = true := by decide +kernel
theorem am_o263 : ∀ e ∈ am_t263, am_okI am_mth am_cl am_Ts am_stx am_slk am_m263 e.1 e.2 := fun e he => am_ckI_ok (rw := am_rw10) (ini := false) (M := am_m263) am_rq10 (fun z => by cases z) (List.all_eq_true.mp am_v263 e he)
set_option maxRecDepth 100000 in
theorem am_v264 : am_t264.all (fun e => am_ckI am_rw10 false prog_9_method_9_code e.1 e.2) = true := by decide +kernel
theorem am_o264 : ∀ e ∈ am_t264, am_okI am_mth am_cl am_Ts am_stx am_slk am_m264 e.1 e.2 := fun e he => am_ckI_ok (rw := am_rw10) (ini := false) (M := am_m264) am_rq10 (fun z => by cases z) (List.all_eq_true.mp am_v264 e he)
set_option maxRecDepth 100000 in
theorem am_v265 : am_t265.all (fun e => am_ckI am_rw10 false prog_9_method_10_code e.1 e.2) = true := by decide +kernel
theorem am_o265 : ∀ e ∈ am_t265, am_okI am_mth am_cl am_Ts am_stx am_slk am_m265 e.1 e.2 := fun e he => am_ckI_ok (rw := am_rw10) (ini := false) (M := am_m265) am_rq10 (fun z => by cases z) (List.all_eq_true.mp am_v265 e he)
set_option maxRecDepth 100000 in
theorem am_v266 : am_t266.all (fun e => am_ckI am_rw10 false prog_9_method_11_code e.1 e.2) = true := by decide +kernel
theorem am_o266 : ∀ e ∈ am_t266, am_okI am_mth am_cl am_Ts am_stx am_slk am_m266 e.1 e.2 := fun e he => am_ckI_ok (rw := am_rw10) (ini := false) (M := am_m266) am_rq10 (fun z => by cases z) (List.all_eq_true.mp am_v266 e he)
set_option maxRecDepth 100000 in
theorem am_v267 : am_t267.all (fun e => am_ckI am_rw10 false prog_9_method_12_code e.1 e.2) = true := by decide +kernel
theorem am_o267 : ∀ e ∈ am_t267, am_okI am_mth am_cl am_Ts am_stx am_slk am_m267 e.1 e.2 := fun e he => am_ckI_ok (rw := am_rw10) (ini := false) (M := am_m267) am_rq10 (fun z => by cases z) (List.all_eq_true.mp am_v267 e he)
set_option maxRecDepth 100000 in
theorem am_v268 : am_t268.all (fun e => am_ckI am_rw10 false prog_9_method_13_code e.1 e.2) = true := by decide +kernel
theorem am_o268 : ∀ e ∈ am_t268, am_okI am_mth am_cl am_Ts am_stx am_slk am_m268 e.1 e.2 := fun e he => am_ckI_ok (rw := am_rw10) (ini := false) (M := am_m268) am_rq10 (fun z => by cases z) (List.all_eq_true.mp am_v268 e he)
set_option maxRecDepth 100000 in
theorem am_v269 : am_t269.all (fun e => am_ckI am_rw11 true prog_10_method_1_code e.1 e.2) = true := by decide +kernel
theorem am_o269 : ∀ e ∈ am_t269, am_okI am_mth am_cl am_Ts am_stx am_slk am_m269 e.1 e.2 := fun e he => am_ckI_ok (rw := am_rw11) (ini := true) (M := am_m269) am_rq11 (fun z => rfl) (List.all_eq_true.mp am_v269 e he)
set_option maxRecDepth 100000 in
theorem am_v270 : am_t270.all (fun e => am_ckI am_rw11 false prog_10_method_2_code e.1 e.2) = true := by decide +kernel
theorem am_o270 : ∀ e ∈ am_t270, am_okI am_mth am_cl am_Ts am_stx am_slk am_m270 e.1 e.2 := fun e he => am_ckI_ok (rw := am_rw11) (ini := false) (M := am_m270) am_rq11 (fun z => by cases z) (List.all_eq_true.mp am_v270 e he)
set_option maxRecDepth 100000 in
theorem am_v271 : am_t271.all (fun e => am_ckI am_rw11 false prog_10_method_3_code e.1 e.2) = true := by decide +kernel
theorem am_o271 : ∀ e ∈ am_t271, am_okI am_mth am_cl am_Ts am_stx am_slk am_m271 e.1 e.2 := fun e he => am_ckI_ok (rw := am_rw11) (ini := false) (M := am_m271) am_rq11 (fun z => by cases z) (List.all_eq_true.mp am_v271 e he)
set_option maxRecDepth 100000 in
theorem am_v272 : am_t272.all (fun e => am_ckI am_rw11 false prog_10_method_4_code e.1 e.2) = true := by decide +kernel
theorem am_o272 : ∀ e ∈ am_t272, am_okI am_mth am_cl am_Ts am_stx am_slk am_m272 e.1 e.2 := fun e he => am_ckI_ok (rw := am_rw11) (ini := false) (M := am_m272) am_rq11 (fun z => by cases z) (List.all_eq_true.mp am_v272 e he)
set_option maxRecDepth 100000 in
theorem am_v273 : am_t273.all (fun e => am_ckI am_rw11 false prog_10_method_5_code e.1 e.2) = true := by decide +kernel
theorem am_o273 : ∀ e ∈ am_t273, am_okI am_mth am_cl am_Ts am_stx am_slk am_m273 e.1 e.2 := fun e he => am_ckI_ok (rw := am_rw11) (ini := false) (M := am_m273) am_rq11 (fun z => by cases z) (List.all_eq_true.mp am_v273 e he)
set_option maxRecDepth 100000 in
theorem am_v274 : am_t274.all (fun e => am_ckI am_rw11 false prog_10_method_6_code e.1 e.2) = true := by decide +kernel
theorem am_o274 : ∀ e ∈ am_t274, am_okI am_mth am_cl am_Ts am_stx am_slk am_m274 e.1 e.2 := fun e he => am_ckI_ok (rw := am_rw11) (ini := false) (M := am_m274) am_rq11 (fun z => by cases z) (List.all_eq_true.mp am_v274 e he)
set_option maxRecDepth 100000 in
theorem am_v275 : am_t275.all (fun e => am_ckI am_rw12 false prog_11_method_2_code e.1 e.2) = true := by decide +kernel
theorem am_o275 : ∀ e ∈ am_t275, am_okI am_mth am_cl am_Ts am_stx am_slk am_m275 e.1 e.2 := fun e he => am_ckI_ok (rw := am_rw12) (ini := false) (M := am_m275) am_rq12 (fun z => by cases z) (List.all_eq_true.mp am_v275 e he)
set_option maxRecDepth 100000 in
theorem am_v276 : am_t276.all (fun e => am_ckI am_rw12 false prog_11_method_3_code e.1 e.2) = true := by decide +kernel
theorem am_o276 : ∀ e ∈ am_t276, am_okI am_mth am_cl am_Ts am_stx am_slk am_m276 e.1 e.2 := fun e he => am_ckI_ok (rw := am_rw12) (ini := false) (M := am_m276) am_rq12 (fun z => by cases z) (List.all_eq_true.mp am_v276 e he)
set_option maxRecDepth 100000 in
theorem am_v277 : am_t277.all (fun e => am_ckI am_rw12 false prog_11_method_4_code e.1 e.2) = true := by decide +kernel
theorem am_o277 : ∀ e ∈ am_t277, am_okI am_mth am_cl am_Ts am_stx am_slk am_m277 e.1 e.2 := fun e he => am_ckI_ok (rw := am_rw12) (ini := false) (M := am_m277) am_rq12 (fun z => by cases z) (List.all_eq_true.mp am_v277 e he)
set_option maxRecDepth 100000 in
theorem am_v278 : am_t278.all (fun e => am_ckI am_rw13 true prog_12_method_1_code e.1 e.2) = true := by decide +kernel
theorem am_o278 : ∀ e ∈ am_t278, am_okI am_mth am_cl am_Ts am_stx am_slk am_m278 e.1 e.2 := fun e he => am_ckI_ok (rw := am_rw13) (ini := true) (M := am_m278) am_rq13 (fun z => rfl) (List.all_eq_true.mp am_v278 e he)
set_option maxRecDepth 100000 in
theorem am_v279 : am_t279.all (fun e => am_ckI am_rw13 false prog_12_method_2_code e.1 e.2) = true := by decide +kernel
theorem am_o279 : ∀ e ∈ am_t279, am_okI am_mth am_cl am_Ts am_stx am_slk am_m279 e.1 e.2 := fun e he => am_ckI_ok (rw := am_rw13) (ini := false) (M := am_m279) am_rq13 (fun z => by cases z) (List.all_eq_true.mp am_v279 e he)
set_option maxRecDepth 100000 in
theorem am_v280 : am_t280.all (fun e => am_ckI am_rw13 false prog_12_method_3_code e.1 e.2) = true := by decide +kernel
theorem am_o280 : ∀ e ∈ am_t280, am_okI am_mth am_cl am_Ts am_stx am_slk am_m280 e.1 e.2 := fun e he => am_ckI_ok (rw := am_rw13) (ini := false) (M := am_m280) am_rq13 (fun z => by cases z) (List.all_eq_true.mp am_v280 e he)
set_option maxRecDepth 100000 in
theorem am_v281 : am_t281.all (fun e => am_ckI am_rw13 false prog_12_method_4_code e.1 e.2) = true := by decide +kernel
theorem am_o281 : ∀ e ∈ am_t281, am_okI am_mth am_cl am_Ts am_stx am_slk am_m281 e.1 e.2 := fun e he => am_ckI_ok (rw := am_rw13) (ini := false) (M := am_m281) am_rq13 (fun z => by cases z) (List.all_eq_true.mp am_v281 e he)
