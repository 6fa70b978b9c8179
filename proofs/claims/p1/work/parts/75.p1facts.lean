/-! PART 75: closed calls on fresh objects; facts of the fresh heap -/
set_option maxRecDepth 100000 in
theorem fr_c_program : fr_chk 100 38 [] = true := by decide +kernel
set_option maxRecDepth 100000 in
theorem fr_c_start : fr_chk 102 91 [] = true := by decide +kernel
set_option maxRecDepth 100000 in
theorem fr_c_size : fr_chk 104 93 [] = true := by decide +kernel
set_option maxRecDepth 100000 in
theorem fr_c_end : fr_chk 99 89 [.int 0] = true := by decide +kernel
set_option maxRecDepth 100000 in
theorem fr_c_count : (List.all [0, 1, 2, 3, 4, 5, 6] (fun c => fr_chk 106 95 [.int c])) = true := by decide +kernel
set_option maxRecDepth 100000 in
theorem fr_b : fr_A2.2 ≤ 7302250 := by decide +kernel
set_option maxRecDepth 100000 in
theorem fr_o1 : am_ob 0 fr_A2 1 3 = some [.ref 2, .int 0, .int 0] := by decide +kernel
set_option maxRecDepth 100000 in
theorem fr_o25 : am_ob 0 fr_A2 25 5 = some [.ref 3, .ref 18, .ref 20, .ref 26, .ref 31, .ref 34, .ref 36, .ref 38, .int 0, .int 0, .long 0, .int 0, .int 0, .int 0] := by decide +kernel
set_option maxRecDepth 100000 in
theorem fr_o34 : am_ob 0 fr_A2 34 3 = some [.ref 35, .int 0, .int 0] := by decide +kernel
set_option maxRecDepth 100000 in
theorem fr_r2 : (am_ia 0 fr_A2 2 .byte).map (fun q => q.1) = some 2000 := by decide +kernel
set_option maxRecDepth 100000 in
theorem fr_r35 : (am_ia 0 fr_A2 35 .byte).map (fun q => q.1) = some 1500 := by decide +kernel
set_option maxRecDepth 100000 in
theorem fr_r41 : (am_ia 0 fr_A2 41 .int).map (fun q => q.1) = some 2000 := by decide +kernel
set_option maxRecDepth 100000 in
theorem fr_m40 : (am_ob 0 fr_A2 40 0).map (fun fs => (fs[0]?, fs[1]?, fs[73]?, fs.length)) = some (some (.ref 41), some (.int 0), some (.int 0), 84) := by decide +kernel
