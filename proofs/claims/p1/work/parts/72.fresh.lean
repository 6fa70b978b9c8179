/-! PART 72: the fresh objects, by computation -/
def fr_f : Nat := 3000
def fr_g : Nat := 20000
def fr_A0 : am_A := ([.inr (1, (am_nf 1).map defaultValue)], (am_nf 1).length)
def fr_1 : Option (Option Value × am_A) := am_rn 0 (fun _ => 0) fr_f 999 97 0 [(0, .ref 0)] [] fr_A0
def fr_A1 : am_A := (fr_1.getD (none, fr_A0)).2
def fr_B1 : am_A := (fr_A1.1 ++ [.inr (0, (am_nf 0).map defaultValue)], fr_A1.2 + (am_nf 0).length)
def fr_2 : Option (Option Value × am_A) := am_rn 0 (fun _ => 0) fr_f 999 0 0 [(0, .ref 40)] [] fr_B1
def fr_A2 : am_A := (fr_2.getD (none, fr_B1)).2
set_option maxRecDepth 100000 in
theorem fr_1_ok : fr_1.map (fun r => (r.1.isNone, r.2.1.length)) = some (true, 40) := by decide +kernel
set_option maxRecDepth 100000 in
theorem fr_2_ok : fr_2.map (fun r => (r.1.isNone, r.2.1.length)) = some (true, 88) := by decide +kernel
set_option maxRecDepth 100000 in
theorem fr_o0 : am_ob 0 fr_A2 0 1 = some [.ref 1, .ref 3, .ref 22, .ref 24, .ref 25, .int 0, .int 2000] := by decide +kernel
