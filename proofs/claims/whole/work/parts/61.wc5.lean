/-! PART 61: the class, decompiled: Machine.giveToCall, Machine.called, Machine.wordsHeld, Machine.parametersOf, Machine.makePart, Machine.argument, Machine.bindParameters, Machine.giveToShow, Machine.showMaker, Machine.showNext, Parser.parse, Parser.openDefinition, Parser.readExpression -/
/-- LazyHouse$Machine.giveToCall ()V, from 0 on -/
def wc_Machine_giveToCall (d : Nat) (s : cf_S) (Q : cf_S → Prop) : Prop := cf_J (d + 9) 195 [(0, .ref 25)] s (fun r1 s1 => cf_I (d + 9) 197 [(0, .ref 25), (1, .long r1)] s1 (fun r2 s2 => ((¬ r2 = 0 → cf_I (d + 9) 196 [(0, .ref 25)] s2 (fun r3 s3 => cf_I (d + 9) 263 [(0, .ref 31)] s3 (fun r4 s4 => ((0 ≤ ((r3 + r4) - r2) → cf_J (d + 9) 195 [(0, .ref 25)] s4 (fun r5 s5 => cf_V (d + 9) 200 [(0, .ref 25), (1, .long r5), (3, .int r2), (4, .int r3)] s5 (fun s6 => ((((r3 + r4) - r2) ≤ 0 → cf_V (d + 9) 266 [(0, .ref 31)] s6 (fun s7 => Q s7)) ∧ (¬ (((r3 + r4) - r2) ≤ 0) → cf_V (d + 9) 267 [(0, .ref 31), (1, .int ((r3 + r4) - r2))] s6 (fun s8 => Q s8)))))) ∧ (¬ (0 ≤ ((r3 + r4) - r2)) → cf_I (d + 9) 263 [(0, .ref 31)] s4 (fun r9 s9 => cf_V (d + 9) 198 [(0, .ref 25), (1, .int r3), (2, .int (r3 + r9))] s9 (fun s10 => Q s10))))))) ∧ (r2 = 0 → cf_V (d + 9) 164 [(0, .ref 25), (1, .int (Int32.ofInt 2))] s2 (fun s11 => Q s11)))))
set_option maxRecDepth 20000 in
theorem wc_Machine_giveToCall_ok {d : Nat} {s : cf_S} {Q : cf_S → Prop} (h : wc_Machine_giveToCall d s Q) : cf_V (d + 10) 194 [(0, .ref 25)] s Q := by
  unfold wc_Machine_giveToCall at h
  unfold cf_V
  refine cf_R_w rp_194 (rf_bk am_t194 0 2) 0 [(0, .ref 25)] [] s (by repeat (first | exact trivial | refine ⟨rfl, ?_⟩)) (by decide +kernel) ?_
  refine cf_R_call (pc := 2) (q := ([.ref 25], [.ref 25])) rp_194 rfl rfl (by decide) (by decide) rp_195 rfl (Nat.le_of_ble_eq_true rfl) ⟨rfl, Nat.le_of_ble_eq_true rfl⟩ h (fun v s1 h => ?_)
  obtain ⟨r1, rfl, h⟩ := h
  refine cf_R_call (pc := 5) (q := ([.ref 25, .long r1], [])) rp_194 rfl rfl (by decide) (by decide) rp_197 rfl (Nat.le_of_ble_eq_true rfl) ⟨rfl, Nat.le_of_ble_eq_true rfl⟩ h (fun v s2 h => ?_)
  obtain ⟨r2, rfl, h⟩ := h
  refine cf_R_w rp_194 (rf_bk am_t194 4 3) 8 [(0, .ref 25)] [.int r2] s2 (by repeat (first | exact trivial | refine ⟨rfl, ?_⟩)) (by decide +kernel) ?_
  refine cf_R_if (b := am_cnd .ne r2 0) (p := 19) (q := 13) (fun hb => ?_) (fun hb => ?_)
  · replace h := h.1 (of_decide_eq_true hb)
    refine cf_R_w rp_194 (rf_bk am_t194 11 1) 19 [(1, .int r2), (0, .ref 25)] [] s2 (by repeat (first | exact trivial | refine ⟨rfl, ?_⟩)) (by decide +kernel) ?_
    refine cf_R_call (pc := 20) (q := ([.ref 25], [])) rp_194 rfl rfl (by decide) (by decide) rp_196 rfl (Nat.le_of_ble_eq_true rfl) ⟨rfl, Nat.le_of_ble_eq_true rfl⟩ h (fun v s3 h => ?_)
    obtain ⟨r3, rfl, h⟩ := h
    refine cf_R_w rp_194 (rf_bk am_t194 13 4) 23 [(1, .int r2), (0, .ref 25)] [.int r3] s3 (by repeat (first | exact trivial | refine ⟨rfl, ?_⟩)) (by decide +kernel) ?_
    refine cf_R_call (pc := 29) (q := ([.ref 31], [.int r3])) rp_194 rfl rfl (by decide) (by decide) rp_263 rfl (Nat.le_of_ble_eq_true rfl) ⟨rfl, Nat.le_of_ble_eq_true rfl⟩ h (fun v s4 h => ?_)
    obtain ⟨r4, rfl, h⟩ := h
    refine cf_R_w rp_194 (rf_bk am_t194 18 6) 32 [(2, .int r3), (1, .int r2), (0, .ref 25)] [.int r4, .int r3] s4 (by repeat (first | exact trivial | refine ⟨rfl, ?_⟩)) (by decide +kernel) ?_
    refine cf_R_if (b := am_cnd .ge ((r3 + r4) - r2) 0) (p := 55) (q := 40) (fun hb => ?_) (fun hb => ?_)
    · replace h := h.1 (of_decide_eq_true hb)
      refine cf_R_w rp_194 (rf_bk am_t194 33 2) 55 [(3, .int ((r3 + r4) - r2)), (2, .int r3), (1, .int r2), (0, .ref 25)] [] s4 (by repeat (first | exact trivial | refine ⟨rfl, ?_⟩)) (by decide +kernel) ?_
      refine cf_R_call (pc := 57) (q := ([.ref 25], [.ref 25])) rp_194 rfl rfl (by decide) (by decide) rp_195 rfl (Nat.le_of_ble_eq_true rfl) ⟨rfl, Nat.le_of_ble_eq_true rfl⟩ h (fun v s5 h => ?_)
      obtain ⟨r5, rfl, h⟩ := h
      refine cf_R_w rp_194 (rf_bk am_t194 36 2) 60 [(3, .int ((r3 + r4) - r2)), (2, .int r3), (1, .int r2), (0, .ref 25)] [.long r5, .ref 25] s5 (by repeat (first | exact trivial | refine ⟨rfl, ?_⟩)) (by decide +kernel) ?_
      refine cf_R_call (pc := 62) (q := ([.ref 25, .long r5, .int r2, .int r3], [])) rp_194 rfl rfl (by decide) (by decide) rp_200 rfl (Nat.le_of_ble_eq_true rfl) ⟨rfl, Nat.le_of_ble_eq_true rfl⟩ h (fun v s6 h => ?_)
      obtain ⟨rfl, h⟩ := h
      refine cf_R_w rp_194 (rf_bk am_t194 39 2) 65 [(3, .int ((r3 + r4) - r2)), (2, .int r3), (1, .int r2), (0, .ref 25)] [] s6 (by repeat (first | exact trivial | refine ⟨rfl, ?_⟩)) (by decide +kernel) ?_
      refine cf_R_if (b := am_cnd .le ((r3 + r4) - r2) 0) (p := 80) (q := 69) (fun hb => ?_) (fun hb => ?_)
      · replace h := h.1 (of_decide_eq_true hb)
        refine cf_R_w rp_194 (rf_bk am_t194 46 2) 80 [(3, .int ((r3 + r4) - r2)), (2, .int r3), (1, .int r2), (0, .ref 25)] [] s6 (by repeat (first | exact trivial | refine ⟨rfl, ?_⟩)) (by decide +kernel) ?_
        refine cf_R_call (pc := 84) (q := ([.ref 31], [])) rp_194 rfl rfl (by decide) (by decide) rp_266 rfl (Nat.le_of_ble_eq_true rfl) ⟨rfl, Nat.le_of_ble_eq_true rfl⟩ h (fun v s7 h => ?_)
        obtain ⟨rfl, h⟩ := h
        exact cf_R_ret (pc := 87) rp_194 rfl rfl rfl ⟨rfl, h⟩
      · replace h := h.2 (of_decide_eq_false hb)
        refine cf_R_w rp_194 (rf_bk am_t194 41 3) 69 [(3, .int ((r3 + r4) - r2)), (2, .int r3), (1, .int r2), (0, .ref 25)] [] s6 (by repeat (first | exact trivial | refine ⟨rfl, ?_⟩)) (by decide +kernel) ?_
        refine cf_R_call (pc := 74) (q := ([.ref 31, .int ((r3 + r4) - r2)], [])) rp_194 rfl rfl (by decide) (by decide) rp_267 rfl (Nat.le_of_ble_eq_true rfl) ⟨rfl, Nat.le_of_ble_eq_true rfl⟩ h (fun v s8 h => ?_)
        obtain ⟨rfl, h⟩ := h
        refine cf_R_w rp_194 (rf_bk am_t194 45 1) 77 [(3, .int ((r3 + r4) - r2)), (2, .int r3), (1, .int r2), (0, .ref 25)] [] s8 (by repeat (first | exact trivial | refine ⟨rfl, ?_⟩)) (by decide +kernel) ?_
        exact cf_R_ret (pc := 87) rp_194 rfl rfl rfl ⟨rfl, h⟩
    · replace h := h.2 (of_decide_eq_false hb)
      refine cf_R_w rp_194 (rf_bk am_t194 24 5) 40 [(3, .int ((r3 + r4) - r2)), (2, .int r3), (1, .int r2), (0, .ref 25)] [] s4 (by repeat (first | exact trivial | refine ⟨rfl, ?_⟩)) (by decide +kernel) ?_
      refine cf_R_call (pc := 47) (q := ([.ref 31], [.int r3, .int r3, .ref 25])) rp_194 rfl rfl (by decide) (by decide) rp_263 rfl (Nat.le_of_ble_eq_true rfl) ⟨rfl, Nat.le_of_ble_eq_true rfl⟩ h (fun v s9 h => ?_)
      obtain ⟨r9, rfl, h⟩ := h
      refine cf_R_w rp_194 (rf_bk am_t194 30 1) 50 [(3, .int ((r3 + r4) - r2)), (2, .int r3), (1, .int r2), (0, .ref 25)] [.int r9, .int r3, .int r3, .ref 25] s9 (by repeat (first | exact trivial | refine ⟨rfl, ?_⟩)) (by decide +kernel) ?_
      refine cf_R_call (pc := 51) (q := ([.ref 25, .int r3, .int (r3 + r9)], [])) rp_194 rfl rfl (by decide) (by decide) rp_198 rfl (Nat.le_of_ble_eq_true rfl) ⟨rfl, Nat.le_of_ble_eq_true rfl⟩ h (fun v s10 h => ?_)
      obtain ⟨rfl, h⟩ := h
      exact cf_R_ret (pc := 54) rp_194 rfl rfl rfl ⟨rfl, h⟩
  · replace h := h.2 (Decidable.not_not.mp (of_decide_eq_false hb))
    refine cf_R_w rp_194 (rf_bk am_t194 7 2) 13 [(1, .int r2), (0, .ref 25)] [] s2 (by repeat (first | exact trivial | refine ⟨rfl, ?_⟩)) (by decide +kernel) ?_
    refine cf_R_call (pc := 15) (q := ([.ref 25, .int (Int32.ofInt 2)], [])) rp_194 rfl rfl (by decide) (by decide) rp_164 rfl (Nat.le_of_ble_eq_true rfl) ⟨rfl, Nat.le_of_ble_eq_true rfl⟩ h (fun v s11 h => ?_)
    obtain ⟨rfl, h⟩ := h
    exact cf_R_ret (pc := 18) rp_194 rfl rfl rfl ⟨rfl, h⟩
/-- LazyHouse$Machine.called ()J, from 0 on -/
def wc_Machine_called (d : Nat) (s : cf_S) (Q : Int64 → cf_S → Prop) : Prop := cf_I (d + 9) 139 [(0, .ref 26), (1, .long (s.2.1 25 10))] s (fun r1 s1 => ((¬ r1 = ((Int8.ofInt 6).toInt32) → Q (s1.2.1 25 10) s1) ∧ (r1 = ((Int8.ofInt 6).toInt32) → cf_J (d + 9) 137 [(0, .ref 26), (1, .int ((s1.2.1 25 10).toInt32)), (2, .int (Int32.ofInt 0))] s1 (fun r2 s2 => Q r2 s2))))
set_option maxRecDepth 20000 in
theorem wc_Machine_called_ok {d : Nat} {s : cf_S} {Q : Int64 → cf_S → Prop} (h : wc_Machine_called d s Q) : cf_J (d + 10) 195 [(0, .ref 25)] s Q := by
  unfold wc_Machine_called at h
  unfold cf_J
  refine cf_R_w rp_195 (rf_bk am_t195 0 4) 0 [(0, .ref 25)] [] s (by repeat (first | exact trivial | refine ⟨rfl, ?_⟩)) (by decide +kernel) ?_
  refine cf_R_call (pc := 8) (q := ([.ref 26, .long (s.2.1 25 10)], [])) rp_195 rfl rfl (by decide) (by decide) rp_139 rfl (Nat.le_of_ble_eq_true rfl) ⟨rfl, Nat.le_of_ble_eq_true rfl⟩ h (fun v s1 h => ?_)
  obtain ⟨r1, rfl, h⟩ := h
  refine cf_R_w rp_195 (rf_bk am_t195 5 2) 11 [(0, .ref 25)] [.int r1] s1 (by repeat (first | exact trivial | refine ⟨rfl, ?_⟩)) (by decide +kernel) ?_
  refine cf_R_if (b := am_cnd .ne r1 ((Int8.ofInt 6).toInt32)) (p := 34) (q := 16) (fun hb => ?_) (fun hb => ?_)
  · replace h := h.1 (of_decide_eq_true hb)
    refine cf_R_w rp_195 (rf_bk am_t195 15 2) 34 [(0, .ref 25)] [] s1 (by repeat (first | exact trivial | refine ⟨rfl, ?_⟩)) (by decide +kernel) ?_
    exact cf_R_ret (pc := 38) (v := some (.long (s1.2.1 25 10))) rp_195 rfl rfl rfl ⟨_, rfl, h⟩
  · replace h := h.2 (Decidable.not_not.mp (of_decide_eq_false hb))
    refine cf_R_w rp_195 (rf_bk am_t195 7 4) 16 [(0, .ref 25)] [] s1 (by repeat (first | exact trivial | refine ⟨rfl, ?_⟩)) (by decide +kernel) ?_
    refine cf_R_prim (pc := 24) (q := ([.long (s1.2.1 25 10)], [.ref 26])) rp_195 rfl rfl (by decide) (by decide) rp_277 rfl (Nat.le_of_ble_eq_true rfl) ⟨rfl, Nat.le_of_ble_eq_true rfl⟩ (cq_value) ?_
    refine cf_R_w rp_195 (rf_bk am_t195 12 1) 27 [(0, .ref 25)] [.int ((s1.2.1 25 10).toInt32), .ref 26] s1 (by repeat (first | exact trivial | refine ⟨rfl, ?_⟩)) (by decide +kernel) ?_
    refine cf_R_call (pc := 28) (q := ([.ref 26, .int ((s1.2.1 25 10).toInt32), .int (Int32.ofInt 0)], [])) rp_195 rfl rfl (by decide) (by decide) rp_137 rfl (Nat.le_of_ble_eq_true rfl) ⟨rfl, Nat.le_of_ble_eq_true rfl⟩ h (fun v s2 h => ?_)
    obtain ⟨r2, rfl, h⟩ := h
    refine cf_R_w rp_195 (rf_bk am_t195 14 1) 31 [(0, .ref 25)] [.long r2] s2 (by repeat (first | exact trivial | refine ⟨rfl, ?_⟩)) (by decide +kernel) ?_
    exact cf_R_ret (pc := 38) (v := some (.long r2)) rp_195 rfl rfl rfl ⟨_, rfl, h⟩
/-- LazyHouse$Machine.wordsHeld ()I, from 0 on -/
def wc_Machine_wordsHeld (d : Nat) (s : cf_S) (Q : Int32 → cf_S → Prop) : Prop := cf_I (d + 9) 139 [(0, .ref 26), (1, .long (s.2.1 25 10))] s (fun r1 s1 => ((¬ r1 = ((Int8.ofInt 6).toInt32) → Q (Int32.ofInt 0) s1) ∧ (r1 = ((Int8.ofInt 6).toInt32) → cf_I (d + 9) 135 [(0, .ref 26), (1, .int ((s1.2.1 25 10).toInt32))] s1 (fun r2 s2 => Q (r2 - (Int32.ofInt 1)) s2))))
set_option maxRecDepth 20000 in
theorem wc_Machine_wordsHeld_ok {d : Nat} {s : cf_S} {Q : Int32 → cf_S → Prop} (h : wc_Machine_wordsHeld d s Q) : cf_I (d + 10) 196 [(0, .ref 25)] s Q := by
  unfold wc_Machine_wordsHeld at h
  unfold cf_I
  refine cf_R_w rp_196 (rf_bk am_t196 0 4) 0 [(0, .ref 25)] [] s (by repeat (first | exact trivial | refine ⟨rfl, ?_⟩)) (by decide +kernel) ?_
  refine cf_R_call (pc := 8) (q := ([.ref 26, .long (s.2.1 25 10)], [])) rp_196 rfl rfl (by decide) (by decide) rp_139 rfl (Nat.le_of_ble_eq_true rfl) ⟨rfl, Nat.le_of_ble_eq_true rfl⟩ h (fun v s1 h => ?_)
  obtain ⟨r1, rfl, h⟩ := h
  refine cf_R_w rp_196 (rf_bk am_t196 5 2) 11 [(0, .ref 25)] [.int r1] s1 (by repeat (first | exact trivial | refine ⟨rfl, ?_⟩)) (by decide +kernel) ?_
  refine cf_R_if (b := am_cnd .ne r1 ((Int8.ofInt 6).toInt32)) (p := 35) (q := 16) (fun hb => ?_) (fun hb => ?_)
  · replace h := h.1 (of_decide_eq_true hb)
    refine cf_R_w rp_196 (rf_bk am_t196 16 1) 35 [(0, .ref 25)] [] s1 (by repeat (first | exact trivial | refine ⟨rfl, ?_⟩)) (by decide +kernel) ?_
    exact cf_R_ret (pc := 36) (v := some (.int (Int32.ofInt 0))) rp_196 rfl rfl rfl ⟨_, rfl, h⟩
  · replace h := h.2 (Decidable.not_not.mp (of_decide_eq_false hb))
    refine cf_R_w rp_196 (rf_bk am_t196 7 4) 16 [(0, .ref 25)] [] s1 (by repeat (first | exact trivial | refine ⟨rfl, ?_⟩)) (by decide +kernel) ?_
    refine cf_R_prim (pc := 24) (q := ([.long (s1.2.1 25 10)], [.ref 26])) rp_196 rfl rfl (by decide) (by decide) rp_277 rfl (Nat.le_of_ble_eq_true rfl) ⟨rfl, Nat.le_of_ble_eq_true rfl⟩ (cq_value) ?_
    refine cf_R_call (pc := 27) (q := ([.ref 26, .int ((s1.2.1 25 10).toInt32)], [])) rp_196 rfl rfl (by decide) (by decide) rp_135 rfl (Nat.le_of_ble_eq_true rfl) ⟨rfl, Nat.le_of_ble_eq_true rfl⟩ h (fun v s2 h => ?_)
    obtain ⟨r2, rfl, h⟩ := h
    refine cf_R_w rp_196 (rf_bk am_t196 13 3) 30 [(0, .ref 25)] [.int r2] s2 (by repeat (first | exact trivial | refine ⟨rfl, ?_⟩)) (by decide +kernel) ?_
    exact cf_R_ret (pc := 36) (v := some (.int (r2 - (Int32.ofInt 1)))) rp_196 rfl rfl rfl ⟨_, rfl, h⟩
/-- LazyHouse$Machine.parametersOf (J)I, from 0 on -/
def wc_Machine_parametersOf (d : Nat) (x1 : Int64) (s : cf_S) (Q : Int32 → cf_S → Prop) : Prop := ((¬ (rf_isOf x1) = (Int32.ofInt 2) → cf_I (d + 9) 139 [(0, .ref 26), (1, .long x1)] s (fun r1 s1 => ((¬ r1 = (Int32.ofInt 4) → Q (Int32.ofInt 0) s1) ∧ (r1 = (Int32.ofInt 4) → cf_I (d + 9) 134 [(0, .ref 26), (1, .int (x1.toInt32))] s1 (fun r2 s2 => Q (tb_get s2 18 r2 (Int32.ofInt 4)) s2))))) ∧ ((rf_isOf x1) = (Int32.ofInt 2) → Q (tb_get s 10 (x1.toInt32) (Int32.ofInt 1)) s))
set_option maxRecDepth 20000 in
theorem wc_Machine_parametersOf_ok {d : Nat} {x1 : Int64} {s : cf_S} {Q : Int32 → cf_S → Prop} (h : wc_Machine_parametersOf d x1 s Q) : cf_I (d + 10) 197 [(0, .ref 25), (1, .long x1)] s Q := by
  unfold wc_Machine_parametersOf at h
  unfold cf_I
  refine cf_R_w rp_197 (rf_bk am_t197 0 1) 0 [(0, .ref 25), (1, .long x1)] [] s (by repeat (first | exact trivial | refine ⟨rfl, ?_⟩)) (by decide +kernel) ?_
  refine cf_R_prim (pc := 1) (q := ([.long x1], [])) rp_197 rfl rfl (by decide) (by decide) rp_276 rfl (Nat.le_of_ble_eq_true rfl) ⟨rfl, Nat.le_of_ble_eq_true rfl⟩ (cq_tag) ?_
  refine cf_R_w rp_197 (rf_bk am_t197 2 2) 4 [(0, .ref 25), (1, .long x1)] [.int (rf_isOf x1)] s (by repeat (first | exact trivial | refine ⟨rfl, ?_⟩)) (by decide +kernel) ?_
  refine cf_R_if (b := am_cnd .ne (rf_isOf x1) (Int32.ofInt 2)) (p := 24) (q := 8) (fun hb => ?_) (fun hb => ?_)
  · replace h := h.1 (of_decide_eq_true hb)
    refine cf_R_w rp_197 (rf_bk am_t197 12 3) 24 [(0, .ref 25), (1, .long x1)] [] s (by repeat (first | exact trivial | refine ⟨rfl, ?_⟩)) (by decide +kernel) ?_
    refine cf_R_call (pc := 29) (q := ([.ref 26, .long x1], [])) rp_197 rfl rfl (by decide) (by decide) rp_139 rfl (Nat.le_of_ble_eq_true rfl) ⟨rfl, Nat.le_of_ble_eq_true rfl⟩ h (fun v s1 h => ?_)
    obtain ⟨r1, rfl, h⟩ := h
    refine cf_R_w rp_197 (rf_bk am_t197 16 2) 32 [(0, .ref 25), (1, .long x1)] [.int r1] s1 (by repeat (first | exact trivial | refine ⟨rfl, ?_⟩)) (by decide +kernel) ?_
    refine cf_R_if (b := am_cnd .ne r1 (Int32.ofInt 4)) (p := 58) (q := 36) (fun hb => ?_) (fun hb => ?_)
    · replace h := h.1 (of_decide_eq_true hb)
      refine cf_R_w rp_197 (rf_bk am_t197 28 1) 58 [(0, .ref 25), (1, .long x1)] [] s1 (by repeat (first | exact trivial | refine ⟨rfl, ?_⟩)) (by decide +kernel) ?_
      exact cf_R_ret (pc := 59) (v := some (.int (Int32.ofInt 0))) rp_197 rfl rfl rfl ⟨_, rfl, h⟩
    · replace h := h.2 (Decidable.not_not.mp (of_decide_eq_false hb))
      refine cf_R_w rp_197 (rf_bk am_t197 18 5) 36 [(0, .ref 25), (1, .long x1)] [] s1 (by repeat (first | exact trivial | refine ⟨rfl, ?_⟩)) (by decide +kernel) ?_
      refine cf_R_prim (pc := 45) (q := ([.long x1], [.ref 26, .ref 18])) rp_197 rfl rfl (by decide) (by decide) rp_277 rfl (Nat.le_of_ble_eq_true rfl) ⟨rfl, Nat.le_of_ble_eq_true rfl⟩ (cq_value) ?_
      refine cf_R_call (pc := 48) (q := ([.ref 26, .int (x1.toInt32)], [.ref 18])) rp_197 rfl rfl (by decide) (by decide) rp_134 rfl (Nat.le_of_ble_eq_true rfl) ⟨rfl, Nat.le_of_ble_eq_true rfl⟩ h (fun v s2 h => ?_)
      obtain ⟨r2, rfl, h⟩ := h
      refine cf_R_w rp_197 (rf_bk am_t197 25 1) 51 [(0, .ref 25), (1, .long x1)] [.int r2, .ref 18] s2 (by repeat (first | exact trivial | refine ⟨rfl, ?_⟩)) (by decide +kernel) ?_
      refine cf_R_prim (pc := 52) (q := ([.ref 18, .int r2, .int (Int32.ofInt 4)], [])) rp_197 rfl rfl (by decide) (by decide) rp_273 rfl (Nat.le_of_ble_eq_true rfl) ⟨rfl, Nat.le_of_ble_eq_true rfl⟩ (cq_get rfl) ?_
      refine cf_R_w rp_197 (rf_bk am_t197 27 1) 55 [(0, .ref 25), (1, .long x1)] [.int (tb_get s2 18 r2 (Int32.ofInt 4))] s2 (by repeat (first | exact trivial | refine ⟨rfl, ?_⟩)) (by decide +kernel) ?_
      exact cf_R_ret (pc := 59) (v := some (.int (tb_get s2 18 r2 (Int32.ofInt 4)))) rp_197 rfl rfl rfl ⟨_, rfl, h⟩
  · replace h := h.2 (Decidable.not_not.mp (of_decide_eq_false hb))
    refine cf_R_w rp_197 (rf_bk am_t197 4 4) 8 [(0, .ref 25), (1, .long x1)] [] s (by repeat (first | exact trivial | refine ⟨rfl, ?_⟩)) (by decide +kernel) ?_
    refine cf_R_prim (pc := 16) (q := ([.long x1], [.ref 10])) rp_197 rfl rfl (by decide) (by decide) rp_277 rfl (Nat.le_of_ble_eq_true rfl) ⟨rfl, Nat.le_of_ble_eq_true rfl⟩ (cq_value) ?_
    refine cf_R_w rp_197 (rf_bk am_t197 9 1) 19 [(0, .ref 25), (1, .long x1)] [.int (x1.toInt32), .ref 10] s (by repeat (first | exact trivial | refine ⟨rfl, ?_⟩)) (by decide +kernel) ?_
    refine cf_R_prim (pc := 20) (q := ([.ref 10, .int (x1.toInt32), .int (Int32.ofInt 1)], [])) rp_197 rfl rfl (by decide) (by decide) rp_273 rfl (Nat.le_of_ble_eq_true rfl) ⟨rfl, Nat.le_of_ble_eq_true rfl⟩ (cq_get rfl) ?_
    exact cf_R_ret (pc := 23) (v := some (.int (tb_get s 10 (x1.toInt32) (Int32.ofInt 1)))) rp_197 rfl rfl rfl ⟨_, rfl, h⟩
/-- LazyHouse$Machine.makePart (II)V, from 30 on -/
def wc_Machine_makePart_30 (d : Nat) (x1 : Int32) (x2 : Int32) (x3 : Int32) (x4 : Int32) (s : cf_S) (Q : cf_S → Prop) : Prop := ((x2 ≤ x4 → cf_V (d + 9) 266 [(0, .ref 31)] s (fun s1 => cf_V (d + 9) 163 [(0, .ref 25), (1, .long (rf_word (Int32.ofInt 3) x3))] s1 (fun s2 => Q s2))) ∧ (¬ (x2 ≤ x4) → cf_J (d + 9) 199 [(0, .ref 25), (1, .int x1), (2, .int x4)] s (fun r3 s3 => cf_V (d + 9) 138 [(0, .ref 26), (1, .int x3), (2, .int ((Int32.ofInt 1) + x4)), (3, .long r3)] s3 (fun s4 => cf_R (d + 10) 198 (30, [(0, .ref 25), (1, .int x1), (2, .int x2), (3, .int x3), (4, .int (x4 + Int32.ofInt 1))], [], s4) (cf_qV Q)))))
set_option maxRecDepth 20000 in
theorem wc_Machine_makePart_30_ok {d : Nat} {x1 : Int32} {x2 : Int32} {x3 : Int32} {x4 : Int32} {s : cf_S} {Q : cf_S → Prop} (h : wc_Machine_makePart_30 d x1 x2 x3 x4 s Q) : cf_R (d + 10) 198 (30, [(0, .ref 25), (1, .int x1), (2, .int x2), (3, .int x3), (4, .int x4)], [], s) (cf_qV Q) := by
  unfold wc_Machine_makePart_30 at h
  refine cf_R_w rp_198 (rf_bk am_t198 18 3) 30 [(0, .ref 25), (1, .int x1), (2, .int x2), (3, .int x3), (4, .int x4)] [] s (by repeat (first | exact trivial | refine ⟨rfl, ?_⟩)) (by decide +kernel) ?_
  refine cf_R_if (b := am_cnd .ge x4 x2) (p := 61) (q := 36) (fun hb => ?_) (fun hb => ?_)
  · replace h := h.1 (of_decide_eq_true hb)
    refine cf_R_w rp_198 (rf_bk am_t198 34 2) 61 [(0, .ref 25), (1, .int x1), (2, .int x2), (3, .int x3), (4, .int x4)] [] s (by repeat (first | exact trivial | refine ⟨rfl, ?_⟩)) (by decide +kernel) ?_
    refine cf_R_call (pc := 65) (q := ([.ref 31], [])) rp_198 rfl rfl (by decide) (by decide) rp_266 rfl (Nat.le_of_ble_eq_true rfl) ⟨rfl, Nat.le_of_ble_eq_true rfl⟩ h (fun v s1 h => ?_)
    obtain ⟨rfl, h⟩ := h
    refine cf_R_w rp_198 (rf_bk am_t198 37 3) 68 [(0, .ref 25), (1, .int x1), (2, .int x2), (3, .int x3), (4, .int x4)] [] s1 (by repeat (first | exact trivial | refine ⟨rfl, ?_⟩)) (by decide +kernel) ?_
    refine cf_R_prim (pc := 71) (q := ([.int (Int32.ofInt 3), .int x3], [.ref 25])) rp_198 rfl rfl (by decide) (by decide) rp_275 rfl (Nat.le_of_ble_eq_true rfl) ⟨rfl, Nat.le_of_ble_eq_true rfl⟩ (cq_of) ?_
    refine cf_R_call (pc := 74) (q := ([.ref 25, .long (rf_word (Int32.ofInt 3) x3)], [])) rp_198 rfl rfl (by decide) (by decide) rp_163 rfl (Nat.le_of_ble_eq_true rfl) ⟨rfl, Nat.le_of_ble_eq_true rfl⟩ h (fun v s2 h => ?_)
    obtain ⟨rfl, h⟩ := h
    exact cf_R_ret (pc := 77) rp_198 rfl rfl rfl ⟨rfl, h⟩
  · replace h := h.2 (of_decide_eq_false hb)
    refine cf_R_w rp_198 (rf_bk am_t198 21 9) 36 [(0, .ref 25), (1, .int x1), (2, .int x2), (3, .int x3), (4, .int x4)] [] s (by repeat (first | exact trivial | refine ⟨rfl, ?_⟩)) (by decide +kernel) ?_
    refine cf_R_call (pc := 49) (q := ([.ref 25, .int x1, .int x4], [.int ((Int32.ofInt 1) + x4), .int x3, .ref 26])) rp_198 rfl rfl (by decide) (by decide) rp_199 rfl (Nat.le_of_ble_eq_true rfl) ⟨rfl, Nat.le_of_ble_eq_true rfl⟩ h (fun v s3 h => ?_)
    obtain ⟨r3, rfl, h⟩ := h
    refine cf_R_call (pc := 52) (q := ([.ref 26, .int x3, .int ((Int32.ofInt 1) + x4), .long r3], [])) rp_198 rfl rfl (by decide) (by decide) rp_138 rfl (Nat.le_of_ble_eq_true rfl) ⟨rfl, Nat.le_of_ble_eq_true rfl⟩ h (fun v s4 h => ?_)
    obtain ⟨rfl, h⟩ := h
    refine cf_R_w rp_198 (rf_bk am_t198 32 2) 55 [(0, .ref 25), (1, .int x1), (2, .int x2), (3, .int x3), (4, .int x4)] [] s4 (by repeat (first | exact trivial | refine ⟨rfl, ?_⟩)) (by decide +kernel) ?_
    exact cf_R_le (l := [(0, .ref 25), (1, .int x1), (2, .int x2), (3, .int x3), (4, .int (x4 + Int32.ofInt 1))]) rfl rfl (⟨rfl, rfl, rfl, rfl, rfl, trivial⟩) h
/-- LazyHouse$Machine.makePart (II)V, from 0 on -/
def wc_Machine_makePart (d : Nat) (x1 : Int32) (x2 : Int32) (s : cf_S) (Q : cf_S → Prop) : Prop := cf_I (d + 9) 132 [(0, .ref 26), (1, .int ((Int8.ofInt 6).toInt32)), (2, .int (Int32.ofInt 0)), (3, .int ((Int32.ofInt 1) + x2))] s (fun r1 s1 => cf_J (d + 9) 195 [(0, .ref 25)] s1 (fun r2 s2 => cf_V (d + 9) 138 [(0, .ref 26), (1, .int r1), (2, .int (Int32.ofInt 0)), (3, .long r2)] s2 (fun s3 => cf_R (d + 10) 198 (30, [(0, .ref 25), (1, .int x1), (2, .int x2), (3, .int r1), (4, .int (Int32.ofInt 0))], [], s3) (cf_qV Q))))
set_option maxRecDepth 20000 in
theorem wc_Machine_makePart_ok {d : Nat} {x1 : Int32} {x2 : Int32} {s : cf_S} {Q : cf_S → Prop} (h : wc_Machine_makePart d x1 x2 s Q) : cf_V (d + 10) 198 [(0, .ref 25), (1, .int x1), (2, .int x2)] s Q := by
  unfold wc_Machine_makePart at h
  unfold cf_V
  refine cf_R_w rp_198 (rf_bk am_t198 0 7) 0 [(0, .ref 25), (1, .int x1), (2, .int x2)] [] s (by repeat (first | exact trivial | refine ⟨rfl, ?_⟩)) (by decide +kernel) ?_
  refine cf_R_call (pc := 10) (q := ([.ref 26, .int ((Int8.ofInt 6).toInt32), .int (Int32.ofInt 0), .int ((Int32.ofInt 1) + x2)], [])) rp_198 rfl rfl (by decide) (by decide) rp_132 rfl (Nat.le_of_ble_eq_true rfl) ⟨rfl, Nat.le_of_ble_eq_true rfl⟩ h (fun v s1 h => ?_)
  obtain ⟨r1, rfl, h⟩ := h
  refine cf_R_w rp_198 (rf_bk am_t198 8 6) 13 [(0, .ref 25), (1, .int x1), (2, .int x2)] [.int r1] s1 (by repeat (first | exact trivial | refine ⟨rfl, ?_⟩)) (by decide +kernel) ?_
  refine cf_R_call (pc := 21) (q := ([.ref 25], [.int (Int32.ofInt 0), .int r1, .ref 26])) rp_198 rfl rfl (by decide) (by decide) rp_195 rfl (Nat.le_of_ble_eq_true rfl) ⟨rfl, Nat.le_of_ble_eq_true rfl⟩ h (fun v s2 h => ?_)
  obtain ⟨r2, rfl, h⟩ := h
  refine cf_R_call (pc := 24) (q := ([.ref 26, .int r1, .int (Int32.ofInt 0), .long r2], [])) rp_198 rfl rfl (by decide) (by decide) rp_138 rfl (Nat.le_of_ble_eq_true rfl) ⟨rfl, Nat.le_of_ble_eq_true rfl⟩ h (fun v s3 h => ?_)
  obtain ⟨rfl, h⟩ := h
  refine cf_R_w rp_198 (rf_bk am_t198 16 2) 27 [(3, .int r1), (0, .ref 25), (1, .int x1), (2, .int x2)] [] s3 (by repeat (first | exact trivial | refine ⟨rfl, ?_⟩)) (by decide +kernel) ?_
  exact cf_R_le (l := [(0, .ref 25), (1, .int x1), (2, .int x2), (3, .int r1), (4, .int (Int32.ofInt 0))]) rfl rfl (⟨rfl, rfl, rfl, rfl, rfl, trivial⟩) h
/-- LazyHouse$Machine.argument (II)J, from 0 on -/
def wc_Machine_argument (d : Nat) (x1 : Int32) (x2 : Int32) (s : cf_S) (Q : Int64 → cf_S → Prop) : Prop := ((x1 ≤ x2 → cf_J (d + 9) 264 [(0, .ref 31), (1, .int (x2 - x1))] s (fun r1 s1 => Q r1 s1)) ∧ (¬ (x1 ≤ x2) → cf_J (d + 9) 137 [(0, .ref 26), (1, .int ((s.2.1 25 10).toInt32)), (2, .int ((Int32.ofInt 1) + x2))] s (fun r2 s2 => Q r2 s2)))
set_option maxRecDepth 20000 in
theorem wc_Machine_argument_ok {d : Nat} {x1 : Int32} {x2 : Int32} {s : cf_S} {Q : Int64 → cf_S → Prop} (h : wc_Machine_argument d x1 x2 s Q) : cf_J (d + 10) 199 [(0, .ref 25), (1, .int x1), (2, .int x2)] s Q := by
  unfold wc_Machine_argument at h
  unfold cf_J
  refine cf_R_w rp_199 (rf_bk am_t199 0 3) 0 [(0, .ref 25), (1, .int x1), (2, .int x2)] [] s (by repeat (first | exact trivial | refine ⟨rfl, ?_⟩)) (by decide +kernel) ?_
  refine cf_R_if (b := am_cnd .ge x2 x1) (p := 25) (q := 5) (fun hb => ?_) (fun hb => ?_)
  · replace h := h.1 (of_decide_eq_true hb)
    refine cf_R_w rp_199 (rf_bk am_t199 13 5) 25 [(0, .ref 25), (1, .int x1), (2, .int x2)] [] s (by repeat (first | exact trivial | refine ⟨rfl, ?_⟩)) (by decide +kernel) ?_
    refine cf_R_call (pc := 32) (q := ([.ref 31, .int (x2 - x1)], [])) rp_199 rfl rfl (by decide) (by decide) rp_264 rfl (Nat.le_of_ble_eq_true rfl) ⟨rfl, Nat.le_of_ble_eq_true rfl⟩ h (fun v s1 h => ?_)
    obtain ⟨r1, rfl, h⟩ := h
    exact cf_R_ret (pc := 35) (v := some (.long r1)) rp_199 rfl rfl rfl ⟨_, rfl, h⟩
  · replace h := h.2 (of_decide_eq_false hb)
    refine cf_R_w rp_199 (rf_bk am_t199 3 4) 5 [(0, .ref 25), (1, .int x1), (2, .int x2)] [] s (by repeat (first | exact trivial | refine ⟨rfl, ?_⟩)) (by decide +kernel) ?_
    refine cf_R_prim (pc := 13) (q := ([.long (s.2.1 25 10)], [.ref 26])) rp_199 rfl rfl (by decide) (by decide) rp_277 rfl (Nat.le_of_ble_eq_true rfl) ⟨rfl, Nat.le_of_ble_eq_true rfl⟩ (cq_value) ?_
    refine cf_R_w rp_199 (rf_bk am_t199 8 3) 16 [(0, .ref 25), (1, .int x1), (2, .int x2)] [.int ((s.2.1 25 10).toInt32), .ref 26] s (by repeat (first | exact trivial | refine ⟨rfl, ?_⟩)) (by decide +kernel) ?_
    refine cf_R_call (pc := 19) (q := ([.ref 26, .int ((s.2.1 25 10).toInt32), .int ((Int32.ofInt 1) + x2)], [])) rp_199 rfl rfl (by decide) (by decide) rp_137 rfl (Nat.le_of_ble_eq_true rfl) ⟨rfl, Nat.le_of_ble_eq_true rfl⟩ h (fun v s2 h => ?_)
    obtain ⟨r2, rfl, h⟩ := h
    refine cf_R_w rp_199 (rf_bk am_t199 12 1) 22 [(0, .ref 25), (1, .int x1), (2, .int x2)] [.long r2] s2 (by repeat (first | exact trivial | refine ⟨rfl, ?_⟩)) (by decide +kernel) ?_
    exact cf_R_ret (pc := 35) (v := some (.long r2)) rp_199 rfl rfl rfl ⟨_, rfl, h⟩
/-- LazyHouse$Machine.bindParameters (JII)V, from 154 on -/
def wc_Machine_bindParameters_154 (d : Nat) (y0 : Int32) (s : cf_S) (Q : cf_S → Prop) : Prop := cf_V (d + 9) 161 [(0, .ref 25), (1, .int y0)] s (fun s1 => Q s1)
set_option maxRecDepth 20000 in
theorem wc_Machine_bindParameters_154_ok {d : Nat} {y0 : Int32} {s : cf_S} {Q : cf_S → Prop} (h : wc_Machine_bindParameters_154 d y0 s Q) : cf_R (d + 10) 200 (154, [], [.int y0, .ref 25], s) (cf_qV Q) := by
  unfold wc_Machine_bindParameters_154 at h
  refine cf_R_call (pc := 154) (q := ([.ref 25, .int y0], [])) rp_200 rfl rfl (by decide) (by decide) rp_161 rfl (Nat.le_of_ble_eq_true rfl) ⟨rfl, Nat.le_of_ble_eq_true rfl⟩ h (fun v s1 h => ?_)
  obtain ⟨rfl, h⟩ := h
  exact cf_R_ret (pc := 157) rp_200 rfl rfl rfl ⟨rfl, h⟩
/-- LazyHouse$Machine.bindParameters (JII)V, from 90 on -/
def wc_Machine_bindParameters_90 (d : Nat) (x3 : Int32) (x4 : Int32) (x5 : Int32) (x6 : Int32) (x7 : Int32) (x8 : Int32) (x9 : Int32) (s : cf_S) (Q : cf_S → Prop) : Prop := ((x3 ≤ x9 → ((x6 = 0 → wc_Machine_bindParameters_154 d (tb_get s 18 x7 (Int32.ofInt 2)) s Q) ∧ (¬ (x6 = 0) → wc_Machine_bindParameters_154 d (tb_get s 10 x5 (Int32.ofInt 2)) s Q))) ∧ (¬ (x3 ≤ x9) → cf_J (d + 9) 199 [(0, .ref 25), (1, .int x4), (2, .int x9)] s (fun r1 s1 => cf_R (d + 10) 200 (90, [(0, .ref 25), (3, .int x3), (4, .int x4), (5, .int x5), (6, .int x6), (7, .int x7), (8, .int x8), (9, .int (x9 + Int32.ofInt 1))], [], (wd_s s1 36 (x8 + x9) r1)) (cf_qV Q))))
set_option maxRecDepth 20000 in
theorem wc_Machine_bindParameters_90_ok {d : Nat} {x3 : Int32} {x4 : Int32} {x5 : Int32} {x6 : Int32} {x7 : Int32} {x8 : Int32} {x9 : Int32} {s : cf_S} {Q : cf_S → Prop} (h : wc_Machine_bindParameters_90 d x3 x4 x5 x6 x7 x8 x9 s Q) : cf_R (d + 10) 200 (90, [(0, .ref 25), (3, .int x3), (4, .int x4), (5, .int x5), (6, .int x6), (7, .int x7), (8, .int x8), (9, .int x9)], [], s) (cf_qV Q) := by
  unfold wc_Machine_bindParameters_90 at h
  refine cf_R_w rp_200 (rf_bk am_t200 43 3) 90 [(0, .ref 25), (3, .int x3), (4, .int x4), (5, .int x5), (6, .int x6), (7, .int x7), (8, .int x8), (9, .int x9)] [] s (by repeat (first | exact trivial | refine ⟨rfl, ?_⟩)) (by decide +kernel) ?_
  refine cf_R_if (b := am_cnd .ge x9 x3) (p := 122) (q := 96) (fun hb => ?_) (fun hb => ?_)
  · replace h := h.1 (of_decide_eq_true hb)
    refine cf_R_w rp_200 (rf_bk am_t200 58 3) 122 [(0, .ref 25), (3, .int x3), (4, .int x4), (5, .int x5), (6, .int x6), (7, .int x7), (8, .int x8), (9, .int x9)] [] s (by repeat (first | exact trivial | refine ⟨rfl, ?_⟩)) (by decide +kernel) ?_
    refine cf_R_if (b := am_cnd .eq x6 0) (p := 144) (q := 128) (fun hb => ?_) (fun hb => ?_)
    · replace h := h.1 (of_decide_eq_true hb)
      refine cf_R_w rp_200 (rf_bk am_t200 68 4) 144 [(0, .ref 25), (3, .int x3), (4, .int x4), (5, .int x5), (6, .int x6), (7, .int x7), (8, .int x8), (9, .int x9)] [.ref 25] s (by repeat (first | exact trivial | refine ⟨rfl, ?_⟩)) (by decide +kernel) ?_
      refine cf_R_prim (pc := 151) (q := ([.ref 18, .int x7, .int (Int32.ofInt 2)], [.ref 25])) rp_200 rfl rfl (by decide) (by decide) rp_273 rfl (Nat.le_of_ble_eq_true rfl) ⟨rfl, Nat.le_of_ble_eq_true rfl⟩ (cq_get rfl) ?_
      exact cf_R_le (l := []) rfl rfl trivial (wc_Machine_bindParameters_154_ok h)
    · replace h := h.2 (of_decide_eq_false hb)
      refine cf_R_w rp_200 (rf_bk am_t200 61 5) 128 [(0, .ref 25), (3, .int x3), (4, .int x4), (5, .int x5), (6, .int x6), (7, .int x7), (8, .int x8), (9, .int x9)] [.ref 25] s (by repeat (first | exact trivial | refine ⟨rfl, ?_⟩)) (by decide +kernel) ?_
      refine cf_R_prim (pc := 138) (q := ([.ref 10, .int x5, .int (Int32.ofInt 2)], [.ref 25])) rp_200 rfl rfl (by decide) (by decide) rp_273 rfl (Nat.le_of_ble_eq_true rfl) ⟨rfl, Nat.le_of_ble_eq_true rfl⟩ (cq_get rfl) ?_
      refine cf_R_w rp_200 (rf_bk am_t200 67 1) 141 [(0, .ref 25), (3, .int x3), (4, .int x4), (5, .int x5), (6, .int x6), (7, .int x7), (8, .int x8), (9, .int x9)] [.int (tb_get s 10 x5 (Int32.ofInt 2)), .ref 25] s (by repeat (first | exact trivial | refine ⟨rfl, ?_⟩)) (by decide +kernel) ?_
      exact cf_R_le (l := []) rfl rfl trivial (wc_Machine_bindParameters_154_ok h)
  · replace h := h.2 (of_decide_eq_false hb)
    refine cf_R_w rp_200 (rf_bk am_t200 46 8) 96 [(0, .ref 25), (3, .int x3), (4, .int x4), (5, .int x5), (6, .int x6), (7, .int x7), (8, .int x8), (9, .int x9)] [] s (by repeat (first | exact trivial | refine ⟨rfl, ?_⟩)) (by decide +kernel) ?_
    refine cf_R_call (pc := 110) (q := ([.ref 25, .int x4, .int x9], [.int (x8 + x9), .ref 36])) rp_200 rfl rfl (by decide) (by decide) rp_199 rfl (Nat.le_of_ble_eq_true rfl) ⟨rfl, Nat.le_of_ble_eq_true rfl⟩ h (fun v s1 h => ?_)
    obtain ⟨r1, rfl, h⟩ := h
    refine cf_R_prim (pc := 113) (q := ([.ref 36, .int (x8 + x9), .long r1], [])) rp_200 rfl rfl (by decide) (by decide) rp_281 rfl (Nat.le_of_ble_eq_true rfl) ⟨rfl, Nat.le_of_ble_eq_true rfl⟩ (cq_wset rfl) ?_
    refine cf_R_w rp_200 (rf_bk am_t200 56 2) 116 [(0, .ref 25), (3, .int x3), (4, .int x4), (5, .int x5), (6, .int x6), (7, .int x7), (8, .int x8), (9, .int x9)] [] (wd_s s1 36 (x8 + x9) r1) (by repeat (first | exact trivial | refine ⟨rfl, ?_⟩)) (by decide +kernel) ?_
    exact cf_R_le (l := [(0, .ref 25), (3, .int x3), (4, .int x4), (5, .int x5), (6, .int x6), (7, .int x7), (8, .int x8), (9, .int (x9 + Int32.ofInt 1))]) rfl rfl (⟨rfl, rfl, rfl, rfl, rfl, rfl, rfl, rfl, trivial⟩) h
/-- LazyHouse$Machine.bindParameters (JII)V, from 87 on -/
def wc_Machine_bindParameters_87 (d : Nat) (x3 : Int32) (x4 : Int32) (x5 : Int32) (x6 : Int32) (x7 : Int32) (x8 : Int32) (s : cf_S) (Q : cf_S → Prop) : Prop := cf_R (d + 10) 200 (90, [(0, .ref 25), (3, .int x3), (4, .int x4), (5, .int x5), (6, .int x6), (7, .int x7), (8, .int x8), (9, .int (Int32.ofInt 0))], [], s) (cf_qV Q)
set_option maxRecDepth 20000 in
theorem wc_Machine_bindParameters_87_ok {d : Nat} {x3 : Int32} {x4 : Int32} {x5 : Int32} {x6 : Int32} {x7 : Int32} {x8 : Int32} {s : cf_S} {Q : cf_S → Prop} (h : wc_Machine_bindParameters_87 d x3 x4 x5 x6 x7 x8 s Q) : cf_R (d + 10) 200 (87, [(0, .ref 25), (3, .int x3), (4, .int x4), (5, .int x5), (6, .int x6), (7, .int x7), (8, .int x8)], [], s) (cf_qV Q) := by
  unfold wc_Machine_bindParameters_87 at h
  refine cf_R_w rp_200 (rf_bk am_t200 41 2) 87 [(0, .ref 25), (3, .int x3), (4, .int x4), (5, .int x5), (6, .int x6), (7, .int x7), (8, .int x8)] [] s (by repeat (first | exact trivial | refine ⟨rfl, ?_⟩)) (by decide +kernel) ?_
  exact cf_R_le (l := [(0, .ref 25), (3, .int x3), (4, .int x4), (5, .int x5), (6, .int x6), (7, .int x7), (8, .int x8), (9, .int (Int32.ofInt 0))]) rfl rfl (⟨rfl, rfl, rfl, rfl, rfl, rfl, rfl, rfl, trivial⟩) h
/-- LazyHouse$Machine.bindParameters (JII)V, from 72 on -/
def wc_Machine_bindParameters_72 (d : Nat) (x3 : Int32) (x4 : Int32) (x5 : Int32) (x6 : Int32) (x7 : Int32) (y0 : Int32) (s : cf_S) (Q : cf_S → Prop) : Prop := ((¬ x6 = 0 → wc_Machine_bindParameters_87 d x3 x4 x5 x6 x7 y0 s Q) ∧ (x6 = 0 → cf_V (d + 9) 180 [(0, .ref 25), (1, .int x5), (2, .int x7)] s (fun s1 => wc_Machine_bindParameters_87 d x3 x4 x5 x6 x7 y0 s1 Q)))
set_option maxRecDepth 20000 in
theorem wc_Machine_bindParameters_72_ok {d : Nat} {x3 : Int32} {x4 : Int32} {x5 : Int32} {x6 : Int32} {x7 : Int32} {y0 : Int32} {s : cf_S} {Q : cf_S → Prop} (h : wc_Machine_bindParameters_72 d x3 x4 x5 x6 x7 y0 s Q) : cf_R (d + 10) 200 (72, [(0, .ref 25), (3, .int x3), (4, .int x4), (5, .int x5), (6, .int x6), (7, .int x7)], [.int y0], s) (cf_qV Q) := by
  unfold wc_Machine_bindParameters_72 at h
  refine cf_R_w rp_200 (rf_bk am_t200 34 3) 72 [(0, .ref 25), (3, .int x3), (4, .int x4), (5, .int x5), (6, .int x6), (7, .int x7)] [.int y0] s (by repeat (first | exact trivial | refine ⟨rfl, ?_⟩)) (by decide +kernel) ?_
  refine cf_R_if (b := am_cnd .ne x6 0) (p := 87) (q := 79) (fun hb => ?_) (fun hb => ?_)
  · replace h := h.1 (of_decide_eq_true hb)
    exact cf_R_le (l := [(0, .ref 25), (3, .int x3), (4, .int x4), (5, .int x5), (6, .int x6), (7, .int x7), (8, .int y0)]) rfl rfl (⟨rfl, rfl, rfl, rfl, rfl, rfl, rfl, trivial⟩) (wc_Machine_bindParameters_87_ok h)
  · replace h := h.2 (Decidable.not_not.mp (of_decide_eq_false hb))
    refine cf_R_w rp_200 (rf_bk am_t200 37 3) 79 [(8, .int y0), (0, .ref 25), (3, .int x3), (4, .int x4), (5, .int x5), (6, .int x6), (7, .int x7)] [] s (by repeat (first | exact trivial | refine ⟨rfl, ?_⟩)) (by decide +kernel) ?_
    refine cf_R_call (pc := 84) (q := ([.ref 25, .int x5, .int x7], [])) rp_200 rfl rfl (by decide) (by decide) rp_180 rfl (Nat.le_of_ble_eq_true rfl) ⟨rfl, Nat.le_of_ble_eq_true rfl⟩ h (fun v s1 h => ?_)
    obtain ⟨rfl, h⟩ := h
    exact cf_R_le (l := [(0, .ref 25), (3, .int x3), (4, .int x4), (5, .int x5), (6, .int x6), (7, .int x7), (8, .int y0)]) rfl rfl (⟨rfl, rfl, rfl, rfl, rfl, rfl, rfl, trivial⟩) (wc_Machine_bindParameters_87_ok h)
/-- LazyHouse$Machine.bindParameters (JII)V, from 39 on -/
def wc_Machine_bindParameters_39 (d : Nat) (x3 : Int32) (x4 : Int32) (x5 : Int32) (x6 : Int32) (y0 : Int32) (s : cf_S) (Q : cf_S → Prop) : Prop := ((x6 = 0 → wc_Machine_bindParameters_72 d x3 x4 x5 x6 y0 (tb_get s 18 y0 (Int32.ofInt 5)) s Q) ∧ (¬ (x6 = 0) → wc_Machine_bindParameters_72 d x3 x4 x5 x6 y0 (tb_get s 10 x5 (Int32.ofInt 0)) s Q))
set_option maxRecDepth 20000 in
theorem wc_Machine_bindParameters_39_ok {d : Nat} {x3 : Int32} {x4 : Int32} {x5 : Int32} {x6 : Int32} {y0 : Int32} {s : cf_S} {Q : cf_S → Prop} (h : wc_Machine_bindParameters_39 d x3 x4 x5 x6 y0 s Q) : cf_R (d + 10) 200 (39, [(0, .ref 25), (3, .int x3), (4, .int x4), (5, .int x5), (6, .int x6)], [.int y0], s) (cf_qV Q) := by
  unfold wc_Machine_bindParameters_39 at h
  refine cf_R_w rp_200 (rf_bk am_t200 19 3) 39 [(0, .ref 25), (3, .int x3), (4, .int x4), (5, .int x5), (6, .int x6)] [.int y0] s (by repeat (first | exact trivial | refine ⟨rfl, ?_⟩)) (by decide +kernel) ?_
  refine cf_R_if (b := am_cnd .eq x6 0) (p := 62) (q := 46) (fun hb => ?_) (fun hb => ?_)
  · replace h := h.1 (of_decide_eq_true hb)
    refine cf_R_w rp_200 (rf_bk am_t200 29 4) 62 [(7, .int y0), (0, .ref 25), (3, .int x3), (4, .int x4), (5, .int x5), (6, .int x6)] [] s (by repeat (first | exact trivial | refine ⟨rfl, ?_⟩)) (by decide +kernel) ?_
    refine cf_R_prim (pc := 69) (q := ([.ref 18, .int y0, .int (Int32.ofInt 5)], [])) rp_200 rfl rfl (by decide) (by decide) rp_273 rfl (Nat.le_of_ble_eq_true rfl) ⟨rfl, Nat.le_of_ble_eq_true rfl⟩ (cq_get rfl) ?_
    exact cf_R_le (l := [(0, .ref 25), (3, .int x3), (4, .int x4), (5, .int x5), (6, .int x6), (7, .int y0)]) rfl rfl (⟨rfl, rfl, rfl, rfl, rfl, rfl, trivial⟩) (wc_Machine_bindParameters_72_ok h)
  · replace h := h.2 (of_decide_eq_false hb)
    refine cf_R_w rp_200 (rf_bk am_t200 22 5) 46 [(7, .int y0), (0, .ref 25), (3, .int x3), (4, .int x4), (5, .int x5), (6, .int x6)] [] s (by repeat (first | exact trivial | refine ⟨rfl, ?_⟩)) (by decide +kernel) ?_
    refine cf_R_prim (pc := 56) (q := ([.ref 10, .int x5, .int (Int32.ofInt 0)], [])) rp_200 rfl rfl (by decide) (by decide) rp_273 rfl (Nat.le_of_ble_eq_true rfl) ⟨rfl, Nat.le_of_ble_eq_true rfl⟩ (cq_get rfl) ?_
    refine cf_R_w rp_200 (rf_bk am_t200 28 1) 59 [(7, .int y0), (0, .ref 25), (3, .int x3), (4, .int x4), (5, .int x5), (6, .int x6)] [.int (tb_get s 10 x5 (Int32.ofInt 0))] s (by repeat (first | exact trivial | refine ⟨rfl, ?_⟩)) (by decide +kernel) ?_
    exact cf_R_le (l := [(0, .ref 25), (3, .int x3), (4, .int x4), (5, .int x5), (6, .int x6), (7, .int y0)]) rfl rfl (⟨rfl, rfl, rfl, rfl, rfl, rfl, trivial⟩) (wc_Machine_bindParameters_72_ok h)
/-- LazyHouse$Machine.bindParameters (JII)V, from 19 on -/
def wc_Machine_bindParameters_19 (d : Nat) (x3 : Int32) (x4 : Int32) (x5 : Int32) (y0 : Int32) (s : cf_S) (Q : cf_S → Prop) : Prop := ((y0 = 0 → cf_I (d + 9) 134 [(0, .ref 26), (1, .int x5)] s (fun r1 s1 => wc_Machine_bindParameters_39 d x3 x4 x5 y0 r1 s1 Q)) ∧ (¬ (y0 = 0) → wc_Machine_bindParameters_39 d x3 x4 x5 y0 (Int32.ofInt 0) s Q))
set_option maxRecDepth 20000 in
theorem wc_Machine_bindParameters_19_ok {d : Nat} {x3 : Int32} {x4 : Int32} {x5 : Int32} {y0 : Int32} {s : cf_S} {Q : cf_S → Prop} (h : wc_Machine_bindParameters_19 d x3 x4 x5 y0 s Q) : cf_R (d + 10) 200 (19, [(0, .ref 25), (3, .int x3), (4, .int x4), (5, .int x5)], [.int y0], s) (cf_qV Q) := by
  unfold wc_Machine_bindParameters_19 at h
  refine cf_R_w rp_200 (rf_bk am_t200 10 3) 19 [(0, .ref 25), (3, .int x3), (4, .int x4), (5, .int x5)] [.int y0] s (by repeat (first | exact trivial | refine ⟨rfl, ?_⟩)) (by decide +kernel) ?_
  refine cf_R_if (b := am_cnd .eq y0 0) (p := 30) (q := 26) (fun hb => ?_) (fun hb => ?_)
  · replace h := h.1 (of_decide_eq_true hb)
    refine cf_R_w rp_200 (rf_bk am_t200 15 3) 30 [(6, .int y0), (0, .ref 25), (3, .int x3), (4, .int x4), (5, .int x5)] [] s (by repeat (first | exact trivial | refine ⟨rfl, ?_⟩)) (by decide +kernel) ?_
    refine cf_R_call (pc := 36) (q := ([.ref 26, .int x5], [])) rp_200 rfl rfl (by decide) (by decide) rp_134 rfl (Nat.le_of_ble_eq_true rfl) ⟨rfl, Nat.le_of_ble_eq_true rfl⟩ h (fun v s1 h => ?_)
    obtain ⟨r1, rfl, h⟩ := h
    exact cf_R_le (l := [(0, .ref 25), (3, .int x3), (4, .int x4), (5, .int x5), (6, .int y0)]) rfl rfl (⟨rfl, rfl, rfl, rfl, rfl, trivial⟩) (wc_Machine_bindParameters_39_ok h)
  · replace h := h.2 (of_decide_eq_false hb)
    refine cf_R_w rp_200 (rf_bk am_t200 13 2) 26 [(6, .int y0), (0, .ref 25), (3, .int x3), (4, .int x4), (5, .int x5)] [] s (by repeat (first | exact trivial | refine ⟨rfl, ?_⟩)) (by decide +kernel) ?_
    exact cf_R_le (l := [(0, .ref 25), (3, .int x3), (4, .int x4), (5, .int x5), (6, .int y0)]) rfl rfl (⟨rfl, rfl, rfl, rfl, rfl, trivial⟩) (wc_Machine_bindParameters_39_ok h)
/-- LazyHouse$Machine.bindParameters (JII)V, from 0 on -/
def wc_Machine_bindParameters (d : Nat) (x1 : Int64) (x3 : Int32) (x4 : Int32) (s : cf_S) (Q : cf_S → Prop) : Prop := ((¬ (rf_isOf x1) = (Int32.ofInt 2) → wc_Machine_bindParameters_19 d x3 x4 (x1.toInt32) (Int32.ofInt 0) s Q) ∧ ((rf_isOf x1) = (Int32.ofInt 2) → wc_Machine_bindParameters_19 d x3 x4 (x1.toInt32) (Int32.ofInt 1) s Q))
set_option maxRecDepth 20000 in
theorem wc_Machine_bindParameters_ok {d : Nat} {x1 : Int64} {x3 : Int32} {x4 : Int32} {s : cf_S} {Q : cf_S → Prop} (h : wc_Machine_bindParameters d x1 x3 x4 s Q) : cf_V (d + 10) 200 [(0, .ref 25), (1, .long x1), (3, .int x3), (4, .int x4)] s Q := by
  unfold wc_Machine_bindParameters at h
  unfold cf_V
  refine cf_R_w rp_200 (rf_bk am_t200 0 1) 0 [(0, .ref 25), (1, .long x1), (3, .int x3), (4, .int x4)] [] s (by repeat (first | exact trivial | refine ⟨rfl, ?_⟩)) (by decide +kernel) ?_
  refine cf_R_prim (pc := 1) (q := ([.long x1], [])) rp_200 rfl rfl (by decide) (by decide) rp_277 rfl (Nat.le_of_ble_eq_true rfl) ⟨rfl, Nat.le_of_ble_eq_true rfl⟩ (cq_value) ?_
  refine cf_R_w rp_200 (rf_bk am_t200 2 2) 4 [(0, .ref 25), (1, .long x1), (3, .int x3), (4, .int x4)] [.int (x1.toInt32)] s (by repeat (first | exact trivial | refine ⟨rfl, ?_⟩)) (by decide +kernel) ?_
  refine cf_R_prim (pc := 7) (q := ([.long x1], [])) rp_200 rfl rfl (by decide) (by decide) rp_276 rfl (Nat.le_of_ble_eq_true rfl) ⟨rfl, Nat.le_of_ble_eq_true rfl⟩ (cq_tag) ?_
  refine cf_R_w rp_200 (rf_bk am_t200 5 2) 10 [(5, .int (x1.toInt32)), (0, .ref 25), (1, .long x1), (3, .int x3), (4, .int x4)] [.int (rf_isOf x1)] s (by repeat (first | exact trivial | refine ⟨rfl, ?_⟩)) (by decide +kernel) ?_
  refine cf_R_if (b := am_cnd .ne (rf_isOf x1) (Int32.ofInt 2)) (p := 18) (q := 14) (fun hb => ?_) (fun hb => ?_)
  · replace h := h.1 (of_decide_eq_true hb)
    refine cf_R_w rp_200 (rf_bk am_t200 9 1) 18 [(5, .int (x1.toInt32)), (0, .ref 25), (1, .long x1), (3, .int x3), (4, .int x4)] [] s (by repeat (first | exact trivial | refine ⟨rfl, ?_⟩)) (by decide +kernel) ?_
    exact cf_R_le (l := [(0, .ref 25), (3, .int x3), (4, .int x4), (5, .int (x1.toInt32))]) rfl rfl (⟨rfl, rfl, rfl, rfl, trivial⟩) (wc_Machine_bindParameters_19_ok h)
  · replace h := h.2 (Decidable.not_not.mp (of_decide_eq_false hb))
    refine cf_R_w rp_200 (rf_bk am_t200 7 2) 14 [(5, .int (x1.toInt32)), (0, .ref 25), (1, .long x1), (3, .int x3), (4, .int x4)] [] s (by repeat (first | exact trivial | refine ⟨rfl, ?_⟩)) (by decide +kernel) ?_
    exact cf_R_le (l := [(0, .ref 25), (3, .int x3), (4, .int x4), (5, .int (x1.toInt32))]) rfl rfl (⟨rfl, rfl, rfl, rfl, trivial⟩) (wc_Machine_bindParameters_19_ok h)
/-- LazyHouse$Machine.giveToShow ()V, from 161 on -/
def wc_Machine_giveToShow_161 (d : Nat) (s : cf_S) (Q : cf_S → Prop) : Prop := cf_V (d + 9) 203 [(0, .ref 25)] s (fun s1 => ((s1.1 34 2 = 0 ∨ s1.1 34 2 = 1) ∧ (((s1.1 34 2) = 0 → cf_I (d + 9) 258 [(0, .ref 31)] s1 (fun r2 s2 => ((r2 ≤ ((Int16.ofInt 3000).toInt32) → Q s2) ∧ (¬ (r2 ≤ ((Int16.ofInt 3000).toInt32)) → cf_V (d + 9) 164 [(0, .ref 25), (1, .int ((Int8.ofInt 7).toInt32))] s2 (fun s3 => Q s3))))) ∧ (¬ ((s1.1 34 2) = 0) → cf_V (d + 9) 164 [(0, .ref 25), (1, .int ((Int8.ofInt 8).toInt32))] s1 (fun s4 => Q s4)))))
set_option maxRecDepth 20000 in
theorem wc_Machine_giveToShow_161_ok {d : Nat} {s : cf_S} {Q : cf_S → Prop} (h : wc_Machine_giveToShow_161 d s Q) : cf_R (d + 10) 201 (161, [(0, .ref 25)], [], s) (cf_qV Q) := by
  unfold wc_Machine_giveToShow_161 at h
  refine cf_R_w rp_201 (rf_bk am_t201 74 1) 161 [(0, .ref 25)] [] s (by repeat (first | exact trivial | refine ⟨rfl, ?_⟩)) (by decide +kernel) ?_
  refine cf_R_call (pc := 162) (q := ([.ref 25], [])) rp_201 rfl rfl (by decide) (by decide) rp_203 rfl (Nat.le_of_ble_eq_true rfl) ⟨rfl, Nat.le_of_ble_eq_true rfl⟩ h (fun v s1 h => ?_)
  obtain ⟨rfl, h⟩ := h
  refine cf_R_w rp_201 (rf_bk am_t201 76 2) 165 [(0, .ref 25)] [] s1 (by repeat (first | exact trivial | refine ⟨rfl, ?_⟩)) (by decide +kernel) ?_
  have hr := h.1
  replace h := h.2
  refine cf_R_prim (pc := 169) (q := ([.ref 34], [])) rp_201 rfl rfl (by decide) (by decide) rp_119 rfl (Nat.le_of_ble_eq_true rfl) ⟨rfl, Nat.le_of_ble_eq_true rfl⟩ (cq_isOver rfl hr) ?_
  refine cf_R_w rp_201 (rf_bk am_t201 79 1) 172 [(0, .ref 25)] [.int (s1.1 34 2)] s1 (by repeat (first | exact trivial | refine ⟨rfl, ?_⟩)) (by decide +kernel) ?_
  refine cf_R_if (b := am_cnd .eq (s1.1 34 2) 0) (p := 184) (q := 175) (fun hb => ?_) (fun hb => ?_)
  · replace h := h.1 (of_decide_eq_true hb)
    refine cf_R_w rp_201 (rf_bk am_t201 84 2) 184 [(0, .ref 25)] [] s1 (by repeat (first | exact trivial | refine ⟨rfl, ?_⟩)) (by decide +kernel) ?_
    refine cf_R_call (pc := 188) (q := ([.ref 31], [])) rp_201 rfl rfl (by decide) (by decide) rp_258 rfl (Nat.le_of_ble_eq_true rfl) ⟨rfl, Nat.le_of_ble_eq_true rfl⟩ h (fun v s2 h => ?_)
    obtain ⟨r2, rfl, h⟩ := h
    refine cf_R_w rp_201 (rf_bk am_t201 87 2) 191 [(0, .ref 25)] [.int r2] s2 (by repeat (first | exact trivial | refine ⟨rfl, ?_⟩)) (by decide +kernel) ?_
    refine cf_R_if (b := am_cnd .le r2 ((Int16.ofInt 3000).toInt32)) (p := 203) (q := 197) (fun hb => ?_) (fun hb => ?_)
    · replace h := h.1 (of_decide_eq_true hb)
      exact cf_R_ret (pc := 203) rp_201 rfl rfl rfl ⟨rfl, h⟩
    · replace h := h.2 (of_decide_eq_false hb)
      refine cf_R_w rp_201 (rf_bk am_t201 89 2) 197 [(0, .ref 25)] [] s2 (by repeat (first | exact trivial | refine ⟨rfl, ?_⟩)) (by decide +kernel) ?_
      refine cf_R_call (pc := 200) (q := ([.ref 25, .int ((Int8.ofInt 7).toInt32)], [])) rp_201 rfl rfl (by decide) (by decide) rp_164 rfl (Nat.le_of_ble_eq_true rfl) ⟨rfl, Nat.le_of_ble_eq_true rfl⟩ h (fun v s3 h => ?_)
      obtain ⟨rfl, h⟩ := h
      exact cf_R_ret (pc := 203) rp_201 rfl rfl rfl ⟨rfl, h⟩
  · replace h := h.2 (of_decide_eq_false hb)
    refine cf_R_w rp_201 (rf_bk am_t201 80 2) 175 [(0, .ref 25)] [] s1 (by repeat (first | exact trivial | refine ⟨rfl, ?_⟩)) (by decide +kernel) ?_
    refine cf_R_call (pc := 178) (q := ([.ref 25, .int ((Int8.ofInt 8).toInt32)], [])) rp_201 rfl rfl (by decide) (by decide) rp_164 rfl (Nat.le_of_ble_eq_true rfl) ⟨rfl, Nat.le_of_ble_eq_true rfl⟩ h (fun v s4 h => ?_)
    obtain ⟨rfl, h⟩ := h
    refine cf_R_w rp_201 (rf_bk am_t201 83 1) 181 [(0, .ref 25)] [] s4 (by repeat (first | exact trivial | refine ⟨rfl, ?_⟩)) (by decide +kernel) ?_
    exact cf_R_ret (pc := 203) rp_201 rfl rfl rfl ⟨rfl, h⟩
/-- LazyHouse$Machine.giveToShow ()V, from 43 on -/
def wc_Machine_giveToShow_43 (d : Nat) (x1 : Int32) (s : cf_S) (Q : cf_S → Prop) : Prop := cf_I (d + 9) 134 [(0, .ref 26), (1, .int ((s.2.1 25 10).toInt32))] s (fun r1 s1 => cf_V (d + 9) 202 [(0, .ref 25), (1, .int r1)] s1 (fun s2 => cf_V (d + 9) 260 [(0, .ref 31), (1, .int ((Int8.ofInt 7).toInt32)), (2, .int x1), (3, .int (Int32.ofInt 2))] s2 (fun s3 => cf_V (d + 9) 265 [(0, .ref 31), (1, .int (Int32.ofInt 0)), (2, .long (s3.2.1 25 10))] s3 (fun s4 => cf_V (d + 9) 265 [(0, .ref 31), (1, .int (Int32.ofInt 1)), (2, .long (rf_word (Int32.ofInt 0) (Int32.ofInt 0)))] s4 (fun s5 => wc_Machine_giveToShow_161 d s5 Q)))))
set_option maxRecDepth 20000 in
theorem wc_Machine_giveToShow_43_ok {d : Nat} {x1 : Int32} {s : cf_S} {Q : cf_S → Prop} (h : wc_Machine_giveToShow_43 d x1 s Q) : cf_R (d + 10) 201 (43, [(0, .ref 25), (1, .int x1)], [], s) (cf_qV Q) := by
  unfold wc_Machine_giveToShow_43 at h
  refine cf_R_w rp_201 (rf_bk am_t201 20 5) 43 [(0, .ref 25), (1, .int x1)] [] s (by repeat (first | exact trivial | refine ⟨rfl, ?_⟩)) (by decide +kernel) ?_
  refine cf_R_prim (pc := 52) (q := ([.long (s.2.1 25 10)], [.ref 26, .ref 25])) rp_201 rfl rfl (by decide) (by decide) rp_277 rfl (Nat.le_of_ble_eq_true rfl) ⟨rfl, Nat.le_of_ble_eq_true rfl⟩ (cq_value) ?_
  refine cf_R_call (pc := 55) (q := ([.ref 26, .int ((s.2.1 25 10).toInt32)], [.ref 25])) rp_201 rfl rfl (by decide) (by decide) rp_134 rfl (Nat.le_of_ble_eq_true rfl) ⟨rfl, Nat.le_of_ble_eq_true rfl⟩ h (fun v s1 h => ?_)
  obtain ⟨r1, rfl, h⟩ := h
  refine cf_R_call (pc := 58) (q := ([.ref 25, .int r1], [])) rp_201 rfl rfl (by decide) (by decide) rp_202 rfl (Nat.le_of_ble_eq_true rfl) ⟨rfl, Nat.le_of_ble_eq_true rfl⟩ h (fun v s2 h => ?_)
  obtain ⟨rfl, h⟩ := h
  refine cf_R_w rp_201 (rf_bk am_t201 28 5) 61 [(0, .ref 25), (1, .int x1)] [] s2 (by repeat (first | exact trivial | refine ⟨rfl, ?_⟩)) (by decide +kernel) ?_
  refine cf_R_call (pc := 69) (q := ([.ref 31, .int ((Int8.ofInt 7).toInt32), .int x1, .int (Int32.ofInt 2)], [])) rp_201 rfl rfl (by decide) (by decide) rp_260 rfl (Nat.le_of_ble_eq_true rfl) ⟨rfl, Nat.le_of_ble_eq_true rfl⟩ h (fun v s3 h => ?_)
  obtain ⟨rfl, h⟩ := h
  refine cf_R_w rp_201 (rf_bk am_t201 34 5) 72 [(0, .ref 25), (1, .int x1)] [] s3 (by repeat (first | exact trivial | refine ⟨rfl, ?_⟩)) (by decide +kernel) ?_
  refine cf_R_call (pc := 81) (q := ([.ref 31, .int (Int32.ofInt 0), .long (s3.2.1 25 10)], [])) rp_201 rfl rfl (by decide) (by decide) rp_265 rfl (Nat.le_of_ble_eq_true rfl) ⟨rfl, Nat.le_of_ble_eq_true rfl⟩ h (fun v s4 h => ?_)
  obtain ⟨rfl, h⟩ := h
  refine cf_R_w rp_201 (rf_bk am_t201 40 5) 84 [(0, .ref 25), (1, .int x1)] [] s4 (by repeat (first | exact trivial | refine ⟨rfl, ?_⟩)) (by decide +kernel) ?_
  refine cf_R_prim (pc := 91) (q := ([.int (Int32.ofInt 0), .int (Int32.ofInt 0)], [.int (Int32.ofInt 1), .ref 31])) rp_201 rfl rfl (by decide) (by decide) rp_275 rfl (Nat.le_of_ble_eq_true rfl) ⟨rfl, Nat.le_of_ble_eq_true rfl⟩ (cq_of) ?_
  refine cf_R_call (pc := 94) (q := ([.ref 31, .int (Int32.ofInt 1), .long (rf_word (Int32.ofInt 0) (Int32.ofInt 0))], [])) rp_201 rfl rfl (by decide) (by decide) rp_265 rfl (Nat.le_of_ble_eq_true rfl) ⟨rfl, Nat.le_of_ble_eq_true rfl⟩ h (fun v s5 h => ?_)
  obtain ⟨rfl, h⟩ := h
  refine cf_R_w rp_201 (rf_bk am_t201 47 1) 97 [(0, .ref 25), (1, .int x1)] [] s5 (by repeat (first | exact trivial | refine ⟨rfl, ?_⟩)) (by decide +kernel) ?_
  exact cf_R_le (l := [(0, .ref 25)]) rfl rfl (⟨rfl, trivial⟩) (wc_Machine_giveToShow_161_ok h)
/-- LazyHouse$Machine.giveToShow ()V, from 0 on -/
def wc_Machine_giveToShow (d : Nat) (s : cf_S) (Q : cf_S → Prop) : Prop := cf_I (d + 9) 262 [(0, .ref 31)] s (fun r1 s1 => cf_V (d + 9) 266 [(0, .ref 31)] s1 (fun s2 => cf_I (d + 9) 139 [(0, .ref 26), (1, .long (s2.2.1 25 10))] s2 (fun r3 s3 => ((¬ r3 = (Int32.ofInt 5) → ((¬ (rf_isOf (s3.2.1 25 10)) = 0 → ((¬ (rf_isOf (s3.2.1 25 10)) = (Int32.ofInt 1) → wc_Machine_giveToShow_161 d (by_a s3 34 ((Int8.ofInt 63).toInt32)) Q) ∧ ((rf_isOf (s3.2.1 25 10)) = (Int32.ofInt 1) → cf_V (d + 9) 202 [(0, .ref 25), (1, .int ((s3.2.1 25 10).toInt32))] s3 (fun s4 => wc_Machine_giveToShow_161 d s4 Q)))) ∧ ((rf_isOf (s3.2.1 25 10)) = 0 → cf_V (d + 9) 126 [(0, .ref 34), (1, .int ((s3.2.1 25 10).toInt32))] s3 (fun s5 => wc_Machine_giveToShow_161 d s5 Q)))) ∧ (r3 = (Int32.ofInt 5) → ((r1 = 0 → wc_Machine_giveToShow_43 d r1 s3 Q) ∧ (¬ (r1 = 0) → wc_Machine_giveToShow_43 d r1 (by_a s3 34 ((Int8.ofInt 40).toInt32)) Q)))))))
set_option maxRecDepth 20000 in
theorem wc_Machine_giveToShow_ok {d : Nat} {s : cf_S} {Q : cf_S → Prop} (h : wc_Machine_giveToShow d s Q) : cf_V (d + 10) 201 [(0, .ref 25)] s Q := by
  unfold wc_Machine_giveToShow at h
  unfold cf_V
  refine cf_R_w rp_201 (rf_bk am_t201 0 2) 0 [(0, .ref 25)] [] s (by repeat (first | exact trivial | refine ⟨rfl, ?_⟩)) (by decide +kernel) ?_
  refine cf_R_call (pc := 4) (q := ([.ref 31], [])) rp_201 rfl rfl (by decide) (by decide) rp_262 rfl (Nat.le_of_ble_eq_true rfl) ⟨rfl, Nat.le_of_ble_eq_true rfl⟩ h (fun v s1 h => ?_)
  obtain ⟨r1, rfl, h⟩ := h
  refine cf_R_w rp_201 (rf_bk am_t201 3 3) 7 [(0, .ref 25)] [.int r1] s1 (by repeat (first | exact trivial | refine ⟨rfl, ?_⟩)) (by decide +kernel) ?_
  refine cf_R_call (pc := 12) (q := ([.ref 31], [])) rp_201 rfl rfl (by decide) (by decide) rp_266 rfl (Nat.le_of_ble_eq_true rfl) ⟨rfl, Nat.le_of_ble_eq_true rfl⟩ h (fun v s2 h => ?_)
  obtain ⟨rfl, h⟩ := h
  refine cf_R_w rp_201 (rf_bk am_t201 7 4) 15 [(1, .int r1), (0, .ref 25)] [] s2 (by repeat (first | exact trivial | refine ⟨rfl, ?_⟩)) (by decide +kernel) ?_
  refine cf_R_call (pc := 23) (q := ([.ref 26, .long (s2.2.1 25 10)], [])) rp_201 rfl rfl (by decide) (by decide) rp_139 rfl (Nat.le_of_ble_eq_true rfl) ⟨rfl, Nat.le_of_ble_eq_true rfl⟩ h (fun v s3 h => ?_)
  obtain ⟨r3, rfl, h⟩ := h
  refine cf_R_w rp_201 (rf_bk am_t201 12 2) 26 [(1, .int r1), (0, .ref 25)] [.int r3] s3 (by repeat (first | exact trivial | refine ⟨rfl, ?_⟩)) (by decide +kernel) ?_
  refine cf_R_if (b := am_cnd .ne r3 (Int32.ofInt 5)) (p := 100) (q := 30) (fun hb => ?_) (fun hb => ?_)
  · replace h := h.1 (of_decide_eq_true hb)
    refine cf_R_w rp_201 (rf_bk am_t201 48 2) 100 [(1, .int r1), (0, .ref 25)] [] s3 (by repeat (first | exact trivial | refine ⟨rfl, ?_⟩)) (by decide +kernel) ?_
    refine cf_R_prim (pc := 104) (q := ([.long (s3.2.1 25 10)], [])) rp_201 rfl rfl (by decide) (by decide) rp_276 rfl (Nat.le_of_ble_eq_true rfl) ⟨rfl, Nat.le_of_ble_eq_true rfl⟩ (cq_tag) ?_
    refine cf_R_w rp_201 (rf_bk am_t201 51 1) 107 [(1, .int r1), (0, .ref 25)] [.int (rf_isOf (s3.2.1 25 10))] s3 (by repeat (first | exact trivial | refine ⟨rfl, ?_⟩)) (by decide +kernel) ?_
    refine cf_R_if (b := am_cnd .ne (rf_isOf (s3.2.1 25 10)) 0) (p := 127) (q := 110) (fun hb => ?_) (fun hb => ?_)
    · replace h := h.1 (of_decide_eq_true hb)
      refine cf_R_w rp_201 (rf_bk am_t201 59 2) 127 [(1, .int r1), (0, .ref 25)] [] s3 (by repeat (first | exact trivial | refine ⟨rfl, ?_⟩)) (by decide +kernel) ?_
      refine cf_R_prim (pc := 131) (q := ([.long (s3.2.1 25 10)], [])) rp_201 rfl rfl (by decide) (by decide) rp_276 rfl (Nat.le_of_ble_eq_true rfl) ⟨rfl, Nat.le_of_ble_eq_true rfl⟩ (cq_tag) ?_
      refine cf_R_w rp_201 (rf_bk am_t201 62 2) 134 [(1, .int r1), (0, .ref 25)] [.int (rf_isOf (s3.2.1 25 10))] s3 (by repeat (first | exact trivial | refine ⟨rfl, ?_⟩)) (by decide +kernel) ?_
      refine cf_R_if (b := am_cnd .ne (rf_isOf (s3.2.1 25 10)) (Int32.ofInt 1)) (p := 152) (q := 138) (fun hb => ?_) (fun hb => ?_)
      · replace h := h.1 (of_decide_eq_true hb)
        refine cf_R_w rp_201 (rf_bk am_t201 70 3) 152 [(1, .int r1), (0, .ref 25)] [] s3 (by repeat (first | exact trivial | refine ⟨rfl, ?_⟩)) (by decide +kernel) ?_
        refine cf_R_prim (pc := 158) (q := ([.ref 34, .int ((Int8.ofInt 63).toInt32)], [])) rp_201 rfl rfl (by decide) (by decide) rp_122 rfl (Nat.le_of_ble_eq_true rfl) ⟨rfl, Nat.le_of_ble_eq_true rfl⟩ (cq_add rfl) ?_
        exact cf_R_le (l := [(0, .ref 25)]) rfl rfl (⟨rfl, trivial⟩) (wc_Machine_giveToShow_161_ok h)
      · replace h := h.2 (Decidable.not_not.mp (of_decide_eq_false hb))
        refine cf_R_w rp_201 (rf_bk am_t201 64 3) 138 [(1, .int r1), (0, .ref 25)] [] s3 (by repeat (first | exact trivial | refine ⟨rfl, ?_⟩)) (by decide +kernel) ?_
        refine cf_R_prim (pc := 143) (q := ([.long (s3.2.1 25 10)], [.ref 25])) rp_201 rfl rfl (by decide) (by decide) rp_277 rfl (Nat.le_of_ble_eq_true rfl) ⟨rfl, Nat.le_of_ble_eq_true rfl⟩ (cq_value) ?_
        refine cf_R_call (pc := 146) (q := ([.ref 25, .int ((s3.2.1 25 10).toInt32)], [])) rp_201 rfl rfl (by decide) (by decide) rp_202 rfl (Nat.le_of_ble_eq_true rfl) ⟨rfl, Nat.le_of_ble_eq_true rfl⟩ h (fun v s4 h => ?_)
        obtain ⟨rfl, h⟩ := h
        refine cf_R_w rp_201 (rf_bk am_t201 69 1) 149 [(1, .int r1), (0, .ref 25)] [] s4 (by repeat (first | exact trivial | refine ⟨rfl, ?_⟩)) (by decide +kernel) ?_
        exact cf_R_le (l := [(0, .ref 25)]) rfl rfl (⟨rfl, trivial⟩) (wc_Machine_giveToShow_161_ok h)
    · replace h := h.2 (Decidable.not_not.mp (of_decide_eq_false hb))
      refine cf_R_w rp_201 (rf_bk am_t201 52 4) 110 [(1, .int r1), (0, .ref 25)] [] s3 (by repeat (first | exact trivial | refine ⟨rfl, ?_⟩)) (by decide +kernel) ?_
      refine cf_R_prim (pc := 118) (q := ([.long (s3.2.1 25 10)], [.ref 34])) rp_201 rfl rfl (by decide) (by decide) rp_277 rfl (Nat.le_of_ble_eq_true rfl) ⟨rfl, Nat.le_of_ble_eq_true rfl⟩ (cq_value) ?_
      refine cf_R_call (pc := 121) (q := ([.ref 34, .int ((s3.2.1 25 10).toInt32)], [])) rp_201 rfl rfl (by decide) (by decide) rp_126 rfl (Nat.le_of_ble_eq_true rfl) ⟨rfl, Nat.le_of_ble_eq_true rfl⟩ h (fun v s5 h => ?_)
      obtain ⟨rfl, h⟩ := h
      refine cf_R_w rp_201 (rf_bk am_t201 58 1) 124 [(1, .int r1), (0, .ref 25)] [] s5 (by repeat (first | exact trivial | refine ⟨rfl, ?_⟩)) (by decide +kernel) ?_
      exact cf_R_le (l := [(0, .ref 25)]) rfl rfl (⟨rfl, trivial⟩) (wc_Machine_giveToShow_161_ok h)
  · replace h := h.2 (Decidable.not_not.mp (of_decide_eq_false hb))
    refine cf_R_w rp_201 (rf_bk am_t201 14 2) 30 [(1, .int r1), (0, .ref 25)] [] s3 (by repeat (first | exact trivial | refine ⟨rfl, ?_⟩)) (by decide +kernel) ?_
    refine cf_R_if (b := am_cnd .eq r1 0) (p := 43) (q := 34) (fun hb => ?_) (fun hb => ?_)
    · replace h := h.1 (of_decide_eq_true hb)
      exact cf_R_le (l := [(0, .ref 25), (1, .int r1)]) rfl rfl (⟨rfl, rfl, trivial⟩) (wc_Machine_giveToShow_43_ok h)
    · replace h := h.2 (of_decide_eq_false hb)
      refine cf_R_w rp_201 (rf_bk am_t201 16 3) 34 [(1, .int r1), (0, .ref 25)] [] s3 (by repeat (first | exact trivial | refine ⟨rfl, ?_⟩)) (by decide +kernel) ?_
      refine cf_R_prim (pc := 40) (q := ([.ref 34, .int ((Int8.ofInt 40).toInt32)], [])) rp_201 rfl rfl (by decide) (by decide) rp_122 rfl (Nat.le_of_ble_eq_true rfl) ⟨rfl, Nat.le_of_ble_eq_true rfl⟩ (cq_add rfl) ?_
      exact cf_R_le (l := [(0, .ref 25), (1, .int r1)]) rfl rfl (⟨rfl, rfl, trivial⟩) (wc_Machine_giveToShow_43_ok h)
/-- LazyHouse$Machine.showMaker (I)V, from 0 on -/
def wc_Machine_showMaker (d : Nat) (x1 : Int32) (s : cf_S) (Q : cf_S → Prop) : Prop := cf_V (d + 9) 125 [(0, .ref 34), (1, .ref 4), (2, .int (tb_get s 8 x1 (Int32.ofInt 0))), (3, .int (tb_get s 8 x1 (Int32.ofInt 1)))] s (fun s1 => Q s1)
set_option maxRecDepth 20000 in
theorem wc_Machine_showMaker_ok {d : Nat} {x1 : Int32} {s : cf_S} {Q : cf_S → Prop} (h : wc_Machine_showMaker d x1 s Q) : cf_V (d + 10) 202 [(0, .ref 25), (1, .int x1)] s Q := by
  unfold wc_Machine_showMaker at h
  unfold cf_V
  refine cf_R_w rp_202 (rf_bk am_t202 0 5) 0 [(0, .ref 25), (1, .int x1)] [] s (by repeat (first | exact trivial | refine ⟨rfl, ?_⟩)) (by decide +kernel) ?_
  refine cf_R_prim (pc := 9) (q := ([.ref 8, .int x1, .int (Int32.ofInt 0)], [])) rp_202 rfl rfl (by decide) (by decide) rp_273 rfl (Nat.le_of_ble_eq_true rfl) ⟨rfl, Nat.le_of_ble_eq_true rfl⟩ (cq_get rfl) ?_
  refine cf_R_w rp_202 (rf_bk am_t202 6 12) 12 [(0, .ref 25), (1, .int x1)] [.int (tb_get s 8 x1 (Int32.ofInt 0))] s (by repeat (first | exact trivial | refine ⟨rfl, ?_⟩)) (by decide +kernel) ?_
  refine cf_R_prim (pc := 34) (q := ([.ref 8, .int x1, .int (Int32.ofInt 1)], [.int (tb_get s 8 x1 (Int32.ofInt 0)), .ref 4, .ref 34])) rp_202 rfl rfl (by decide) (by decide) rp_273 rfl (Nat.le_of_ble_eq_true rfl) ⟨rfl, Nat.le_of_ble_eq_true rfl⟩ (cq_get rfl) ?_
  refine cf_R_call (pc := 37) (q := ([.ref 34, .ref 4, .int (tb_get s 8 x1 (Int32.ofInt 0)), .int (tb_get s 8 x1 (Int32.ofInt 1))], [])) rp_202 rfl rfl (by decide) (by decide) rp_125 rfl (Nat.le_of_ble_eq_true rfl) ⟨rfl, Nat.le_of_ble_eq_true rfl⟩ h (fun v s1 h => ?_)
  obtain ⟨rfl, h⟩ := h
  exact cf_R_ret (pc := 40) rp_202 rfl rfl rfl ⟨rfl, h⟩
/-- LazyHouse$Machine.showNext ()V, from 130 on -/
def wc_Machine_showNext_130 (d : Nat) (x1 : Int32) (s : cf_S) (Q : cf_S → Prop) : Prop := cf_V (d + 9) 266 [(0, .ref 31)] s (fun s1 => cf_R (d + 10) 203 (7, [(0, .ref 25), (1, .int (x1 + Int32.ofInt 1))], [], s1) (cf_qV Q))
set_option maxRecDepth 20000 in
theorem wc_Machine_showNext_130_ok {d : Nat} {x1 : Int32} {s : cf_S} {Q : cf_S → Prop} (h : wc_Machine_showNext_130 d x1 s Q) : cf_R (d + 10) 203 (130, [(0, .ref 25), (1, .int x1)], [], s) (cf_qV Q) := by
  unfold wc_Machine_showNext_130 at h
  refine cf_R_w rp_203 (rf_bk am_t203 66 2) 130 [(0, .ref 25), (1, .int x1)] [] s (by repeat (first | exact trivial | refine ⟨rfl, ?_⟩)) (by decide +kernel) ?_
  refine cf_R_call (pc := 134) (q := ([.ref 31], [])) rp_203 rfl rfl (by decide) (by decide) rp_266 rfl (Nat.le_of_ble_eq_true rfl) ⟨rfl, Nat.le_of_ble_eq_true rfl⟩ h (fun v s1 h => ?_)
  obtain ⟨rfl, h⟩ := h
  refine cf_R_w rp_203 (rf_bk am_t203 69 2) 137 [(0, .ref 25), (1, .int x1)] [] s1 (by repeat (first | exact trivial | refine ⟨rfl, ?_⟩)) (by decide +kernel) ?_
  exact cf_R_le (l := [(0, .ref 25), (1, .int (x1 + Int32.ofInt 1))]) rfl rfl (⟨rfl, rfl, trivial⟩) h
/-- LazyHouse$Machine.showNext ()V, from 7 on -/
def wc_Machine_showNext_7 (d : Nat) (x1 : Int32) (s : cf_S) (Q : cf_S → Prop) : Prop := ((((Int16.ofInt 3000).toInt32) ≤ x1 → Q s) ∧ (¬ (((Int16.ofInt 3000).toInt32) ≤ x1) → cf_I (d + 9) 261 [(0, .ref 31)] s (fun r1 s1 => ((¬ r1 = ((Int8.ofInt 7).toInt32) → Q s1) ∧ (r1 = ((Int8.ofInt 7).toInt32) → cf_J (d + 9) 264 [(0, .ref 31), (1, .int (Int32.ofInt 0))] s1 (fun r2 s2 => cf_J (d + 9) 264 [(0, .ref 31), (1, .int (Int32.ofInt 1))] s2 (fun r3 s3 => cf_I (d + 9) 135 [(0, .ref 26), (1, .int (r2.toInt32))] s3 (fun r4 s4 => ((r4 ≤ (r3.toInt32) → cf_I (d + 9) 262 [(0, .ref 31)] s4 (fun r5 s5 => ((r5 = 0 → wc_Machine_showNext_130 d x1 s5 Q) ∧ (¬ (r5 = 0) → wc_Machine_showNext_130 d x1 (by_a s5 34 ((Int8.ofInt 41).toInt32)) Q)))) ∧ (¬ (r4 ≤ (r3.toInt32)) → cf_V (d + 9) 265 [(0, .ref 31), (1, .int (Int32.ofInt 1)), (2, .long (rf_word (Int32.ofInt 0) ((r3.toInt32) + (Int32.ofInt 1))))] (by_a s4 34 ((Int8.ofInt 32).toInt32)) (fun s6 => cf_V (d + 9) 260 [(0, .ref 31), (1, .int ((Int8.ofInt 6).toInt32)), (2, .int (Int32.ofInt 1)), (3, .int (Int32.ofInt 0))] s6 (fun s7 => cf_J (d + 9) 137 [(0, .ref 26), (1, .int (r2.toInt32)), (2, .int (r3.toInt32))] s7 (fun r8 s8 => cf_V (d + 9) 162 [(0, .ref 25), (1, .long r8)] s8 (fun s9 => Q s9))))))))))))))
set_option maxRecDepth 20000 in
theorem wc_Machine_showNext_7_ok {d : Nat} {x1 : Int32} {s : cf_S} {Q : cf_S → Prop} (h : wc_Machine_showNext_7 d x1 s Q) : cf_R (d + 10) 203 (7, [(0, .ref 25), (1, .int x1)], [], s) (cf_qV Q) := by
  unfold wc_Machine_showNext_7 at h
  refine cf_R_w rp_203 (rf_bk am_t203 5 3) 7 [(0, .ref 25), (1, .int x1)] [] s (by repeat (first | exact trivial | refine ⟨rfl, ?_⟩)) (by decide +kernel) ?_
  refine cf_R_if (b := am_cnd .ge x1 ((Int16.ofInt 3000).toInt32)) (p := 143) (q := 14) (fun hb => ?_) (fun hb => ?_)
  · replace h := h.1 (of_decide_eq_true hb)
    exact cf_R_ret (pc := 143) rp_203 rfl rfl rfl ⟨rfl, h⟩
  · replace h := h.2 (of_decide_eq_false hb)
    refine cf_R_w rp_203 (rf_bk am_t203 8 2) 14 [(0, .ref 25), (1, .int x1)] [] s (by repeat (first | exact trivial | refine ⟨rfl, ?_⟩)) (by decide +kernel) ?_
    refine cf_R_call (pc := 18) (q := ([.ref 31], [])) rp_203 rfl rfl (by decide) (by decide) rp_261 rfl (Nat.le_of_ble_eq_true rfl) ⟨rfl, Nat.le_of_ble_eq_true rfl⟩ h (fun v s1 h => ?_)
    obtain ⟨r1, rfl, h⟩ := h
    refine cf_R_w rp_203 (rf_bk am_t203 11 2) 21 [(0, .ref 25), (1, .int x1)] [.int r1] s1 (by repeat (first | exact trivial | refine ⟨rfl, ?_⟩)) (by decide +kernel) ?_
    refine cf_R_if (b := am_cnd .ne r1 ((Int8.ofInt 7).toInt32)) (p := 143) (q := 26) (fun hb => ?_) (fun hb => ?_)
    · replace h := h.1 (of_decide_eq_true hb)
      exact cf_R_ret (pc := 143) rp_203 rfl rfl rfl ⟨rfl, h⟩
    · replace h := h.2 (Decidable.not_not.mp (of_decide_eq_false hb))
      refine cf_R_w rp_203 (rf_bk am_t203 13 3) 26 [(0, .ref 25), (1, .int x1)] [] s1 (by repeat (first | exact trivial | refine ⟨rfl, ?_⟩)) (by decide +kernel) ?_
      refine cf_R_call (pc := 31) (q := ([.ref 31, .int (Int32.ofInt 0)], [])) rp_203 rfl rfl (by decide) (by decide) rp_264 rfl (Nat.le_of_ble_eq_true rfl) ⟨rfl, Nat.le_of_ble_eq_true rfl⟩ h (fun v s2 h => ?_)
      obtain ⟨r2, rfl, h⟩ := h
      refine cf_R_prim (pc := 34) (q := ([.long r2], [])) rp_203 rfl rfl (by decide) (by decide) rp_277 rfl (Nat.le_of_ble_eq_true rfl) ⟨rfl, Nat.le_of_ble_eq_true rfl⟩ (cq_value) ?_
      refine cf_R_w rp_203 (rf_bk am_t203 18 4) 37 [(0, .ref 25), (1, .int x1)] [.int (r2.toInt32)] s2 (by repeat (first | exact trivial | refine ⟨rfl, ?_⟩)) (by decide +kernel) ?_
      refine cf_R_call (pc := 43) (q := ([.ref 31, .int (Int32.ofInt 1)], [])) rp_203 rfl rfl (by decide) (by decide) rp_264 rfl (Nat.le_of_ble_eq_true rfl) ⟨rfl, Nat.le_of_ble_eq_true rfl⟩ h (fun v s3 h => ?_)
      obtain ⟨r3, rfl, h⟩ := h
      refine cf_R_prim (pc := 46) (q := ([.long r3], [])) rp_203 rfl rfl (by decide) (by decide) rp_277 rfl (Nat.le_of_ble_eq_true rfl) ⟨rfl, Nat.le_of_ble_eq_true rfl⟩ (cq_value) ?_
      refine cf_R_w rp_203 (rf_bk am_t203 24 5) 49 [(2, .int (r2.toInt32)), (0, .ref 25), (1, .int x1)] [.int (r3.toInt32)] s3 (by repeat (first | exact trivial | refine ⟨rfl, ?_⟩)) (by decide +kernel) ?_
      refine cf_R_call (pc := 56) (q := ([.ref 26, .int (r2.toInt32)], [.int (r3.toInt32)])) rp_203 rfl rfl (by decide) (by decide) rp_135 rfl (Nat.le_of_ble_eq_true rfl) ⟨rfl, Nat.le_of_ble_eq_true rfl⟩ h (fun v s4 h => ?_)
      obtain ⟨r4, rfl, h⟩ := h
      refine cf_R_w rp_203 (rf_bk am_t203 30 1) 59 [(3, .int (r3.toInt32)), (2, .int (r2.toInt32)), (0, .ref 25), (1, .int x1)] [.int r4, .int (r3.toInt32)] s4 (by repeat (first | exact trivial | refine ⟨rfl, ?_⟩)) (by decide +kernel) ?_
      refine cf_R_if (b := am_cnd .ge (r3.toInt32) r4) (p := 111) (q := 62) (fun hb => ?_) (fun hb => ?_)
      · replace h := h.1 (of_decide_eq_true hb)
        refine cf_R_w rp_203 (rf_bk am_t203 58 2) 111 [(3, .int (r3.toInt32)), (2, .int (r2.toInt32)), (0, .ref 25), (1, .int x1)] [] s4 (by repeat (first | exact trivial | refine ⟨rfl, ?_⟩)) (by decide +kernel) ?_
        refine cf_R_call (pc := 115) (q := ([.ref 31], [])) rp_203 rfl rfl (by decide) (by decide) rp_262 rfl (Nat.le_of_ble_eq_true rfl) ⟨rfl, Nat.le_of_ble_eq_true rfl⟩ h (fun v s5 h => ?_)
        obtain ⟨r5, rfl, h⟩ := h
        refine cf_R_w rp_203 (rf_bk am_t203 61 1) 118 [(3, .int (r3.toInt32)), (2, .int (r2.toInt32)), (0, .ref 25), (1, .int x1)] [.int r5] s5 (by repeat (first | exact trivial | refine ⟨rfl, ?_⟩)) (by decide +kernel) ?_
        refine cf_R_if (b := am_cnd .eq r5 0) (p := 130) (q := 121) (fun hb => ?_) (fun hb => ?_)
        · replace h := h.1 (of_decide_eq_true hb)
          exact cf_R_le (l := [(0, .ref 25), (1, .int x1)]) rfl rfl (⟨rfl, rfl, trivial⟩) (wc_Machine_showNext_130_ok h)
        · replace h := h.2 (of_decide_eq_false hb)
          refine cf_R_w rp_203 (rf_bk am_t203 62 3) 121 [(3, .int (r3.toInt32)), (2, .int (r2.toInt32)), (0, .ref 25), (1, .int x1)] [] s5 (by repeat (first | exact trivial | refine ⟨rfl, ?_⟩)) (by decide +kernel) ?_
          refine cf_R_prim (pc := 127) (q := ([.ref 34, .int ((Int8.ofInt 41).toInt32)], [])) rp_203 rfl rfl (by decide) (by decide) rp_122 rfl (Nat.le_of_ble_eq_true rfl) ⟨rfl, Nat.le_of_ble_eq_true rfl⟩ (cq_add rfl) ?_
          exact cf_R_le (l := [(0, .ref 25), (1, .int x1)]) rfl rfl (⟨rfl, rfl, trivial⟩) (wc_Machine_showNext_130_ok h)
      · replace h := h.2 (of_decide_eq_false hb)
        refine cf_R_w rp_203 (rf_bk am_t203 31 3) 62 [(3, .int (r3.toInt32)), (2, .int (r2.toInt32)), (0, .ref 25), (1, .int x1)] [] s4 (by repeat (first | exact trivial | refine ⟨rfl, ?_⟩)) (by decide +kernel) ?_
        refine cf_R_prim (pc := 68) (q := ([.ref 34, .int ((Int8.ofInt 32).toInt32)], [])) rp_203 rfl rfl (by decide) (by decide) rp_122 rfl (Nat.le_of_ble_eq_true rfl) ⟨rfl, Nat.le_of_ble_eq_true rfl⟩ (cq_add rfl) ?_
        refine cf_R_w rp_203 (rf_bk am_t203 35 7) 71 [(3, .int (r3.toInt32)), (2, .int (r2.toInt32)), (0, .ref 25), (1, .int x1)] [] (by_a s4 34 ((Int8.ofInt 32).toInt32)) (by repeat (first | exact trivial | refine ⟨rfl, ?_⟩)) (by decide +kernel) ?_
        refine cf_R_prim (pc := 80) (q := ([.int (Int32.ofInt 0), .int ((r3.toInt32) + (Int32.ofInt 1))], [.int (Int32.ofInt 1), .ref 31])) rp_203 rfl rfl (by decide) (by decide) rp_275 rfl (Nat.le_of_ble_eq_true rfl) ⟨rfl, Nat.le_of_ble_eq_true rfl⟩ (cq_of) ?_
        refine cf_R_call (pc := 83) (q := ([.ref 31, .int (Int32.ofInt 1), .long (rf_word (Int32.ofInt 0) ((r3.toInt32) + (Int32.ofInt 1)))], [])) rp_203 rfl rfl (by decide) (by decide) rp_265 rfl (Nat.le_of_ble_eq_true rfl) ⟨rfl, Nat.le_of_ble_eq_true rfl⟩ h (fun v s6 h => ?_)
        obtain ⟨rfl, h⟩ := h
        refine cf_R_w rp_203 (rf_bk am_t203 44 5) 86 [(3, .int (r3.toInt32)), (2, .int (r2.toInt32)), (0, .ref 25), (1, .int x1)] [] s6 (by repeat (first | exact trivial | refine ⟨rfl, ?_⟩)) (by decide +kernel) ?_
        refine cf_R_call (pc := 94) (q := ([.ref 31, .int ((Int8.ofInt 6).toInt32), .int (Int32.ofInt 1), .int (Int32.ofInt 0)], [])) rp_203 rfl rfl (by decide) (by decide) rp_260 rfl (Nat.le_of_ble_eq_true rfl) ⟨rfl, Nat.le_of_ble_eq_true rfl⟩ h (fun v s7 h => ?_)
        obtain ⟨rfl, h⟩ := h
        refine cf_R_w rp_203 (rf_bk am_t203 50 5) 97 [(3, .int (r3.toInt32)), (2, .int (r2.toInt32)), (0, .ref 25), (1, .int x1)] [] s7 (by repeat (first | exact trivial | refine ⟨rfl, ?_⟩)) (by decide +kernel) ?_
        refine cf_R_call (pc := 104) (q := ([.ref 26, .int (r2.toInt32), .int (r3.toInt32)], [.ref 25])) rp_203 rfl rfl (by decide) (by decide) rp_137 rfl (Nat.le_of_ble_eq_true rfl) ⟨rfl, Nat.le_of_ble_eq_true rfl⟩ h (fun v s8 h => ?_)
        obtain ⟨r8, rfl, h⟩ := h
        refine cf_R_call (pc := 107) (q := ([.ref 25, .long r8], [])) rp_203 rfl rfl (by decide) (by decide) rp_162 rfl (Nat.le_of_ble_eq_true rfl) ⟨rfl, Nat.le_of_ble_eq_true rfl⟩ h (fun v s9 h => ?_)
        obtain ⟨rfl, h⟩ := h
        exact cf_R_ret (pc := 110) rp_203 rfl rfl rfl ⟨rfl, h⟩
/-- LazyHouse$Machine.showNext ()V, from 0 on -/
def wc_Machine_showNext (d : Nat) (s : cf_S) (Q : cf_S → Prop) : Prop := cf_R (d + 10) 203 (7, [(0, .ref 25), (1, .int (Int32.ofInt 0))], [], (cf_si s 25 8 (Int32.ofInt 4))) (cf_qV Q)
set_option maxRecDepth 20000 in
theorem wc_Machine_showNext_ok {d : Nat} {s : cf_S} {Q : cf_S → Prop} (h : wc_Machine_showNext d s Q) : cf_V (d + 10) 203 [(0, .ref 25)] s Q := by
  unfold wc_Machine_showNext at h
  unfold cf_V
  refine cf_R_w rp_203 (rf_bk am_t203 0 3) 0 [(0, .ref 25)] [] s (by repeat (first | exact trivial | refine ⟨rfl, ?_⟩)) (by decide +kernel) ?_
  refine And.intro rfl ?_
  refine cf_R_w rp_203 (rf_bk am_t203 3 2) 5 [(0, .ref 25)] [] (cf_si s 25 8 (Int32.ofInt 4)) (by repeat (first | exact trivial | refine ⟨rfl, ?_⟩)) (by decide +kernel) ?_
  exact cf_R_le (l := [(0, .ref 25), (1, .int (Int32.ofInt 0))]) rfl rfl (⟨rfl, rfl, trivial⟩) h
/-- LazyHouse$Parser.parse ()I, from 120 on -/
def wc_Parser_parse_120 (d : Nat) (s : cf_S) (Q : Int32 → cf_S → Prop) : Prop := cf_I (d + 9) 244 [(0, .ref 23)] s (fun r1 s1 => Q r1 s1)
set_option maxRecDepth 20000 in
theorem wc_Parser_parse_120_ok {d : Nat} {s : cf_S} {Q : Int32 → cf_S → Prop} (h : wc_Parser_parse_120 d s Q) : cf_R (d + 10) 205 (120, [(0, .ref 22)], [], s) (cf_qI Q) := by
  unfold wc_Parser_parse_120 at h
  refine cf_R_w rp_205 (rf_bk am_t205 60 2) 120 [(0, .ref 22)] [] s (by repeat (first | exact trivial | refine ⟨rfl, ?_⟩)) (by decide +kernel) ?_
  refine cf_R_call (pc := 124) (q := ([.ref 23], [])) rp_205 rfl rfl (by decide) (by decide) rp_244 rfl (Nat.le_of_ble_eq_true rfl) ⟨rfl, Nat.le_of_ble_eq_true rfl⟩ h (fun v s1 h => ?_)
  obtain ⟨r1, rfl, h⟩ := h
  exact cf_R_ret (pc := 127) (v := some (.int r1)) rp_205 rfl rfl rfl ⟨_, rfl, h⟩
/-- LazyHouse$Parser.parse ()I, from 17 on -/
def wc_Parser_parse_17 (d : Nat) (x2 : Int32) (s : cf_S) (Q : Int32 → cf_S → Prop) : Prop := (((Int32.ofNat 1000000) ≤ x2 → wc_Parser_parse_120 d s Q) ∧ (¬ ((Int32.ofNat 1000000) ≤ x2) → cf_I (d + 9) 206 [(0, .ref 22)] s (fun r1 s1 => cf_I (d + 9) 225 [(0, .ref 22)] s1 (fun r2 s2 => cf_I (d + 9) 222 [(0, .ref 22), (1, .int r2)] (tb_set s2 10 r1 (Int32.ofInt 0) (s2.1 14 2)) (fun r3 s3 => cf_V (d + 9) 220 [(0, .ref 22), (1, .int ((Int8.ofInt 61).toInt32))] (tb_set s3 10 r1 (Int32.ofInt 1) r3) (fun s4 => cf_I (d + 9) 207 [(0, .ref 22), (1, .int (Int32.ofInt 0))] s4 (fun r5 s5 => cf_V (d + 9) 226 [(0, .ref 22), (1, .int r2)] (tb_set s5 10 r1 (Int32.ofInt 2) r5) (fun s6 => cf_V (d + 9) 220 [(0, .ref 22), (1, .int ((Int8.ofInt 59).toInt32))] s6 (fun s7 => cf_I (d + 9) 244 [(0, .ref 23)] s7 (fun r8 s8 => ((0 ≤ r8 → wc_Parser_parse_120 d s8 Q) ∧ (¬ (0 ≤ r8) → cf_I (d + 9) 241 [(0, .ref 23)] s8 (fun r9 s9 => ((¬ r9 = 0 → cf_R (d + 10) 205 (17, [(0, .ref 22), (1, .ref 10), (2, .int (x2 + Int32.ofInt 1))], [], s9) (cf_qI Q)) ∧ (r9 = 0 → wc_Parser_parse_120 d s9 Q)))))))))))))))
set_option maxRecDepth 20000 in
theorem wc_Parser_parse_17_ok {d : Nat} {x2 : Int32} {s : cf_S} {Q : Int32 → cf_S → Prop} (h : wc_Parser_parse_17 d x2 s Q) : cf_R (d + 10) 205 (17, [(0, .ref 22), (1, .ref 10), (2, .int x2)], [], s) (cf_qI Q) := by
  unfold wc_Parser_parse_17 at h
  refine cf_R_w rp_205 (rf_bk am_t205 9 3) 17 [(0, .ref 22), (1, .ref 10), (2, .int x2)] [] s (by repeat (first | exact trivial | refine ⟨rfl, ?_⟩)) (by decide +kernel) ?_
  refine cf_R_if (b := am_cnd .ge x2 (Int32.ofNat 1000000)) (p := 120) (q := 23) (fun hb => ?_) (fun hb => ?_)
  · replace h := h.1 (of_decide_eq_true hb)
    exact cf_R_le (l := [(0, .ref 22)]) rfl rfl (⟨rfl, trivial⟩) (wc_Parser_parse_120_ok h)
  · replace h := h.2 (of_decide_eq_false hb)
    refine cf_R_w rp_205 (rf_bk am_t205 12 1) 23 [(0, .ref 22), (1, .ref 10), (2, .int x2)] [] s (by repeat (first | exact trivial | refine ⟨rfl, ?_⟩)) (by decide +kernel) ?_
    refine cf_R_call (pc := 24) (q := ([.ref 22], [])) rp_205 rfl rfl (by decide) (by decide) rp_206 rfl (Nat.le_of_ble_eq_true rfl) ⟨rfl, Nat.le_of_ble_eq_true rfl⟩ h (fun v s1 h => ?_)
    obtain ⟨r1, rfl, h⟩ := h
    refine cf_R_w rp_205 (rf_bk am_t205 14 2) 27 [(0, .ref 22), (1, .ref 10), (2, .int x2)] [.int r1] s1 (by repeat (first | exact trivial | refine ⟨rfl, ?_⟩)) (by decide +kernel) ?_
    refine cf_R_call (pc := 29) (q := ([.ref 22], [])) rp_205 rfl rfl (by decide) (by decide) rp_225 rfl (Nat.le_of_ble_eq_true rfl) ⟨rfl, Nat.le_of_ble_eq_true rfl⟩ h (fun v s2 h => ?_)
    obtain ⟨r2, rfl, h⟩ := h
    refine cf_R_w rp_205 (rf_bk am_t205 17 7) 32 [(3, .int r1), (0, .ref 22), (1, .ref 10), (2, .int x2)] [.int r2] s2 (by repeat (first | exact trivial | refine ⟨rfl, ?_⟩)) (by decide +kernel) ?_
    refine cf_R_prim (pc := 44) (q := ([.ref 14], [.int (Int32.ofInt 0), .int r1, .ref 10])) rp_205 rfl rfl (by decide) (by decide) rp_270 rfl (Nat.le_of_ble_eq_true rfl) ⟨rfl, Nat.le_of_ble_eq_true rfl⟩ (cq_rows rfl) ?_
    refine cf_R_prim (pc := 47) (q := ([.ref 10, .int r1, .int (Int32.ofInt 0), .int (s2.1 14 2)], [])) rp_205 rfl rfl (by decide) (by decide) rp_274 rfl (Nat.le_of_ble_eq_true rfl) ⟨rfl, Nat.le_of_ble_eq_true rfl⟩ (cq_set rfl) ?_
    refine cf_R_w rp_205 (rf_bk am_t205 26 5) 50 [(4, .int r2), (3, .int r1), (0, .ref 22), (1, .ref 10), (2, .int x2)] [] (tb_set s2 10 r1 (Int32.ofInt 0) (s2.1 14 2)) (by repeat (first | exact trivial | refine ⟨rfl, ?_⟩)) (by decide +kernel) ?_
    refine cf_R_call (pc := 56) (q := ([.ref 22, .int r2], [.int (Int32.ofInt 1), .int r1, .ref 10])) rp_205 rfl rfl (by decide) (by decide) rp_222 rfl (Nat.le_of_ble_eq_true rfl) ⟨rfl, Nat.le_of_ble_eq_true rfl⟩ h (fun v s3 h => ?_)
    obtain ⟨r3, rfl, h⟩ := h
    refine cf_R_prim (pc := 59) (q := ([.ref 10, .int r1, .int (Int32.ofInt 1), .int r3], [])) rp_205 rfl rfl (by decide) (by decide) rp_274 rfl (Nat.le_of_ble_eq_true rfl) ⟨rfl, Nat.le_of_ble_eq_true rfl⟩ (cq_set rfl) ?_
    refine cf_R_w rp_205 (rf_bk am_t205 33 2) 62 [(4, .int r2), (3, .int r1), (0, .ref 22), (1, .ref 10), (2, .int x2)] [] (tb_set s3 10 r1 (Int32.ofInt 1) r3) (by repeat (first | exact trivial | refine ⟨rfl, ?_⟩)) (by decide +kernel) ?_
    refine cf_R_call (pc := 65) (q := ([.ref 22, .int ((Int8.ofInt 61).toInt32)], [])) rp_205 rfl rfl (by decide) (by decide) rp_220 rfl (Nat.le_of_ble_eq_true rfl) ⟨rfl, Nat.le_of_ble_eq_true rfl⟩ h (fun v s4 h => ?_)
    obtain ⟨rfl, h⟩ := h
    refine cf_R_w rp_205 (rf_bk am_t205 36 5) 68 [(4, .int r2), (3, .int r1), (0, .ref 22), (1, .ref 10), (2, .int x2)] [] s4 (by repeat (first | exact trivial | refine ⟨rfl, ?_⟩)) (by decide +kernel) ?_
    refine cf_R_call (pc := 73) (q := ([.ref 22, .int (Int32.ofInt 0)], [.int (Int32.ofInt 2), .int r1, .ref 10])) rp_205 rfl rfl (by decide) (by decide) rp_207 rfl (Nat.le_of_ble_eq_true rfl) ⟨rfl, Nat.le_of_ble_eq_true rfl⟩ h (fun v s5 h => ?_)
    obtain ⟨r5, rfl, h⟩ := h
    refine cf_R_prim (pc := 76) (q := ([.ref 10, .int r1, .int (Int32.ofInt 2), .int r5], [])) rp_205 rfl rfl (by decide) (by decide) rp_274 rfl (Nat.le_of_ble_eq_true rfl) ⟨rfl, Nat.le_of_ble_eq_true rfl⟩ (cq_set rfl) ?_
    refine cf_R_w rp_205 (rf_bk am_t205 43 2) 79 [(4, .int r2), (3, .int r1), (0, .ref 22), (1, .ref 10), (2, .int x2)] [] (tb_set s5 10 r1 (Int32.ofInt 2) r5) (by repeat (first | exact trivial | refine ⟨rfl, ?_⟩)) (by decide +kernel) ?_
    refine cf_R_call (pc := 82) (q := ([.ref 22, .int r2], [])) rp_205 rfl rfl (by decide) (by decide) rp_226 rfl (Nat.le_of_ble_eq_true rfl) ⟨rfl, Nat.le_of_ble_eq_true rfl⟩ h (fun v s6 h => ?_)
    obtain ⟨rfl, h⟩ := h
    refine cf_R_w rp_205 (rf_bk am_t205 46 2) 85 [(4, .int r2), (3, .int r1), (0, .ref 22), (1, .ref 10), (2, .int x2)] [] s6 (by repeat (first | exact trivial | refine ⟨rfl, ?_⟩)) (by decide +kernel) ?_
    refine cf_R_call (pc := 88) (q := ([.ref 22, .int ((Int8.ofInt 59).toInt32)], [])) rp_205 rfl rfl (by decide) (by decide) rp_220 rfl (Nat.le_of_ble_eq_true rfl) ⟨rfl, Nat.le_of_ble_eq_true rfl⟩ h (fun v s7 h => ?_)
    obtain ⟨rfl, h⟩ := h
    refine cf_R_w rp_205 (rf_bk am_t205 49 2) 91 [(4, .int r2), (3, .int r1), (0, .ref 22), (1, .ref 10), (2, .int x2)] [] s7 (by repeat (first | exact trivial | refine ⟨rfl, ?_⟩)) (by decide +kernel) ?_
    refine cf_R_call (pc := 95) (q := ([.ref 23], [])) rp_205 rfl rfl (by decide) (by decide) rp_244 rfl (Nat.le_of_ble_eq_true rfl) ⟨rfl, Nat.le_of_ble_eq_true rfl⟩ h (fun v s8 h => ?_)
    obtain ⟨r8, rfl, h⟩ := h
    refine cf_R_w rp_205 (rf_bk am_t205 52 1) 98 [(4, .int r2), (3, .int r1), (0, .ref 22), (1, .ref 10), (2, .int x2)] [.int r8] s8 (by repeat (first | exact trivial | refine ⟨rfl, ?_⟩)) (by decide +kernel) ?_
    refine cf_R_if (b := am_cnd .ge r8 0) (p := 120) (q := 101) (fun hb => ?_) (fun hb => ?_)
    · replace h := h.1 (of_decide_eq_true hb)
      exact cf_R_le (l := [(0, .ref 22)]) rfl rfl (⟨rfl, trivial⟩) (wc_Parser_parse_120_ok h)
    · replace h := h.2 (of_decide_eq_false hb)
      refine cf_R_w rp_205 (rf_bk am_t205 53 2) 101 [(4, .int r2), (3, .int r1), (0, .ref 22), (1, .ref 10), (2, .int x2)] [] s8 (by repeat (first | exact trivial | refine ⟨rfl, ?_⟩)) (by decide +kernel) ?_
      refine cf_R_call (pc := 105) (q := ([.ref 23], [])) rp_205 rfl rfl (by decide) (by decide) rp_241 rfl (Nat.le_of_ble_eq_true rfl) ⟨rfl, Nat.le_of_ble_eq_true rfl⟩ h (fun v s9 h => ?_)
      obtain ⟨r9, rfl, h⟩ := h
      refine cf_R_w rp_205 (rf_bk am_t205 56 1) 108 [(4, .int r2), (3, .int r1), (0, .ref 22), (1, .ref 10), (2, .int x2)] [.int r9] s9 (by repeat (first | exact trivial | refine ⟨rfl, ?_⟩)) (by decide +kernel) ?_
      refine cf_R_if (b := am_cnd .ne r9 0) (p := 114) (q := 111) (fun hb => ?_) (fun hb => ?_)
      · replace h := h.1 (of_decide_eq_true hb)
        refine cf_R_w rp_205 (rf_bk am_t205 58 2) 114 [(4, .int r2), (3, .int r1), (0, .ref 22), (1, .ref 10), (2, .int x2)] [] s9 (by repeat (first | exact trivial | refine ⟨rfl, ?_⟩)) (by decide +kernel) ?_
        exact cf_R_le (l := [(0, .ref 22), (1, .ref 10), (2, .int (x2 + Int32.ofInt 1))]) rfl rfl (⟨rfl, rfl, rfl, trivial⟩) h
      · replace h := h.2 (Decidable.not_not.mp (of_decide_eq_false hb))
        refine cf_R_w rp_205 (rf_bk am_t205 57 1) 111 [(4, .int r2), (3, .int r1), (0, .ref 22), (1, .ref 10), (2, .int x2)] [] s9 (by repeat (first | exact trivial | refine ⟨rfl, ?_⟩)) (by decide +kernel) ?_
        exact cf_R_le (l := [(0, .ref 22)]) rfl rfl (⟨rfl, trivial⟩) (wc_Parser_parse_120_ok h)
/-- LazyHouse$Parser.parse ()I, from 0 on -/
def wc_Parser_parse (d : Nat) (s : cf_S) (Q : Int32 → cf_S → Prop) : Prop := cf_V (d + 9) 240 [(0, .ref 23)] s (fun s1 => cf_R (d + 10) 205 (17, [(0, .ref 22), (1, .ref 10), (2, .int (Int32.ofInt 0))], [], s1) (cf_qI Q))
set_option maxRecDepth 20000 in
theorem wc_Parser_parse_ok {d : Nat} {s : cf_S} {Q : Int32 → cf_S → Prop} (h : wc_Parser_parse d s Q) : cf_I (d + 10) 205 [(0, .ref 22)] s Q := by
  unfold wc_Parser_parse at h
  unfold cf_I
  refine cf_R_w rp_205 (rf_bk am_t205 0 6) 0 [(0, .ref 22)] [] s (by repeat (first | exact trivial | refine ⟨rfl, ?_⟩)) (by decide +kernel) ?_
  refine cf_R_call (pc := 12) (q := ([.ref 23], [])) rp_205 rfl rfl (by decide) (by decide) rp_240 rfl (Nat.le_of_ble_eq_true rfl) ⟨rfl, Nat.le_of_ble_eq_true rfl⟩ h (fun v s1 h => ?_)
  obtain ⟨rfl, h⟩ := h
  refine cf_R_w rp_205 (rf_bk am_t205 7 2) 15 [(1, .ref 10), (0, .ref 22)] [] s1 (by repeat (first | exact trivial | refine ⟨rfl, ?_⟩)) (by decide +kernel) ?_
  exact cf_R_le (l := [(0, .ref 22), (1, .ref 10), (2, .int (Int32.ofInt 0))]) rfl rfl (⟨rfl, rfl, rfl, trivial⟩) h
/-- LazyHouse$Parser.openDefinition ()I, from 34 on -/
def wc_Parser_openDefinition_34 (d : Nat) (s : cf_S) (Q : Int32 → cf_S → Prop) : Prop := cf_V (d + 9) 245 [(0, .ref 23)] s (fun s1 => Q (Int32.ofInt 0) s1)
set_option maxRecDepth 20000 in
theorem wc_Parser_openDefinition_34_ok {d : Nat} {s : cf_S} {Q : Int32 → cf_S → Prop} (h : wc_Parser_openDefinition_34 d s Q) : cf_R (d + 10) 206 (34, [(0, .ref 22)], [], s) (cf_qI Q) := by
  unfold wc_Parser_openDefinition_34 at h
  refine cf_R_w rp_206 (rf_bk am_t206 16 2) 34 [(0, .ref 22)] [] s (by repeat (first | exact trivial | refine ⟨rfl, ?_⟩)) (by decide +kernel) ?_
  refine cf_R_call (pc := 38) (q := ([.ref 23], [])) rp_206 rfl rfl (by decide) (by decide) rp_245 rfl (Nat.le_of_ble_eq_true rfl) ⟨rfl, Nat.le_of_ble_eq_true rfl⟩ h (fun v s1 h => ?_)
  obtain ⟨rfl, h⟩ := h
  refine cf_R_w rp_206 (rf_bk am_t206 19 1) 41 [(0, .ref 22)] [] s1 (by repeat (first | exact trivial | refine ⟨rfl, ?_⟩)) (by decide +kernel) ?_
  exact cf_R_ret (pc := 42) (v := some (.int (Int32.ofInt 0))) rp_206 rfl rfl rfl ⟨_, rfl, h⟩
/-- LazyHouse$Parser.openDefinition ()I, from 0 on -/
def wc_Parser_openDefinition (d : Nat) (s : cf_S) (Q : Int32 → cf_S → Prop) : Prop := cf_I (d + 9) 243 [(0, .ref 23)] s (fun r1 s1 => cf_I (d + 9) 241 [(0, .ref 23)] s1 (fun r2 s2 => ((¬ r2 = (Int32.ofInt 2) → wc_Parser_openDefinition_34 d s2 Q) ∧ (r2 = (Int32.ofInt 2) → (((tb_get s2 6 r1 (Int32.ofInt 3)) = 0 → (cf_N s2 + 1 < 1000000000 ∧ cf_V (d + 9) 246 [(0, .ref 23)] (tb_set (tb_add s2 10) 6 r1 (Int32.ofInt 3) (tb_new s2 10)) (fun s3 => Q (tb_new s2 10) s3))) ∧ (¬ ((tb_get s2 6 r1 (Int32.ofInt 3)) = 0) → wc_Parser_openDefinition_34 d s2 Q))))))
set_option maxRecDepth 20000 in
theorem wc_Parser_openDefinition_ok {d : Nat} {s : cf_S} {Q : Int32 → cf_S → Prop} (h : wc_Parser_openDefinition d s Q) : cf_I (d + 10) 206 [(0, .ref 22)] s Q := by
  unfold wc_Parser_openDefinition at h
  unfold cf_I
  refine cf_R_w rp_206 (rf_bk am_t206 0 2) 0 [(0, .ref 22)] [] s (by repeat (first | exact trivial | refine ⟨rfl, ?_⟩)) (by decide +kernel) ?_
  refine cf_R_call (pc := 4) (q := ([.ref 23], [])) rp_206 rfl rfl (by decide) (by decide) rp_243 rfl (Nat.le_of_ble_eq_true rfl) ⟨rfl, Nat.le_of_ble_eq_true rfl⟩ h (fun v s1 h => ?_)
  obtain ⟨r1, rfl, h⟩ := h
  refine cf_R_w rp_206 (rf_bk am_t206 3 3) 7 [(0, .ref 22)] [.int r1] s1 (by repeat (first | exact trivial | refine ⟨rfl, ?_⟩)) (by decide +kernel) ?_
  refine cf_R_call (pc := 12) (q := ([.ref 23], [])) rp_206 rfl rfl (by decide) (by decide) rp_241 rfl (Nat.le_of_ble_eq_true rfl) ⟨rfl, Nat.le_of_ble_eq_true rfl⟩ h (fun v s2 h => ?_)
  obtain ⟨r2, rfl, h⟩ := h
  refine cf_R_w rp_206 (rf_bk am_t206 7 2) 15 [(1, .int r1), (0, .ref 22)] [.int r2] s2 (by repeat (first | exact trivial | refine ⟨rfl, ?_⟩)) (by decide +kernel) ?_
  refine cf_R_if (b := am_cnd .ne r2 (Int32.ofInt 2)) (p := 34) (q := 19) (fun hb => ?_) (fun hb => ?_)
  · replace h := h.1 (of_decide_eq_true hb)
    exact cf_R_le (l := [(0, .ref 22)]) rfl rfl (⟨rfl, trivial⟩) (wc_Parser_openDefinition_34_ok h)
  · replace h := h.2 (Decidable.not_not.mp (of_decide_eq_false hb))
    refine cf_R_w rp_206 (rf_bk am_t206 9 5) 19 [(1, .int r1), (0, .ref 22)] [] s2 (by repeat (first | exact trivial | refine ⟨rfl, ?_⟩)) (by decide +kernel) ?_
    refine cf_R_prim (pc := 28) (q := ([.ref 6, .int r1, .int (Int32.ofInt 3)], [])) rp_206 rfl rfl (by decide) (by decide) rp_273 rfl (Nat.le_of_ble_eq_true rfl) ⟨rfl, Nat.le_of_ble_eq_true rfl⟩ (cq_get rfl) ?_
    refine cf_R_w rp_206 (rf_bk am_t206 15 1) 31 [(1, .int r1), (0, .ref 22)] [.int (tb_get s2 6 r1 (Int32.ofInt 3))] s2 (by repeat (first | exact trivial | refine ⟨rfl, ?_⟩)) (by decide +kernel) ?_
    refine cf_R_if (b := am_cnd .eq (tb_get s2 6 r1 (Int32.ofInt 3)) 0) (p := 43) (q := 34) (fun hb => ?_) (fun hb => ?_)
    · replace h := h.1 (of_decide_eq_true hb)
      refine cf_R_w rp_206 (rf_bk am_t206 21 3) 43 [(1, .int r1), (0, .ref 22)] [] s2 (by repeat (first | exact trivial | refine ⟨rfl, ?_⟩)) (by decide +kernel) ?_
      have hr := h.1
      replace h := h.2
      refine cf_R_prim (pc := 50) (q := ([.ref 10], [])) rp_206 rfl rfl (by decide) (by decide) rp_272 rfl (Nat.le_of_ble_eq_true rfl) ⟨rfl, Nat.le_of_ble_eq_true rfl⟩ (cq_tadd rfl hr) ?_
      refine cf_R_w rp_206 (rf_bk am_t206 25 7) 53 [(1, .int r1), (0, .ref 22)] [.int (tb_new s2 10)] (tb_add s2 10) (by repeat (first | exact trivial | refine ⟨rfl, ?_⟩)) (by decide +kernel) ?_
      refine cf_R_prim (pc := 64) (q := ([.ref 6, .int r1, .int (Int32.ofInt 3), .int (tb_new s2 10)], [])) rp_206 rfl rfl (by decide) (by decide) rp_274 rfl (Nat.le_of_ble_eq_true rfl) ⟨rfl, Nat.le_of_ble_eq_true rfl⟩ (cq_set rfl) ?_
      refine cf_R_w rp_206 (rf_bk am_t206 33 2) 67 [(2, .int (tb_new s2 10)), (1, .int r1), (0, .ref 22)] [] (tb_set (tb_add s2 10) 6 r1 (Int32.ofInt 3) (tb_new s2 10)) (by repeat (first | exact trivial | refine ⟨rfl, ?_⟩)) (by decide +kernel) ?_
      refine cf_R_call (pc := 71) (q := ([.ref 23], [])) rp_206 rfl rfl (by decide) (by decide) rp_246 rfl (Nat.le_of_ble_eq_true rfl) ⟨rfl, Nat.le_of_ble_eq_true rfl⟩ h (fun v s3 h => ?_)
      obtain ⟨rfl, h⟩ := h
      refine cf_R_w rp_206 (rf_bk am_t206 36 1) 74 [(2, .int (tb_new s2 10)), (1, .int r1), (0, .ref 22)] [] s3 (by repeat (first | exact trivial | refine ⟨rfl, ?_⟩)) (by decide +kernel) ?_
      exact cf_R_ret (pc := 75) (v := some (.int (tb_new s2 10))) rp_206 rfl rfl rfl ⟨_, rfl, h⟩
    · replace h := h.2 (of_decide_eq_false hb)
      exact cf_R_le (l := [(0, .ref 22)]) rfl rfl (⟨rfl, trivial⟩) (wc_Parser_openDefinition_34_ok h)
/-- LazyHouse$Parser.readExpression (I)I, from 0 on -/
def wc_Parser_readExpression (d : Nat) (x1 : Int32) (s : cf_S) (Q : Int32 → cf_S → Prop) : Prop := cf_I (d + 9) 241 [(0, .ref 23)] s (fun r1 s1 => ((r1 = 5 → cf_I (d + 9) 208 [(0, .ref 22), (1, .int x1)] s1 (fun r2 s2 => Q r2 s2)) ∧ (¬ (r1 = 5) → ((r1 = 7 → cf_I (d + 9) 211 [(0, .ref 22), (1, .int x1)] s1 (fun r3 s3 => Q r3 s3)) ∧ (¬ (r1 = 7) → ((r1 = 92 → cf_I (d + 9) 209 [(0, .ref 22), (1, .int x1)] s1 (fun r4 s4 => Q r4 s4)) ∧ (¬ (r1 = 92) → cf_I (d + 9) 213 [(0, .ref 22), (1, .int x1)] s1 (fun r5 s5 => Q r5 s5))))))))
set_option maxRecDepth 20000 in
theorem wc_Parser_readExpression_ok {d : Nat} {x1 : Int32} {s : cf_S} {Q : Int32 → cf_S → Prop} (h : wc_Parser_readExpression d x1 s Q) : cf_I (d + 10) 207 [(0, .ref 22), (1, .int x1)] s Q := by
  unfold wc_Parser_readExpression at h
  unfold cf_I
  refine cf_R_w rp_207 (rf_bk am_t207 0 2) 0 [(0, .ref 22), (1, .int x1)] [] s (by repeat (first | exact trivial | refine ⟨rfl, ?_⟩)) (by decide +kernel) ?_
  refine cf_R_call (pc := 4) (q := ([.ref 23], [])) rp_207 rfl rfl (by decide) (by decide) rp_241 rfl (Nat.le_of_ble_eq_true rfl) ⟨rfl, Nat.le_of_ble_eq_true rfl⟩ h (fun v s1 h => ?_)
  obtain ⟨r1, rfl, h⟩ := h
  refine cf_R_w rp_207 (rf_bk am_t207 3 1) 7 [(0, .ref 22), (1, .int x1)] [.int r1] s1 (by repeat (first | exact trivial | refine ⟨rfl, ?_⟩)) (by decide +kernel) ?_
  refine cf_R_sw (fun hb => ?_) (fun hb => ?_)
  · replace h := h.1 hb
    refine cf_R_w rp_207 (rf_bk am_t207 4 2) 40 [(0, .ref 22), (1, .int x1)] [] s1 (by repeat (first | exact trivial | refine ⟨rfl, ?_⟩)) (by decide +kernel) ?_
    refine cf_R_call (pc := 42) (q := ([.ref 22, .int x1], [])) rp_207 rfl rfl (by decide) (by decide) rp_208 rfl (Nat.le_of_ble_eq_true rfl) ⟨rfl, Nat.le_of_ble_eq_true rfl⟩ h (fun v s2 h => ?_)
    obtain ⟨r2, rfl, h⟩ := h
    exact cf_R_ret (pc := 45) (v := some (.int r2)) rp_207 rfl rfl rfl ⟨_, rfl, h⟩
  replace h := h.2 hb
  refine cf_R_sw (fun hb => ?_) (fun hb => ?_)
  · replace h := h.1 hb
    refine cf_R_w rp_207 (rf_bk am_t207 12 2) 52 [(0, .ref 22), (1, .int x1)] [] s1 (by repeat (first | exact trivial | refine ⟨rfl, ?_⟩)) (by decide +kernel) ?_
    refine cf_R_call (pc := 54) (q := ([.ref 22, .int x1], [])) rp_207 rfl rfl (by decide) (by decide) rp_211 rfl (Nat.le_of_ble_eq_true rfl) ⟨rfl, Nat.le_of_ble_eq_true rfl⟩ h (fun v s3 h => ?_)
    obtain ⟨r3, rfl, h⟩ := h
    exact cf_R_ret (pc := 57) (v := some (.int r3)) rp_207 rfl rfl rfl ⟨_, rfl, h⟩
  replace h := h.2 hb
  refine cf_R_sw (fun hb => ?_) (fun hb => ?_)
  · replace h := h.1 hb
    refine cf_R_w rp_207 (rf_bk am_t207 8 2) 46 [(0, .ref 22), (1, .int x1)] [] s1 (by repeat (first | exact trivial | refine ⟨rfl, ?_⟩)) (by decide +kernel) ?_
    refine cf_R_call (pc := 48) (q := ([.ref 22, .int x1], [])) rp_207 rfl rfl (by decide) (by decide) rp_209 rfl (Nat.le_of_ble_eq_true rfl) ⟨rfl, Nat.le_of_ble_eq_true rfl⟩ h (fun v s4 h => ?_)
    obtain ⟨r4, rfl, h⟩ := h
    exact cf_R_ret (pc := 51) (v := some (.int r4)) rp_207 rfl rfl rfl ⟨_, rfl, h⟩
  replace h := h.2 hb
  show cf_R (d + 10) 207 (58, _, _, _) _
  refine cf_R_w rp_207 (rf_bk am_t207 16 2) 58 [(0, .ref 22), (1, .int x1)] [] s1 (by repeat (first | exact trivial | refine ⟨rfl, ?_⟩)) (by decide +kernel) ?_
  refine cf_R_call (pc := 60) (q := ([.ref 22, .int x1], [])) rp_207 rfl rfl (by decide) (by decide) rp_213 rfl (Nat.le_of_ble_eq_true rfl) ⟨rfl, Nat.le_of_ble_eq_true rfl⟩ h (fun v s5 h => ?_)
  obtain ⟨r5, rfl, h⟩ := h
  exact cf_R_ret (pc := 63) (v := some (.int r5)) rp_207 rfl rfl rfl ⟨_, rfl, h⟩
