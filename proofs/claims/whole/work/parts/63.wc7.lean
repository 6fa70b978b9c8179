/-! PART 63: the class, decompiled: Parser.readCall, Parser.openCall, Parser.beginsAtom, Parser.readSimple, Parser.addUse, Parser.expect, Parser.mayOpen, Parser.readNames, Parser.declare, Parser.isIn, Parser.openScope, Parser.closeScope, Parser.openNode, Parser.beginWith, Parser.closeNode, Parser.append, Program.load, Program.clear, Program.spelled -/
/-- LazyHouse$Parser.readCall (I)I, from 148 on -/
def wc_Parser_readCall_148 (d : Nat) (x3 : Int32) (x4 : Int32) (s : cf_S) (Q : Int32 → cf_S → Prop) : Prop := ((¬ x4 = 0 → cf_I (d + 9) 229 [(0, .ref 22), (1, .int x4)] s (fun r1 s1 => Q r1 s1)) ∧ (x4 = 0 → Q x3 s))
set_option maxRecDepth 20000 in
theorem wc_Parser_readCall_148_ok {d : Nat} {x3 : Int32} {x4 : Int32} {s : cf_S} {Q : Int32 → cf_S → Prop} (h : wc_Parser_readCall_148 d x3 x4 s Q) : cf_R (d + 10) 215 (148, [(0, .ref 22), (3, .int x3), (4, .int x4)], [], s) (cf_qI Q) := by
  unfold wc_Parser_readCall_148 at h
  refine cf_R_w rp_215 (rf_bk am_t215 76 2) 148 [(0, .ref 22), (3, .int x3), (4, .int x4)] [] s (by repeat (first | exact trivial | refine ⟨rfl, ?_⟩)) (by decide +kernel) ?_
  refine cf_R_if (b := am_cnd .ne x4 0) (p := 157) (q := 153) (fun hb => ?_) (fun hb => ?_)
  · replace h := h.1 (of_decide_eq_true hb)
    refine cf_R_w rp_215 (rf_bk am_t215 80 2) 157 [(0, .ref 22), (3, .int x3), (4, .int x4)] [] s (by repeat (first | exact trivial | refine ⟨rfl, ?_⟩)) (by decide +kernel) ?_
    refine cf_R_call (pc := 160) (q := ([.ref 22, .int x4], [])) rp_215 rfl rfl (by decide) (by decide) rp_229 rfl (Nat.le_of_ble_eq_true rfl) ⟨rfl, Nat.le_of_ble_eq_true rfl⟩ h (fun v s1 h => ?_)
    obtain ⟨r1, rfl, h⟩ := h
    exact cf_R_ret (pc := 163) (v := some (.int r1)) rp_215 rfl rfl rfl ⟨_, rfl, h⟩
  · replace h := h.2 (Decidable.not_not.mp (of_decide_eq_false hb))
    refine cf_R_w rp_215 (rf_bk am_t215 78 2) 153 [(0, .ref 22), (3, .int x3), (4, .int x4)] [] s (by repeat (first | exact trivial | refine ⟨rfl, ?_⟩)) (by decide +kernel) ?_
    exact cf_R_ret (pc := 163) (v := some (.int x3)) rp_215 rfl rfl rfl ⟨_, rfl, h⟩
/-- LazyHouse$Parser.readCall (I)I, from 142 on -/
def wc_Parser_readCall_142 (d : Nat) (x1 : Int32) (x2 : Int32) (x3 : Int32) (x4 : Int32) (x5 : Int32) (x6 : Int32) (s : cf_S) (Q : Int32 → cf_S → Prop) : Prop := cf_R (d + 10) 215 (28, [(0, .ref 22), (1, .int x1), (2, .int x2), (3, .int x3), (4, .int x4), (5, .int x5), (6, .int (x6 + Int32.ofInt 1))], [], s) (cf_qI Q)
set_option maxRecDepth 20000 in
theorem wc_Parser_readCall_142_ok {d : Nat} {x1 : Int32} {x2 : Int32} {x3 : Int32} {x4 : Int32} {x5 : Int32} {x6 : Int32} {s : cf_S} {Q : Int32 → cf_S → Prop} (h : wc_Parser_readCall_142 d x1 x2 x3 x4 x5 x6 s Q) : cf_R (d + 10) 215 (142, [(0, .ref 22), (1, .int x1), (2, .int x2), (3, .int x3), (4, .int x4), (5, .int x5), (6, .int x6)], [], s) (cf_qI Q) := by
  unfold wc_Parser_readCall_142 at h
  refine cf_R_w rp_215 (rf_bk am_t215 74 2) 142 [(0, .ref 22), (1, .int x1), (2, .int x2), (3, .int x3), (4, .int x4), (5, .int x5), (6, .int x6)] [] s (by repeat (first | exact trivial | refine ⟨rfl, ?_⟩)) (by decide +kernel) ?_
  exact cf_R_le (l := [(0, .ref 22), (1, .int x1), (2, .int x2), (3, .int x3), (4, .int x4), (5, .int x5), (6, .int (x6 + Int32.ofInt 1))]) rfl rfl (⟨rfl, rfl, rfl, rfl, rfl, rfl, rfl, trivial⟩) h
/-- LazyHouse$Parser.readCall (I)I, from 128 on -/
def wc_Parser_readCall_128 (d : Nat) (x1 : Int32) (x2 : Int32) (x3 : Int32) (x4 : Int32) (x5 : Int32) (x6 : Int32) (x7 : Int32) (s : cf_S) (Q : Int32 → cf_S → Prop) : Prop := cf_V (d + 9) 230 [(0, .ref 22), (1, .int x4), (2, .int x5), (3, .int x7)] s (fun s1 => wc_Parser_readCall_142 d x1 x2 x3 x4 x7 x6 s1 Q)
set_option maxRecDepth 20000 in
theorem wc_Parser_readCall_128_ok {d : Nat} {x1 : Int32} {x2 : Int32} {x3 : Int32} {x4 : Int32} {x5 : Int32} {x6 : Int32} {x7 : Int32} {s : cf_S} {Q : Int32 → cf_S → Prop} (h : wc_Parser_readCall_128 d x1 x2 x3 x4 x5 x6 x7 s Q) : cf_R (d + 10) 215 (128, [(0, .ref 22), (1, .int x1), (2, .int x2), (3, .int x3), (4, .int x4), (5, .int x5), (6, .int x6), (7, .int x7)], [], s) (cf_qI Q) := by
  unfold wc_Parser_readCall_128 at h
  refine cf_R_w rp_215 (rf_bk am_t215 67 4) 128 [(0, .ref 22), (1, .int x1), (2, .int x2), (3, .int x3), (4, .int x4), (5, .int x5), (6, .int x6), (7, .int x7)] [] s (by repeat (first | exact trivial | refine ⟨rfl, ?_⟩)) (by decide +kernel) ?_
  refine cf_R_call (pc := 135) (q := ([.ref 22, .int x4, .int x5, .int x7], [])) rp_215 rfl rfl (by decide) (by decide) rp_230 rfl (Nat.le_of_ble_eq_true rfl) ⟨rfl, Nat.le_of_ble_eq_true rfl⟩ h (fun v s1 h => ?_)
  obtain ⟨rfl, h⟩ := h
  refine cf_R_w rp_215 (rf_bk am_t215 72 2) 138 [(0, .ref 22), (1, .int x1), (2, .int x2), (3, .int x3), (4, .int x4), (5, .int x5), (6, .int x6), (7, .int x7)] [] s1 (by repeat (first | exact trivial | refine ⟨rfl, ?_⟩)) (by decide +kernel) ?_
  exact cf_R_le (l := [(0, .ref 22), (1, .int x1), (2, .int x2), (3, .int x3), (4, .int x4), (5, .int x7), (6, .int x6)]) rfl rfl (⟨rfl, rfl, rfl, rfl, rfl, rfl, rfl, trivial⟩) (wc_Parser_readCall_142_ok h)
/-- LazyHouse$Parser.readCall (I)I, from 103 on -/
def wc_Parser_readCall_103 (d : Nat) (x1 : Int32) (x2 : Int32) (x3 : Int32) (x4 : Int32) (x5 : Int32) (x6 : Int32) (x7 : Int32) (s : cf_S) (Q : Int32 → cf_S → Prop) : Prop := ((¬ x6 = 0 → ((¬ x6 = (Int32.ofInt 1) → wc_Parser_readCall_128 d x1 x2 x3 x4 x5 x6 x7 s Q) ∧ (x6 = (Int32.ofInt 1) → cf_I (d + 9) 216 [(0, .ref 22), (1, .int x3), (2, .int x2)] s (fun r1 s1 => wc_Parser_readCall_128 d x1 x2 x3 r1 x5 x6 x7 s1 Q)))) ∧ (x6 = 0 → wc_Parser_readCall_142 d x1 x2 x7 x4 x5 x6 s Q))
set_option maxRecDepth 20000 in
theorem wc_Parser_readCall_103_ok {d : Nat} {x1 : Int32} {x2 : Int32} {x3 : Int32} {x4 : Int32} {x5 : Int32} {x6 : Int32} {x7 : Int32} {s : cf_S} {Q : Int32 → cf_S → Prop} (h : wc_Parser_readCall_103 d x1 x2 x3 x4 x5 x6 x7 s Q) : cf_R (d + 10) 215 (103, [(0, .ref 22), (1, .int x1), (2, .int x2), (3, .int x3), (4, .int x4), (5, .int x5), (6, .int x6), (7, .int x7)], [], s) (cf_qI Q) := by
  unfold wc_Parser_readCall_103 at h
  refine cf_R_w rp_215 (rf_bk am_t215 54 2) 103 [(0, .ref 22), (1, .int x1), (2, .int x2), (3, .int x3), (4, .int x4), (5, .int x5), (6, .int x6), (7, .int x7)] [] s (by repeat (first | exact trivial | refine ⟨rfl, ?_⟩)) (by decide +kernel) ?_
  refine cf_R_if (b := am_cnd .ne x6 0) (p := 114) (q := 108) (fun hb => ?_) (fun hb => ?_)
  · replace h := h.1 (of_decide_eq_true hb)
    refine cf_R_w rp_215 (rf_bk am_t215 59 3) 114 [(0, .ref 22), (1, .int x1), (2, .int x2), (3, .int x3), (4, .int x4), (5, .int x5), (6, .int x6), (7, .int x7)] [] s (by repeat (first | exact trivial | refine ⟨rfl, ?_⟩)) (by decide +kernel) ?_
    refine cf_R_if (b := am_cnd .ne x6 (Int32.ofInt 1)) (p := 128) (q := 120) (fun hb => ?_) (fun hb => ?_)
    · replace h := h.1 (of_decide_eq_true hb)
      exact cf_R_le (l := [(0, .ref 22), (1, .int x1), (2, .int x2), (3, .int x3), (4, .int x4), (5, .int x5), (6, .int x6), (7, .int x7)]) rfl rfl (⟨rfl, rfl, rfl, rfl, rfl, rfl, rfl, rfl, trivial⟩) (wc_Parser_readCall_128_ok h)
    · replace h := h.2 (Decidable.not_not.mp (of_decide_eq_false hb))
      refine cf_R_w rp_215 (rf_bk am_t215 62 3) 120 [(0, .ref 22), (1, .int x1), (2, .int x2), (3, .int x3), (4, .int x4), (5, .int x5), (6, .int x6), (7, .int x7)] [] s (by repeat (first | exact trivial | refine ⟨rfl, ?_⟩)) (by decide +kernel) ?_
      refine cf_R_call (pc := 123) (q := ([.ref 22, .int x3, .int x2], [])) rp_215 rfl rfl (by decide) (by decide) rp_216 rfl (Nat.le_of_ble_eq_true rfl) ⟨rfl, Nat.le_of_ble_eq_true rfl⟩ h (fun v s1 h => ?_)
      obtain ⟨r1, rfl, h⟩ := h
      refine cf_R_w rp_215 (rf_bk am_t215 66 1) 126 [(0, .ref 22), (1, .int x1), (2, .int x2), (3, .int x3), (4, .int x4), (5, .int x5), (6, .int x6), (7, .int x7)] [.int r1] s1 (by repeat (first | exact trivial | refine ⟨rfl, ?_⟩)) (by decide +kernel) ?_
      exact cf_R_le (l := [(0, .ref 22), (1, .int x1), (2, .int x2), (3, .int x3), (4, .int r1), (5, .int x5), (6, .int x6), (7, .int x7)]) rfl rfl (⟨rfl, rfl, rfl, rfl, rfl, rfl, rfl, rfl, trivial⟩) (wc_Parser_readCall_128_ok h)
  · replace h := h.2 (Decidable.not_not.mp (of_decide_eq_false hb))
    refine cf_R_w rp_215 (rf_bk am_t215 56 3) 108 [(0, .ref 22), (1, .int x1), (2, .int x2), (3, .int x3), (4, .int x4), (5, .int x5), (6, .int x6), (7, .int x7)] [] s (by repeat (first | exact trivial | refine ⟨rfl, ?_⟩)) (by decide +kernel) ?_
    exact cf_R_le (l := [(0, .ref 22), (1, .int x1), (2, .int x2), (3, .int x7), (4, .int x4), (5, .int x5), (6, .int x6)]) rfl rfl (⟨rfl, rfl, rfl, rfl, rfl, rfl, rfl, trivial⟩) (wc_Parser_readCall_142_ok h)
/-- LazyHouse$Parser.readCall (I)I, from 47 on -/
def wc_Parser_readCall_47 (d : Nat) (x1 : Int32) (x2 : Int32) (x3 : Int32) (x4 : Int32) (x5 : Int32) (x6 : Int32) (s : cf_S) (Q : Int32 → cf_S → Prop) : Prop := cf_I (d + 9) 241 [(0, .ref 23)] s (fun r1 s1 => ((¬ r1 = ((Int8.ofInt 40).toInt32) → cf_I (d + 9) 218 [(0, .ref 22)] s1 (fun r2 s2 => wc_Parser_readCall_103 d x1 x2 x3 x4 x5 x6 r2 s2 Q)) ∧ (r1 = ((Int8.ofInt 40).toInt32) → cf_I (d + 9) 221 [(0, .ref 22), (1, .int x1)] s1 (fun r3 s3 => ((¬ r3 = 0 → cf_V (d + 9) 246 [(0, .ref 23)] s3 (fun s4 => cf_I (d + 9) 207 [(0, .ref 22), (1, .int (x1 + (Int32.ofInt 1)))] s4 (fun r5 s5 => cf_V (d + 9) 220 [(0, .ref 22), (1, .int ((Int8.ofInt 41).toInt32))] s5 (fun s6 => wc_Parser_readCall_103 d x1 x2 x3 x4 x5 x6 r5 s6 Q)))) ∧ (r3 = 0 → Q (Int32.ofInt 0) s3))))))
set_option maxRecDepth 20000 in
theorem wc_Parser_readCall_47_ok {d : Nat} {x1 : Int32} {x2 : Int32} {x3 : Int32} {x4 : Int32} {x5 : Int32} {x6 : Int32} {s : cf_S} {Q : Int32 → cf_S → Prop} (h : wc_Parser_readCall_47 d x1 x2 x3 x4 x5 x6 s Q) : cf_R (d + 10) 215 (47, [(0, .ref 22), (1, .int x1), (2, .int x2), (3, .int x3), (4, .int x4), (5, .int x5), (6, .int x6)], [], s) (cf_qI Q) := by
  unfold wc_Parser_readCall_47 at h
  refine cf_R_w rp_215 (rf_bk am_t215 25 4) 47 [(0, .ref 22), (1, .int x1), (2, .int x2), (3, .int x3), (4, .int x4), (5, .int x5), (6, .int x6)] [] s (by repeat (first | exact trivial | refine ⟨rfl, ?_⟩)) (by decide +kernel) ?_
  refine cf_R_call (pc := 54) (q := ([.ref 23], [])) rp_215 rfl rfl (by decide) (by decide) rp_241 rfl (Nat.le_of_ble_eq_true rfl) ⟨rfl, Nat.le_of_ble_eq_true rfl⟩ h (fun v s1 h => ?_)
  obtain ⟨r1, rfl, h⟩ := h
  refine cf_R_w rp_215 (rf_bk am_t215 30 2) 57 [(7, .int (Int32.ofInt 0)), (0, .ref 22), (1, .int x1), (2, .int x2), (3, .int x3), (4, .int x4), (5, .int x5), (6, .int x6)] [.int r1] s1 (by repeat (first | exact trivial | refine ⟨rfl, ?_⟩)) (by decide +kernel) ?_
  refine cf_R_if (b := am_cnd .ne r1 ((Int8.ofInt 40).toInt32)) (p := 97) (q := 62) (fun hb => ?_) (fun hb => ?_)
  · replace h := h.1 (of_decide_eq_true hb)
    refine cf_R_w rp_215 (rf_bk am_t215 51 1) 97 [(7, .int (Int32.ofInt 0)), (0, .ref 22), (1, .int x1), (2, .int x2), (3, .int x3), (4, .int x4), (5, .int x5), (6, .int x6)] [] s1 (by repeat (first | exact trivial | refine ⟨rfl, ?_⟩)) (by decide +kernel) ?_
    refine cf_R_call (pc := 98) (q := ([.ref 22], [])) rp_215 rfl rfl (by decide) (by decide) rp_218 rfl (Nat.le_of_ble_eq_true rfl) ⟨rfl, Nat.le_of_ble_eq_true rfl⟩ h (fun v s2 h => ?_)
    obtain ⟨r2, rfl, h⟩ := h
    refine cf_R_w rp_215 (rf_bk am_t215 53 1) 101 [(7, .int (Int32.ofInt 0)), (0, .ref 22), (1, .int x1), (2, .int x2), (3, .int x3), (4, .int x4), (5, .int x5), (6, .int x6)] [.int r2] s2 (by repeat (first | exact trivial | refine ⟨rfl, ?_⟩)) (by decide +kernel) ?_
    exact cf_R_le (l := [(0, .ref 22), (1, .int x1), (2, .int x2), (3, .int x3), (4, .int x4), (5, .int x5), (6, .int x6), (7, .int r2)]) rfl rfl (⟨rfl, rfl, rfl, rfl, rfl, rfl, rfl, rfl, trivial⟩) (wc_Parser_readCall_103_ok h)
  · replace h := h.2 (Decidable.not_not.mp (of_decide_eq_false hb))
    refine cf_R_w rp_215 (rf_bk am_t215 32 2) 62 [(7, .int (Int32.ofInt 0)), (0, .ref 22), (1, .int x1), (2, .int x2), (3, .int x3), (4, .int x4), (5, .int x5), (6, .int x6)] [] s1 (by repeat (first | exact trivial | refine ⟨rfl, ?_⟩)) (by decide +kernel) ?_
    refine cf_R_call (pc := 64) (q := ([.ref 22, .int x1], [])) rp_215 rfl rfl (by decide) (by decide) rp_221 rfl (Nat.le_of_ble_eq_true rfl) ⟨rfl, Nat.le_of_ble_eq_true rfl⟩ h (fun v s3 h => ?_)
    obtain ⟨r3, rfl, h⟩ := h
    refine cf_R_w rp_215 (rf_bk am_t215 35 1) 67 [(7, .int (Int32.ofInt 0)), (0, .ref 22), (1, .int x1), (2, .int x2), (3, .int x3), (4, .int x4), (5, .int x5), (6, .int x6)] [.int r3] s3 (by repeat (first | exact trivial | refine ⟨rfl, ?_⟩)) (by decide +kernel) ?_
    refine cf_R_if (b := am_cnd .ne r3 0) (p := 72) (q := 70) (fun hb => ?_) (fun hb => ?_)
    · replace h := h.1 (of_decide_eq_true hb)
      refine cf_R_w rp_215 (rf_bk am_t215 38 2) 72 [(7, .int (Int32.ofInt 0)), (0, .ref 22), (1, .int x1), (2, .int x2), (3, .int x3), (4, .int x4), (5, .int x5), (6, .int x6)] [] s3 (by repeat (first | exact trivial | refine ⟨rfl, ?_⟩)) (by decide +kernel) ?_
      refine cf_R_call (pc := 76) (q := ([.ref 23], [])) rp_215 rfl rfl (by decide) (by decide) rp_246 rfl (Nat.le_of_ble_eq_true rfl) ⟨rfl, Nat.le_of_ble_eq_true rfl⟩ h (fun v s4 h => ?_)
      obtain ⟨rfl, h⟩ := h
      refine cf_R_w rp_215 (rf_bk am_t215 41 4) 79 [(7, .int (Int32.ofInt 0)), (0, .ref 22), (1, .int x1), (2, .int x2), (3, .int x3), (4, .int x4), (5, .int x5), (6, .int x6)] [] s4 (by repeat (first | exact trivial | refine ⟨rfl, ?_⟩)) (by decide +kernel) ?_
      refine cf_R_call (pc := 83) (q := ([.ref 22, .int (x1 + (Int32.ofInt 1))], [])) rp_215 rfl rfl (by decide) (by decide) rp_207 rfl (Nat.le_of_ble_eq_true rfl) ⟨rfl, Nat.le_of_ble_eq_true rfl⟩ h (fun v s5 h => ?_)
      obtain ⟨r5, rfl, h⟩ := h
      refine cf_R_w rp_215 (rf_bk am_t215 46 3) 86 [(7, .int (Int32.ofInt 0)), (0, .ref 22), (1, .int x1), (2, .int x2), (3, .int x3), (4, .int x4), (5, .int x5), (6, .int x6)] [.int r5] s5 (by repeat (first | exact trivial | refine ⟨rfl, ?_⟩)) (by decide +kernel) ?_
      refine cf_R_call (pc := 91) (q := ([.ref 22, .int ((Int8.ofInt 41).toInt32)], [])) rp_215 rfl rfl (by decide) (by decide) rp_220 rfl (Nat.le_of_ble_eq_true rfl) ⟨rfl, Nat.le_of_ble_eq_true rfl⟩ h (fun v s6 h => ?_)
      obtain ⟨rfl, h⟩ := h
      refine cf_R_w rp_215 (rf_bk am_t215 50 1) 94 [(7, .int r5), (0, .ref 22), (1, .int x1), (2, .int x2), (3, .int x3), (4, .int x4), (5, .int x5), (6, .int x6)] [] s6 (by repeat (first | exact trivial | refine ⟨rfl, ?_⟩)) (by decide +kernel) ?_
      exact cf_R_le (l := [(0, .ref 22), (1, .int x1), (2, .int x2), (3, .int x3), (4, .int x4), (5, .int x5), (6, .int x6), (7, .int r5)]) rfl rfl (⟨rfl, rfl, rfl, rfl, rfl, rfl, rfl, rfl, trivial⟩) (wc_Parser_readCall_103_ok h)
    · replace h := h.2 (Decidable.not_not.mp (of_decide_eq_false hb))
      refine cf_R_w rp_215 (rf_bk am_t215 36 1) 70 [(7, .int (Int32.ofInt 0)), (0, .ref 22), (1, .int x1), (2, .int x2), (3, .int x3), (4, .int x4), (5, .int x5), (6, .int x6)] [] s3 (by repeat (first | exact trivial | refine ⟨rfl, ?_⟩)) (by decide +kernel) ?_
      exact cf_R_ret (pc := 71) (v := some (.int (Int32.ofInt 0))) rp_215 rfl rfl rfl ⟨_, rfl, h⟩
/-- LazyHouse$Parser.readCall (I)I, from 28 on -/
def wc_Parser_readCall_28 (d : Nat) (x1 : Int32) (x2 : Int32) (x3 : Int32) (x4 : Int32) (x5 : Int32) (x6 : Int32) (s : cf_S) (Q : Int32 → cf_S → Prop) : Prop := (((Int32.ofNat 1000000) ≤ x6 → wc_Parser_readCall_148 d x3 x4 s Q) ∧ (¬ ((Int32.ofNat 1000000) ≤ x6) → ((x6 = 0 → wc_Parser_readCall_47 d x1 x2 x3 x4 x5 x6 s Q) ∧ (¬ (x6 = 0) → cf_I (d + 9) 217 [(0, .ref 22)] s (fun r1 s1 => ((r1 = 0 → wc_Parser_readCall_148 d x3 x4 s1 Q) ∧ (¬ (r1 = 0) → wc_Parser_readCall_47 d x1 x2 x3 x4 x5 x6 s1 Q)))))))
set_option maxRecDepth 20000 in
theorem wc_Parser_readCall_28_ok {d : Nat} {x1 : Int32} {x2 : Int32} {x3 : Int32} {x4 : Int32} {x5 : Int32} {x6 : Int32} {s : cf_S} {Q : Int32 → cf_S → Prop} (h : wc_Parser_readCall_28 d x1 x2 x3 x4 x5 x6 s Q) : cf_R (d + 10) 215 (28, [(0, .ref 22), (1, .int x1), (2, .int x2), (3, .int x3), (4, .int x4), (5, .int x5), (6, .int x6)], [], s) (cf_qI Q) := by
  unfold wc_Parser_readCall_28 at h
  refine cf_R_w rp_215 (rf_bk am_t215 17 3) 28 [(0, .ref 22), (1, .int x1), (2, .int x2), (3, .int x3), (4, .int x4), (5, .int x5), (6, .int x6)] [] s (by repeat (first | exact trivial | refine ⟨rfl, ?_⟩)) (by decide +kernel) ?_
  refine cf_R_if (b := am_cnd .ge x6 (Int32.ofNat 1000000)) (p := 148) (q := 35) (fun hb => ?_) (fun hb => ?_)
  · replace h := h.1 (of_decide_eq_true hb)
    exact cf_R_le (l := [(0, .ref 22), (3, .int x3), (4, .int x4)]) rfl rfl (⟨rfl, rfl, rfl, trivial⟩) (wc_Parser_readCall_148_ok h)
  · replace h := h.2 (of_decide_eq_false hb)
    refine cf_R_w rp_215 (rf_bk am_t215 20 2) 35 [(0, .ref 22), (1, .int x1), (2, .int x2), (3, .int x3), (4, .int x4), (5, .int x5), (6, .int x6)] [] s (by repeat (first | exact trivial | refine ⟨rfl, ?_⟩)) (by decide +kernel) ?_
    refine cf_R_if (b := am_cnd .eq x6 0) (p := 47) (q := 40) (fun hb => ?_) (fun hb => ?_)
    · replace h := h.1 (of_decide_eq_true hb)
      exact cf_R_le (l := [(0, .ref 22), (1, .int x1), (2, .int x2), (3, .int x3), (4, .int x4), (5, .int x5), (6, .int x6)]) rfl rfl (⟨rfl, rfl, rfl, rfl, rfl, rfl, rfl, trivial⟩) (wc_Parser_readCall_47_ok h)
    · replace h := h.2 (of_decide_eq_false hb)
      refine cf_R_w rp_215 (rf_bk am_t215 22 1) 40 [(0, .ref 22), (1, .int x1), (2, .int x2), (3, .int x3), (4, .int x4), (5, .int x5), (6, .int x6)] [] s (by repeat (first | exact trivial | refine ⟨rfl, ?_⟩)) (by decide +kernel) ?_
      refine cf_R_call (pc := 41) (q := ([.ref 22], [])) rp_215 rfl rfl (by decide) (by decide) rp_217 rfl (Nat.le_of_ble_eq_true rfl) ⟨rfl, Nat.le_of_ble_eq_true rfl⟩ h (fun v s1 h => ?_)
      obtain ⟨r1, rfl, h⟩ := h
      refine cf_R_w rp_215 (rf_bk am_t215 24 1) 44 [(0, .ref 22), (1, .int x1), (2, .int x2), (3, .int x3), (4, .int x4), (5, .int x5), (6, .int x6)] [.int r1] s1 (by repeat (first | exact trivial | refine ⟨rfl, ?_⟩)) (by decide +kernel) ?_
      refine cf_R_if (b := am_cnd .eq r1 0) (p := 148) (q := 47) (fun hb => ?_) (fun hb => ?_)
      · replace h := h.1 (of_decide_eq_true hb)
        exact cf_R_le (l := [(0, .ref 22), (3, .int x3), (4, .int x4)]) rfl rfl (⟨rfl, rfl, rfl, trivial⟩) (wc_Parser_readCall_148_ok h)
      · replace h := h.2 (of_decide_eq_false hb)
        exact cf_R_le (l := [(0, .ref 22), (1, .int x1), (2, .int x2), (3, .int x3), (4, .int x4), (5, .int x5), (6, .int x6)]) rfl rfl (⟨rfl, rfl, rfl, rfl, rfl, rfl, rfl, trivial⟩) (wc_Parser_readCall_47_ok h)
/-- LazyHouse$Parser.readCall (I)I, from 16 on -/
def wc_Parser_readCall_16 (d : Nat) (x1 : Int32) (y0 : Int32) (s : cf_S) (Q : Int32 → cf_S → Prop) : Prop := cf_R (d + 10) 215 (28, [(0, .ref 22), (1, .int x1), (2, .int y0), (3, .int (Int32.ofInt 0)), (4, .int (Int32.ofInt 0)), (5, .int (Int32.ofInt 0)), (6, .int (Int32.ofInt 0))], [], s) (cf_qI Q)
set_option maxRecDepth 20000 in
theorem wc_Parser_readCall_16_ok {d : Nat} {x1 : Int32} {y0 : Int32} {s : cf_S} {Q : Int32 → cf_S → Prop} (h : wc_Parser_readCall_16 d x1 y0 s Q) : cf_R (d + 10) 215 (16, [(0, .ref 22), (1, .int x1)], [.int y0], s) (cf_qI Q) := by
  unfold wc_Parser_readCall_16 at h
  refine cf_R_w rp_215 (rf_bk am_t215 8 9) 16 [(0, .ref 22), (1, .int x1)] [.int y0] s (by repeat (first | exact trivial | refine ⟨rfl, ?_⟩)) (by decide +kernel) ?_
  exact cf_R_le (l := [(0, .ref 22), (1, .int x1), (2, .int y0), (3, .int (Int32.ofInt 0)), (4, .int (Int32.ofInt 0)), (5, .int (Int32.ofInt 0)), (6, .int (Int32.ofInt 0))]) rfl rfl (⟨rfl, rfl, rfl, rfl, rfl, rfl, rfl, trivial⟩) h
/-- LazyHouse$Parser.readCall (I)I, from 0 on -/
def wc_Parser_readCall (d : Nat) (x1 : Int32) (s : cf_S) (Q : Int32 → cf_S → Prop) : Prop := cf_I (d + 9) 241 [(0, .ref 23)] s (fun r1 s1 => ((¬ r1 = (Int32.ofInt 3) → wc_Parser_readCall_16 d x1 (Int32.ofInt 0) s1 Q) ∧ (r1 = (Int32.ofInt 3) → wc_Parser_readCall_16 d x1 (Int32.ofInt 1) s1 Q)))
set_option maxRecDepth 20000 in
theorem wc_Parser_readCall_ok {d : Nat} {x1 : Int32} {s : cf_S} {Q : Int32 → cf_S → Prop} (h : wc_Parser_readCall d x1 s Q) : cf_I (d + 10) 215 [(0, .ref 22), (1, .int x1)] s Q := by
  unfold wc_Parser_readCall at h
  unfold cf_I
  refine cf_R_w rp_215 (rf_bk am_t215 0 2) 0 [(0, .ref 22), (1, .int x1)] [] s (by repeat (first | exact trivial | refine ⟨rfl, ?_⟩)) (by decide +kernel) ?_
  refine cf_R_call (pc := 4) (q := ([.ref 23], [])) rp_215 rfl rfl (by decide) (by decide) rp_241 rfl (Nat.le_of_ble_eq_true rfl) ⟨rfl, Nat.le_of_ble_eq_true rfl⟩ h (fun v s1 h => ?_)
  obtain ⟨r1, rfl, h⟩ := h
  refine cf_R_w rp_215 (rf_bk am_t215 3 2) 7 [(0, .ref 22), (1, .int x1)] [.int r1] s1 (by repeat (first | exact trivial | refine ⟨rfl, ?_⟩)) (by decide +kernel) ?_
  refine cf_R_if (b := am_cnd .ne r1 (Int32.ofInt 3)) (p := 15) (q := 11) (fun hb => ?_) (fun hb => ?_)
  · replace h := h.1 (of_decide_eq_true hb)
    refine cf_R_w rp_215 (rf_bk am_t215 7 1) 15 [(0, .ref 22), (1, .int x1)] [] s1 (by repeat (first | exact trivial | refine ⟨rfl, ?_⟩)) (by decide +kernel) ?_
    exact cf_R_le (l := [(0, .ref 22), (1, .int x1)]) rfl rfl (⟨rfl, rfl, trivial⟩) (wc_Parser_readCall_16_ok h)
  · replace h := h.2 (Decidable.not_not.mp (of_decide_eq_false hb))
    refine cf_R_w rp_215 (rf_bk am_t215 5 2) 11 [(0, .ref 22), (1, .int x1)] [] s1 (by repeat (first | exact trivial | refine ⟨rfl, ?_⟩)) (by decide +kernel) ?_
    exact cf_R_le (l := [(0, .ref 22), (1, .int x1)]) rfl rfl (⟨rfl, rfl, trivial⟩) (wc_Parser_readCall_16_ok h)
/-- LazyHouse$Parser.openCall (IZ)I, from 12 on -/
def wc_Parser_openCall_12 (d : Nat) (x1 : Int32) (x2 : Int32) (y0 : Int32) (s : cf_S) (Q : Int32 → cf_S → Prop) : Prop := cf_I (d + 9) 227 [(0, .ref 22), (1, .int y0)] s (fun r1 s1 => cf_V (d + 9) 228 [(0, .ref 22), (1, .int r1), (2, .int x1)] s1 (fun s2 => ((x2 = 0 → Q r1 (tb_set s2 18 r1 (Int32.ofInt 2) x1)) ∧ (¬ (x2 = 0) → Q r1 (tb_set s2 18 r1 (Int32.ofInt 1) (tb_get s2 18 x1 (Int32.ofInt 1)))))))
set_option maxRecDepth 20000 in
theorem wc_Parser_openCall_12_ok {d : Nat} {x1 : Int32} {x2 : Int32} {y0 : Int32} {s : cf_S} {Q : Int32 → cf_S → Prop} (h : wc_Parser_openCall_12 d x1 x2 y0 s Q) : cf_R (d + 10) 216 (12, [(0, .ref 22), (1, .int x1), (2, .int x2)], [.int y0, .ref 22], s) (cf_qI Q) := by
  unfold wc_Parser_openCall_12 at h
  refine cf_R_call (pc := 12) (q := ([.ref 22, .int y0], [])) rp_216 rfl rfl (by decide) (by decide) rp_227 rfl (Nat.le_of_ble_eq_true rfl) ⟨rfl, Nat.le_of_ble_eq_true rfl⟩ h (fun v s1 h => ?_)
  obtain ⟨r1, rfl, h⟩ := h
  refine cf_R_w rp_216 (rf_bk am_t216 7 4) 15 [(0, .ref 22), (1, .int x1), (2, .int x2)] [.int r1] s1 (by repeat (first | exact trivial | refine ⟨rfl, ?_⟩)) (by decide +kernel) ?_
  refine cf_R_call (pc := 19) (q := ([.ref 22, .int r1, .int x1], [])) rp_216 rfl rfl (by decide) (by decide) rp_228 rfl (Nat.le_of_ble_eq_true rfl) ⟨rfl, Nat.le_of_ble_eq_true rfl⟩ h (fun v s2 h => ?_)
  obtain ⟨rfl, h⟩ := h
  refine cf_R_w rp_216 (rf_bk am_t216 12 2) 22 [(3, .int r1), (0, .ref 22), (1, .int x1), (2, .int x2)] [] s2 (by repeat (first | exact trivial | refine ⟨rfl, ?_⟩)) (by decide +kernel) ?_
  refine cf_R_if (b := am_cnd .eq x2 0) (p := 47) (q := 26) (fun hb => ?_) (fun hb => ?_)
  · replace h := h.1 (of_decide_eq_true hb)
    refine cf_R_w rp_216 (rf_bk am_t216 25 5) 47 [(3, .int r1), (0, .ref 22), (1, .int x1), (2, .int x2)] [] s2 (by repeat (first | exact trivial | refine ⟨rfl, ?_⟩)) (by decide +kernel) ?_
    refine cf_R_prim (pc := 54) (q := ([.ref 18, .int r1, .int (Int32.ofInt 2), .int x1], [])) rp_216 rfl rfl (by decide) (by decide) rp_274 rfl (Nat.le_of_ble_eq_true rfl) ⟨rfl, Nat.le_of_ble_eq_true rfl⟩ (cq_set rfl) ?_
    refine cf_R_w rp_216 (rf_bk am_t216 31 1) 57 [(3, .int r1), (0, .ref 22), (1, .int x1), (2, .int x2)] [] (tb_set s2 18 r1 (Int32.ofInt 2) x1) (by repeat (first | exact trivial | refine ⟨rfl, ?_⟩)) (by decide +kernel) ?_
    exact cf_R_ret (pc := 58) (v := some (.int r1)) rp_216 rfl rfl rfl ⟨_, rfl, h⟩
  · replace h := h.2 (of_decide_eq_false hb)
    refine cf_R_w rp_216 (rf_bk am_t216 14 8) 26 [(3, .int r1), (0, .ref 22), (1, .int x1), (2, .int x2)] [] s2 (by repeat (first | exact trivial | refine ⟨rfl, ?_⟩)) (by decide +kernel) ?_
    refine cf_R_prim (pc := 38) (q := ([.ref 18, .int x1, .int (Int32.ofInt 1)], [.int (Int32.ofInt 1), .int r1, .ref 18])) rp_216 rfl rfl (by decide) (by decide) rp_273 rfl (Nat.le_of_ble_eq_true rfl) ⟨rfl, Nat.le_of_ble_eq_true rfl⟩ (cq_get rfl) ?_
    refine cf_R_prim (pc := 41) (q := ([.ref 18, .int r1, .int (Int32.ofInt 1), .int (tb_get s2 18 x1 (Int32.ofInt 1))], [])) rp_216 rfl rfl (by decide) (by decide) rp_274 rfl (Nat.le_of_ble_eq_true rfl) ⟨rfl, Nat.le_of_ble_eq_true rfl⟩ (cq_set rfl) ?_
    refine cf_R_w rp_216 (rf_bk am_t216 24 1) 44 [(3, .int r1), (0, .ref 22), (1, .int x1), (2, .int x2)] [] (tb_set s2 18 r1 (Int32.ofInt 1) (tb_get s2 18 x1 (Int32.ofInt 1))) (by repeat (first | exact trivial | refine ⟨rfl, ?_⟩)) (by decide +kernel) ?_
    refine cf_R_w rp_216 (rf_bk am_t216 31 1) 57 [(3, .int r1), (0, .ref 22), (1, .int x1), (2, .int x2)] [] (tb_set s2 18 r1 (Int32.ofInt 1) (tb_get s2 18 x1 (Int32.ofInt 1))) (by repeat (first | exact trivial | refine ⟨rfl, ?_⟩)) (by decide +kernel) ?_
    exact cf_R_ret (pc := 58) (v := some (.int r1)) rp_216 rfl rfl rfl ⟨_, rfl, h⟩
/-- LazyHouse$Parser.openCall (IZ)I, from 0 on -/
def wc_Parser_openCall (d : Nat) (x1 : Int32) (x2 : Int32) (s : cf_S) (Q : Int32 → cf_S → Prop) : Prop := ((x2 = 0 → wc_Parser_openCall_12 d x1 x2 ((Int8.ofInt 8).toInt32) s Q) ∧ (¬ (x2 = 0) → wc_Parser_openCall_12 d x1 x2 ((Int8.ofInt 6).toInt32) s Q))
set_option maxRecDepth 20000 in
theorem wc_Parser_openCall_ok {d : Nat} {x1 : Int32} {x2 : Int32} {s : cf_S} {Q : Int32 → cf_S → Prop} (h : wc_Parser_openCall d x1 x2 s Q) : cf_I (d + 10) 216 [(0, .ref 22), (1, .int x1), (2, .int x2)] s Q := by
  unfold wc_Parser_openCall at h
  unfold cf_I
  refine cf_R_w rp_216 (rf_bk am_t216 0 3) 0 [(0, .ref 22), (1, .int x1), (2, .int x2)] [] s (by repeat (first | exact trivial | refine ⟨rfl, ?_⟩)) (by decide +kernel) ?_
  refine cf_R_if (b := am_cnd .eq x2 0) (p := 10) (q := 5) (fun hb => ?_) (fun hb => ?_)
  · replace h := h.1 (of_decide_eq_true hb)
    refine cf_R_w rp_216 (rf_bk am_t216 5 1) 10 [(0, .ref 22), (1, .int x1), (2, .int x2)] [.ref 22] s (by repeat (first | exact trivial | refine ⟨rfl, ?_⟩)) (by decide +kernel) ?_
    exact cf_R_le (l := [(0, .ref 22), (1, .int x1), (2, .int x2)]) rfl rfl (⟨rfl, rfl, rfl, trivial⟩) (wc_Parser_openCall_12_ok h)
  · replace h := h.2 (of_decide_eq_false hb)
    refine cf_R_w rp_216 (rf_bk am_t216 3 2) 5 [(0, .ref 22), (1, .int x1), (2, .int x2)] [.ref 22] s (by repeat (first | exact trivial | refine ⟨rfl, ?_⟩)) (by decide +kernel) ?_
    exact cf_R_le (l := [(0, .ref 22), (1, .int x1), (2, .int x2)]) rfl rfl (⟨rfl, rfl, rfl, trivial⟩) (wc_Parser_openCall_12_ok h)
/-- LazyHouse$Parser.beginsAtom ()Z, from 0 on -/
def wc_Parser_beginsAtom (d : Nat) (s : cf_S) (Q : Int32 → cf_S → Prop) : Prop := cf_I (d + 9) 241 [(0, .ref 23)] s (fun r1 s1 => ((r1 = 2 → Q (Int32.ofInt 1) s1) ∧ (¬ (r1 = 2) → ((r1 = 3 → Q (Int32.ofInt 1) s1) ∧ (¬ (r1 = 3) → ((r1 = 4 → Q (Int32.ofInt 1) s1) ∧ (¬ (r1 = 4) → ((r1 = 40 → Q (Int32.ofInt 1) s1) ∧ (¬ (r1 = 40) → Q (Int32.ofInt 0) s1)))))))))
set_option maxRecDepth 20000 in
theorem wc_Parser_beginsAtom_ok {d : Nat} {s : cf_S} {Q : Int32 → cf_S → Prop} (h : wc_Parser_beginsAtom d s Q) : cf_I (d + 10) 217 [(0, .ref 22)] s Q := by
  unfold wc_Parser_beginsAtom at h
  unfold cf_I
  refine cf_R_w rp_217 (rf_bk am_t217 0 2) 0 [(0, .ref 22)] [] s (by repeat (first | exact trivial | refine ⟨rfl, ?_⟩)) (by decide +kernel) ?_
  refine cf_R_call (pc := 4) (q := ([.ref 23], [])) rp_217 rfl rfl (by decide) (by decide) rp_241 rfl (Nat.le_of_ble_eq_true rfl) ⟨rfl, Nat.le_of_ble_eq_true rfl⟩ h (fun v s1 h => ?_)
  obtain ⟨r1, rfl, h⟩ := h
  refine cf_R_w rp_217 (rf_bk am_t217 3 1) 7 [(0, .ref 22)] [.int r1] s1 (by repeat (first | exact trivial | refine ⟨rfl, ?_⟩)) (by decide +kernel) ?_
  refine cf_R_sw (fun hb => ?_) (fun hb => ?_)
  · replace h := h.1 hb
    refine cf_R_w rp_217 (rf_bk am_t217 4 1) 48 [(0, .ref 22)] [] s1 (by repeat (first | exact trivial | refine ⟨rfl, ?_⟩)) (by decide +kernel) ?_
    exact cf_R_ret (pc := 49) (v := some (.int (Int32.ofInt 1))) rp_217 rfl rfl rfl ⟨_, rfl, h⟩
  replace h := h.2 hb
  refine cf_R_sw (fun hb => ?_) (fun hb => ?_)
  · replace h := h.1 hb
    refine cf_R_w rp_217 (rf_bk am_t217 4 1) 48 [(0, .ref 22)] [] s1 (by repeat (first | exact trivial | refine ⟨rfl, ?_⟩)) (by decide +kernel) ?_
    exact cf_R_ret (pc := 49) (v := some (.int (Int32.ofInt 1))) rp_217 rfl rfl rfl ⟨_, rfl, h⟩
  replace h := h.2 hb
  refine cf_R_sw (fun hb => ?_) (fun hb => ?_)
  · replace h := h.1 hb
    refine cf_R_w rp_217 (rf_bk am_t217 4 1) 48 [(0, .ref 22)] [] s1 (by repeat (first | exact trivial | refine ⟨rfl, ?_⟩)) (by decide +kernel) ?_
    exact cf_R_ret (pc := 49) (v := some (.int (Int32.ofInt 1))) rp_217 rfl rfl rfl ⟨_, rfl, h⟩
  replace h := h.2 hb
  refine cf_R_sw (fun hb => ?_) (fun hb => ?_)
  · replace h := h.1 hb
    refine cf_R_w rp_217 (rf_bk am_t217 4 1) 48 [(0, .ref 22)] [] s1 (by repeat (first | exact trivial | refine ⟨rfl, ?_⟩)) (by decide +kernel) ?_
    exact cf_R_ret (pc := 49) (v := some (.int (Int32.ofInt 1))) rp_217 rfl rfl rfl ⟨_, rfl, h⟩
  replace h := h.2 hb
  show cf_R (d + 10) 217 (50, _, _, _) _
  refine cf_R_w rp_217 (rf_bk am_t217 6 1) 50 [(0, .ref 22)] [] s1 (by repeat (first | exact trivial | refine ⟨rfl, ?_⟩)) (by decide +kernel) ?_
  exact cf_R_ret (pc := 51) (v := some (.int (Int32.ofInt 0))) rp_217 rfl rfl rfl ⟨_, rfl, h⟩
/-- LazyHouse$Parser.readSimple ()I, from 115 on -/
def wc_Parser_readSimple_115 (d : Nat) (x1 : Int32) (s : cf_S) (Q : Int32 → cf_S → Prop) : Prop := cf_V (d + 9) 246 [(0, .ref 23)] s (fun s1 => cf_I (d + 9) 229 [(0, .ref 22), (1, .int x1)] s1 (fun r2 s2 => Q r2 s2))
set_option maxRecDepth 20000 in
theorem wc_Parser_readSimple_115_ok {d : Nat} {x1 : Int32} {s : cf_S} {Q : Int32 → cf_S → Prop} (h : wc_Parser_readSimple_115 d x1 s Q) : cf_R (d + 10) 218 (115, [(0, .ref 22), (1, .int x1)], [], s) (cf_qI Q) := by
  unfold wc_Parser_readSimple_115 at h
  refine cf_R_w rp_218 (rf_bk am_t218 47 2) 115 [(0, .ref 22), (1, .int x1)] [] s (by repeat (first | exact trivial | refine ⟨rfl, ?_⟩)) (by decide +kernel) ?_
  refine cf_R_call (pc := 119) (q := ([.ref 23], [])) rp_218 rfl rfl (by decide) (by decide) rp_246 rfl (Nat.le_of_ble_eq_true rfl) ⟨rfl, Nat.le_of_ble_eq_true rfl⟩ h (fun v s1 h => ?_)
  obtain ⟨rfl, h⟩ := h
  refine cf_R_w rp_218 (rf_bk am_t218 50 2) 122 [(0, .ref 22), (1, .int x1)] [] s1 (by repeat (first | exact trivial | refine ⟨rfl, ?_⟩)) (by decide +kernel) ?_
  refine cf_R_call (pc := 124) (q := ([.ref 22, .int x1], [])) rp_218 rfl rfl (by decide) (by decide) rp_229 rfl (Nat.le_of_ble_eq_true rfl) ⟨rfl, Nat.le_of_ble_eq_true rfl⟩ h (fun v s2 h => ?_)
  obtain ⟨r2, rfl, h⟩ := h
  exact cf_R_ret (pc := 127) (v := some (.int r2)) rp_218 rfl rfl rfl ⟨_, rfl, h⟩
/-- LazyHouse$Parser.readSimple ()I, from 0 on -/
def wc_Parser_readSimple (d : Nat) (s : cf_S) (Q : Int32 → cf_S → Prop) : Prop := cf_I (d + 9) 227 [(0, .ref 22), (1, .int (Int32.ofInt 4))] s (fun r1 s1 => cf_I (d + 9) 241 [(0, .ref 23)] s1 (fun r2 s2 => ((r2 = 2 → cf_V (d + 9) 219 [(0, .ref 22), (1, .int r1)] (tb_set s2 18 r1 (Int32.ofInt 0) (Int32.ofInt 1)) (fun s3 => wc_Parser_readSimple_115 d r1 s3 Q)) ∧ (¬ (r2 = 2) → ((r2 = 3 → cf_I (d + 9) 243 [(0, .ref 23)] (tb_set s2 18 r1 (Int32.ofInt 0) (Int32.ofInt 5)) (fun r4 s4 => wc_Parser_readSimple_115 d r1 (tb_set s4 18 r1 (Int32.ofInt 1) r4) Q)) ∧ (¬ (r2 = 3) → ((r2 = 4 → cf_I (d + 9) 243 [(0, .ref 23)] s2 (fun r5 s5 => wc_Parser_readSimple_115 d r1 (tb_set s5 18 r1 (Int32.ofInt 1) r5) Q)) ∧ (¬ (r2 = 4) → cf_V (d + 9) 245 [(0, .ref 23)] s2 (fun s6 => Q (Int32.ofInt 0) s6)))))))))
set_option maxRecDepth 20000 in
theorem wc_Parser_readSimple_ok {d : Nat} {s : cf_S} {Q : Int32 → cf_S → Prop} (h : wc_Parser_readSimple d s Q) : cf_I (d + 10) 218 [(0, .ref 22)] s Q := by
  unfold wc_Parser_readSimple at h
  unfold cf_I
  refine cf_R_w rp_218 (rf_bk am_t218 0 2) 0 [(0, .ref 22)] [] s (by repeat (first | exact trivial | refine ⟨rfl, ?_⟩)) (by decide +kernel) ?_
  refine cf_R_call (pc := 2) (q := ([.ref 22, .int (Int32.ofInt 4)], [])) rp_218 rfl rfl (by decide) (by decide) rp_227 rfl (Nat.le_of_ble_eq_true rfl) ⟨rfl, Nat.le_of_ble_eq_true rfl⟩ h (fun v s1 h => ?_)
  obtain ⟨r1, rfl, h⟩ := h
  refine cf_R_w rp_218 (rf_bk am_t218 3 3) 5 [(0, .ref 22)] [.int r1] s1 (by repeat (first | exact trivial | refine ⟨rfl, ?_⟩)) (by decide +kernel) ?_
  refine cf_R_call (pc := 10) (q := ([.ref 23], [])) rp_218 rfl rfl (by decide) (by decide) rp_241 rfl (Nat.le_of_ble_eq_true rfl) ⟨rfl, Nat.le_of_ble_eq_true rfl⟩ h (fun v s2 h => ?_)
  obtain ⟨r2, rfl, h⟩ := h
  refine cf_R_w rp_218 (rf_bk am_t218 7 1) 13 [(1, .int r1), (0, .ref 22)] [.int r2] s2 (by repeat (first | exact trivial | refine ⟨rfl, ?_⟩)) (by decide +kernel) ?_
  refine cf_R_sw (fun hb => ?_) (fun hb => ?_)
  · replace h := h.1 hb
    refine cf_R_w rp_218 (rf_bk am_t218 32 5) 88 [(1, .int r1), (0, .ref 22)] [] s2 (by repeat (first | exact trivial | refine ⟨rfl, ?_⟩)) (by decide +kernel) ?_
    refine cf_R_prim (pc := 95) (q := ([.ref 18, .int r1, .int (Int32.ofInt 0), .int (Int32.ofInt 1)], [])) rp_218 rfl rfl (by decide) (by decide) rp_274 rfl (Nat.le_of_ble_eq_true rfl) ⟨rfl, Nat.le_of_ble_eq_true rfl⟩ (cq_set rfl) ?_
    refine cf_R_w rp_218 (rf_bk am_t218 38 2) 98 [(1, .int r1), (0, .ref 22)] [] (tb_set s2 18 r1 (Int32.ofInt 0) (Int32.ofInt 1)) (by repeat (first | exact trivial | refine ⟨rfl, ?_⟩)) (by decide +kernel) ?_
    refine cf_R_call (pc := 100) (q := ([.ref 22, .int r1], [])) rp_218 rfl rfl (by decide) (by decide) rp_219 rfl (Nat.le_of_ble_eq_true rfl) ⟨rfl, Nat.le_of_ble_eq_true rfl⟩ h (fun v s3 h => ?_)
    obtain ⟨rfl, h⟩ := h
    refine cf_R_w rp_218 (rf_bk am_t218 41 1) 103 [(1, .int r1), (0, .ref 22)] [] s3 (by repeat (first | exact trivial | refine ⟨rfl, ?_⟩)) (by decide +kernel) ?_
    exact cf_R_le (l := [(0, .ref 22), (1, .int r1)]) rfl rfl (⟨rfl, rfl, trivial⟩) (wc_Parser_readSimple_115_ok h)
  replace h := h.2 hb
  refine cf_R_sw (fun hb => ?_) (fun hb => ?_)
  · replace h := h.1 hb
    refine cf_R_w rp_218 (rf_bk am_t218 17 5) 59 [(1, .int r1), (0, .ref 22)] [] s2 (by repeat (first | exact trivial | refine ⟨rfl, ?_⟩)) (by decide +kernel) ?_
    refine cf_R_prim (pc := 66) (q := ([.ref 18, .int r1, .int (Int32.ofInt 0), .int (Int32.ofInt 5)], [])) rp_218 rfl rfl (by decide) (by decide) rp_274 rfl (Nat.le_of_ble_eq_true rfl) ⟨rfl, Nat.le_of_ble_eq_true rfl⟩ (cq_set rfl) ?_
    refine cf_R_w rp_218 (rf_bk am_t218 23 6) 69 [(1, .int r1), (0, .ref 22)] [] (tb_set s2 18 r1 (Int32.ofInt 0) (Int32.ofInt 5)) (by repeat (first | exact trivial | refine ⟨rfl, ?_⟩)) (by decide +kernel) ?_
    refine cf_R_call (pc := 79) (q := ([.ref 23], [.int (Int32.ofInt 1), .int r1, .ref 18])) rp_218 rfl rfl (by decide) (by decide) rp_243 rfl (Nat.le_of_ble_eq_true rfl) ⟨rfl, Nat.le_of_ble_eq_true rfl⟩ h (fun v s4 h => ?_)
    obtain ⟨r4, rfl, h⟩ := h
    refine cf_R_prim (pc := 82) (q := ([.ref 18, .int r1, .int (Int32.ofInt 1), .int r4], [])) rp_218 rfl rfl (by decide) (by decide) rp_274 rfl (Nat.le_of_ble_eq_true rfl) ⟨rfl, Nat.le_of_ble_eq_true rfl⟩ (cq_set rfl) ?_
    refine cf_R_w rp_218 (rf_bk am_t218 31 1) 85 [(1, .int r1), (0, .ref 22)] [] (tb_set s4 18 r1 (Int32.ofInt 1) r4) (by repeat (first | exact trivial | refine ⟨rfl, ?_⟩)) (by decide +kernel) ?_
    exact cf_R_le (l := [(0, .ref 22), (1, .int r1)]) rfl rfl (⟨rfl, rfl, trivial⟩) (wc_Parser_readSimple_115_ok h)
  replace h := h.2 hb
  refine cf_R_sw (fun hb => ?_) (fun hb => ?_)
  · replace h := h.1 hb
    refine cf_R_w rp_218 (rf_bk am_t218 8 6) 40 [(1, .int r1), (0, .ref 22)] [] s2 (by repeat (first | exact trivial | refine ⟨rfl, ?_⟩)) (by decide +kernel) ?_
    refine cf_R_call (pc := 50) (q := ([.ref 23], [.int (Int32.ofInt 1), .int r1, .ref 18])) rp_218 rfl rfl (by decide) (by decide) rp_243 rfl (Nat.le_of_ble_eq_true rfl) ⟨rfl, Nat.le_of_ble_eq_true rfl⟩ h (fun v s5 h => ?_)
    obtain ⟨r5, rfl, h⟩ := h
    refine cf_R_prim (pc := 53) (q := ([.ref 18, .int r1, .int (Int32.ofInt 1), .int r5], [])) rp_218 rfl rfl (by decide) (by decide) rp_274 rfl (Nat.le_of_ble_eq_true rfl) ⟨rfl, Nat.le_of_ble_eq_true rfl⟩ (cq_set rfl) ?_
    refine cf_R_w rp_218 (rf_bk am_t218 16 1) 56 [(1, .int r1), (0, .ref 22)] [] (tb_set s5 18 r1 (Int32.ofInt 1) r5) (by repeat (first | exact trivial | refine ⟨rfl, ?_⟩)) (by decide +kernel) ?_
    exact cf_R_le (l := [(0, .ref 22), (1, .int r1)]) rfl rfl (⟨rfl, rfl, trivial⟩) (wc_Parser_readSimple_115_ok h)
  replace h := h.2 hb
  show cf_R (d + 10) 218 (106, _, _, _) _
  refine cf_R_w rp_218 (rf_bk am_t218 42 2) 106 [(1, .int r1), (0, .ref 22)] [] s2 (by repeat (first | exact trivial | refine ⟨rfl, ?_⟩)) (by decide +kernel) ?_
  refine cf_R_call (pc := 110) (q := ([.ref 23], [])) rp_218 rfl rfl (by decide) (by decide) rp_245 rfl (Nat.le_of_ble_eq_true rfl) ⟨rfl, Nat.le_of_ble_eq_true rfl⟩ h (fun v s6 h => ?_)
  obtain ⟨rfl, h⟩ := h
  refine cf_R_w rp_218 (rf_bk am_t218 45 1) 113 [(1, .int r1), (0, .ref 22)] [] s6 (by repeat (first | exact trivial | refine ⟨rfl, ?_⟩)) (by decide +kernel) ?_
  exact cf_R_ret (pc := 114) (v := some (.int (Int32.ofInt 0))) rp_218 rfl rfl rfl ⟨_, rfl, h⟩
/-- LazyHouse$Parser.addUse (I)V, from 0 on -/
def wc_Parser_addUse (d : Nat) (x1 : Int32) (s : cf_S) (Q : cf_S → Prop) : Prop := (cf_N s + 1 < 1000000000 ∧ cf_I (d + 9) 243 [(0, .ref 23)] (tb_add s 16) (fun r1 s1 => cf_I (d + 9) 242 [(0, .ref 23)] (tb_set s1 16 (tb_new s 16) (Int32.ofInt 0) r1) (fun r2 s2 => Q (tb_set (tb_set s2 16 (tb_new s 16) (Int32.ofInt 1) r2) 16 (tb_new s 16) (Int32.ofInt 2) x1))))
set_option maxRecDepth 20000 in
theorem wc_Parser_addUse_ok {d : Nat} {x1 : Int32} {s : cf_S} {Q : cf_S → Prop} (h : wc_Parser_addUse d x1 s Q) : cf_V (d + 10) 219 [(0, .ref 22), (1, .int x1)] s Q := by
  unfold wc_Parser_addUse at h
  unfold cf_V
  refine cf_R_w rp_219 (rf_bk am_t219 0 3) 0 [(0, .ref 22), (1, .int x1)] [] s (by repeat (first | exact trivial | refine ⟨rfl, ?_⟩)) (by decide +kernel) ?_
  have hr := h.1
  replace h := h.2
  refine cf_R_prim (pc := 7) (q := ([.ref 16], [])) rp_219 rfl rfl (by decide) (by decide) rp_272 rfl (Nat.le_of_ble_eq_true rfl) ⟨rfl, Nat.le_of_ble_eq_true rfl⟩ (cq_tadd rfl hr) ?_
  refine cf_R_w rp_219 (rf_bk am_t219 4 8) 10 [(0, .ref 22), (1, .int x1)] [.int (tb_new s 16)] (tb_add s 16) (by repeat (first | exact trivial | refine ⟨rfl, ?_⟩)) (by decide +kernel) ?_
  refine cf_R_call (pc := 24) (q := ([.ref 23], [.int (Int32.ofInt 0), .int (tb_new s 16), .ref 16])) rp_219 rfl rfl (by decide) (by decide) rp_243 rfl (Nat.le_of_ble_eq_true rfl) ⟨rfl, Nat.le_of_ble_eq_true rfl⟩ h (fun v s1 h => ?_)
  obtain ⟨r1, rfl, h⟩ := h
  refine cf_R_prim (pc := 27) (q := ([.ref 16, .int (tb_new s 16), .int (Int32.ofInt 0), .int r1], [])) rp_219 rfl rfl (by decide) (by decide) rp_274 rfl (Nat.le_of_ble_eq_true rfl) ⟨rfl, Nat.le_of_ble_eq_true rfl⟩ (cq_set rfl) ?_
  refine cf_R_w rp_219 (rf_bk am_t219 14 7) 30 [(2, .int (tb_new s 16)), (0, .ref 22), (1, .int x1)] [] (tb_set s1 16 (tb_new s 16) (Int32.ofInt 0) r1) (by repeat (first | exact trivial | refine ⟨rfl, ?_⟩)) (by decide +kernel) ?_
  refine cf_R_call (pc := 43) (q := ([.ref 23], [.int (Int32.ofInt 1), .int (tb_new s 16), .ref 16])) rp_219 rfl rfl (by decide) (by decide) rp_242 rfl (Nat.le_of_ble_eq_true rfl) ⟨rfl, Nat.le_of_ble_eq_true rfl⟩ h (fun v s2 h => ?_)
  obtain ⟨r2, rfl, h⟩ := h
  refine cf_R_prim (pc := 46) (q := ([.ref 16, .int (tb_new s 16), .int (Int32.ofInt 1), .int r2], [])) rp_219 rfl rfl (by decide) (by decide) rp_274 rfl (Nat.le_of_ble_eq_true rfl) ⟨rfl, Nat.le_of_ble_eq_true rfl⟩ (cq_set rfl) ?_
  refine cf_R_w rp_219 (rf_bk am_t219 23 6) 49 [(2, .int (tb_new s 16)), (0, .ref 22), (1, .int x1)] [] (tb_set s2 16 (tb_new s 16) (Int32.ofInt 1) r2) (by repeat (first | exact trivial | refine ⟨rfl, ?_⟩)) (by decide +kernel) ?_
  refine cf_R_prim (pc := 59) (q := ([.ref 16, .int (tb_new s 16), .int (Int32.ofInt 2), .int x1], [])) rp_219 rfl rfl (by decide) (by decide) rp_274 rfl (Nat.le_of_ble_eq_true rfl) ⟨rfl, Nat.le_of_ble_eq_true rfl⟩ (cq_set rfl) ?_
  exact cf_R_ret (pc := 62) rp_219 rfl rfl rfl ⟨rfl, h⟩
/-- LazyHouse$Parser.expect (I)V, from 0 on -/
def wc_Parser_expect (d : Nat) (x1 : Int32) (s : cf_S) (Q : cf_S → Prop) : Prop := cf_I (d + 9) 241 [(0, .ref 23)] s (fun r1 s1 => ((¬ r1 = x1 → cf_V (d + 9) 245 [(0, .ref 23)] s1 (fun s2 => Q s2)) ∧ (r1 = x1 → cf_V (d + 9) 246 [(0, .ref 23)] s1 (fun s3 => Q s3))))
set_option maxRecDepth 20000 in
theorem wc_Parser_expect_ok {d : Nat} {x1 : Int32} {s : cf_S} {Q : cf_S → Prop} (h : wc_Parser_expect d x1 s Q) : cf_V (d + 10) 220 [(0, .ref 22), (1, .int x1)] s Q := by
  unfold wc_Parser_expect at h
  unfold cf_V
  refine cf_R_w rp_220 (rf_bk am_t220 0 2) 0 [(0, .ref 22), (1, .int x1)] [] s (by repeat (first | exact trivial | refine ⟨rfl, ?_⟩)) (by decide +kernel) ?_
  refine cf_R_call (pc := 4) (q := ([.ref 23], [])) rp_220 rfl rfl (by decide) (by decide) rp_241 rfl (Nat.le_of_ble_eq_true rfl) ⟨rfl, Nat.le_of_ble_eq_true rfl⟩ h (fun v s1 h => ?_)
  obtain ⟨r1, rfl, h⟩ := h
  refine cf_R_w rp_220 (rf_bk am_t220 3 2) 7 [(0, .ref 22), (1, .int x1)] [.int r1] s1 (by repeat (first | exact trivial | refine ⟨rfl, ?_⟩)) (by decide +kernel) ?_
  refine cf_R_if (b := am_cnd .ne r1 x1) (p := 21) (q := 11) (fun hb => ?_) (fun hb => ?_)
  · replace h := h.1 (of_decide_eq_true hb)
    refine cf_R_w rp_220 (rf_bk am_t220 9 2) 21 [(0, .ref 22), (1, .int x1)] [] s1 (by repeat (first | exact trivial | refine ⟨rfl, ?_⟩)) (by decide +kernel) ?_
    refine cf_R_call (pc := 25) (q := ([.ref 23], [])) rp_220 rfl rfl (by decide) (by decide) rp_245 rfl (Nat.le_of_ble_eq_true rfl) ⟨rfl, Nat.le_of_ble_eq_true rfl⟩ h (fun v s2 h => ?_)
    obtain ⟨rfl, h⟩ := h
    exact cf_R_ret (pc := 28) rp_220 rfl rfl rfl ⟨rfl, h⟩
  · replace h := h.2 (Decidable.not_not.mp (of_decide_eq_false hb))
    refine cf_R_w rp_220 (rf_bk am_t220 5 2) 11 [(0, .ref 22), (1, .int x1)] [] s1 (by repeat (first | exact trivial | refine ⟨rfl, ?_⟩)) (by decide +kernel) ?_
    refine cf_R_call (pc := 15) (q := ([.ref 23], [])) rp_220 rfl rfl (by decide) (by decide) rp_246 rfl (Nat.le_of_ble_eq_true rfl) ⟨rfl, Nat.le_of_ble_eq_true rfl⟩ h (fun v s3 h => ?_)
    obtain ⟨rfl, h⟩ := h
    refine cf_R_w rp_220 (rf_bk am_t220 8 1) 18 [(0, .ref 22), (1, .int x1)] [] s3 (by repeat (first | exact trivial | refine ⟨rfl, ?_⟩)) (by decide +kernel) ?_
    exact cf_R_ret (pc := 28) rp_220 rfl rfl rfl ⟨rfl, h⟩
/-- LazyHouse$Parser.mayOpen (I)Z, from 0 on -/
def wc_Parser_mayOpen (d : Nat) (x1 : Int32) (s : cf_S) (Q : Int32 → cf_S → Prop) : Prop := ((x1 < ((Int8.ofInt 60).toInt32) → Q (Int32.ofInt 1) s) ∧ (¬ (x1 < ((Int8.ofInt 60).toInt32)) → cf_V (d + 9) 245 [(0, .ref 23)] s (fun s1 => Q (Int32.ofInt 0) s1)))
set_option maxRecDepth 20000 in
theorem wc_Parser_mayOpen_ok {d : Nat} {x1 : Int32} {s : cf_S} {Q : Int32 → cf_S → Prop} (h : wc_Parser_mayOpen d x1 s Q) : cf_I (d + 10) 221 [(0, .ref 22), (1, .int x1)] s Q := by
  unfold wc_Parser_mayOpen at h
  unfold cf_I
  refine cf_R_w rp_221 (rf_bk am_t221 0 3) 0 [(0, .ref 22), (1, .int x1)] [] s (by repeat (first | exact trivial | refine ⟨rfl, ?_⟩)) (by decide +kernel) ?_
  refine cf_R_if (b := am_cnd .lt x1 ((Int8.ofInt 60).toInt32)) (p := 15) (q := 6) (fun hb => ?_) (fun hb => ?_)
  · replace h := h.1 (of_decide_eq_true hb)
    refine cf_R_w rp_221 (rf_bk am_t221 8 1) 15 [(0, .ref 22), (1, .int x1)] [] s (by repeat (first | exact trivial | refine ⟨rfl, ?_⟩)) (by decide +kernel) ?_
    exact cf_R_ret (pc := 16) (v := some (.int (Int32.ofInt 1))) rp_221 rfl rfl rfl ⟨_, rfl, h⟩
  · replace h := h.2 (of_decide_eq_false hb)
    refine cf_R_w rp_221 (rf_bk am_t221 3 2) 6 [(0, .ref 22), (1, .int x1)] [] s (by repeat (first | exact trivial | refine ⟨rfl, ?_⟩)) (by decide +kernel) ?_
    refine cf_R_call (pc := 10) (q := ([.ref 23], [])) rp_221 rfl rfl (by decide) (by decide) rp_245 rfl (Nat.le_of_ble_eq_true rfl) ⟨rfl, Nat.le_of_ble_eq_true rfl⟩ h (fun v s1 h => ?_)
    obtain ⟨rfl, h⟩ := h
    refine cf_R_w rp_221 (rf_bk am_t221 6 1) 13 [(0, .ref 22), (1, .int x1)] [] s1 (by repeat (first | exact trivial | refine ⟨rfl, ?_⟩)) (by decide +kernel) ?_
    exact cf_R_ret (pc := 14) (v := some (.int (Int32.ofInt 0))) rp_221 rfl rfl rfl ⟨_, rfl, h⟩
/-- LazyHouse$Parser.readNames (I)I, from 2 on -/
def wc_Parser_readNames_2 (d : Nat) (x1 : Int32) (x2 : Int32) (s : cf_S) (Q : Int32 → cf_S → Prop) : Prop := (((Int32.ofNat 1000000) ≤ x2 → Q x2 s) ∧ (¬ ((Int32.ofNat 1000000) ≤ x2) → cf_I (d + 9) 241 [(0, .ref 23)] s (fun r1 s1 => ((¬ r1 = (Int32.ofInt 2) → Q x2 s1) ∧ (r1 = (Int32.ofInt 2) → cf_I (d + 9) 223 [(0, .ref 22), (1, .int x1)] s1 (fun r2 s2 => cf_R (d + 10) 222 (2, [(0, .ref 22), (1, .int x1), (2, .int (x2 + Int32.ofInt 1))], [], s2) (cf_qI Q)))))))
set_option maxRecDepth 20000 in
theorem wc_Parser_readNames_2_ok {d : Nat} {x1 : Int32} {x2 : Int32} {s : cf_S} {Q : Int32 → cf_S → Prop} (h : wc_Parser_readNames_2 d x1 x2 s Q) : cf_R (d + 10) 222 (2, [(0, .ref 22), (1, .int x1), (2, .int x2)], [], s) (cf_qI Q) := by
  unfold wc_Parser_readNames_2 at h
  refine cf_R_w rp_222 (rf_bk am_t222 2 3) 2 [(0, .ref 22), (1, .int x1), (2, .int x2)] [] s (by repeat (first | exact trivial | refine ⟨rfl, ?_⟩)) (by decide +kernel) ?_
  refine cf_R_if (b := am_cnd .ge x2 (Int32.ofNat 1000000)) (p := 31) (q := 8) (fun hb => ?_) (fun hb => ?_)
  · replace h := h.1 (of_decide_eq_true hb)
    refine cf_R_w rp_222 (rf_bk am_t222 16 1) 31 [(0, .ref 22), (1, .int x1), (2, .int x2)] [] s (by repeat (first | exact trivial | refine ⟨rfl, ?_⟩)) (by decide +kernel) ?_
    exact cf_R_ret (pc := 32) (v := some (.int x2)) rp_222 rfl rfl rfl ⟨_, rfl, h⟩
  · replace h := h.2 (of_decide_eq_false hb)
    refine cf_R_w rp_222 (rf_bk am_t222 5 2) 8 [(0, .ref 22), (1, .int x1), (2, .int x2)] [] s (by repeat (first | exact trivial | refine ⟨rfl, ?_⟩)) (by decide +kernel) ?_
    refine cf_R_call (pc := 12) (q := ([.ref 23], [])) rp_222 rfl rfl (by decide) (by decide) rp_241 rfl (Nat.le_of_ble_eq_true rfl) ⟨rfl, Nat.le_of_ble_eq_true rfl⟩ h (fun v s1 h => ?_)
    obtain ⟨r1, rfl, h⟩ := h
    refine cf_R_w rp_222 (rf_bk am_t222 8 2) 15 [(0, .ref 22), (1, .int x1), (2, .int x2)] [.int r1] s1 (by repeat (first | exact trivial | refine ⟨rfl, ?_⟩)) (by decide +kernel) ?_
    refine cf_R_if (b := am_cnd .ne r1 (Int32.ofInt 2)) (p := 31) (q := 19) (fun hb => ?_) (fun hb => ?_)
    · replace h := h.1 (of_decide_eq_true hb)
      refine cf_R_w rp_222 (rf_bk am_t222 16 1) 31 [(0, .ref 22), (1, .int x1), (2, .int x2)] [] s1 (by repeat (first | exact trivial | refine ⟨rfl, ?_⟩)) (by decide +kernel) ?_
      exact cf_R_ret (pc := 32) (v := some (.int x2)) rp_222 rfl rfl rfl ⟨_, rfl, h⟩
    · replace h := h.2 (Decidable.not_not.mp (of_decide_eq_false hb))
      refine cf_R_w rp_222 (rf_bk am_t222 10 2) 19 [(0, .ref 22), (1, .int x1), (2, .int x2)] [] s1 (by repeat (first | exact trivial | refine ⟨rfl, ?_⟩)) (by decide +kernel) ?_
      refine cf_R_call (pc := 21) (q := ([.ref 22, .int x1], [])) rp_222 rfl rfl (by decide) (by decide) rp_223 rfl (Nat.le_of_ble_eq_true rfl) ⟨rfl, Nat.le_of_ble_eq_true rfl⟩ h (fun v s2 h => ?_)
      obtain ⟨r2, rfl, h⟩ := h
      refine cf_R_w rp_222 (rf_bk am_t222 13 3) 24 [(0, .ref 22), (1, .int x1), (2, .int x2)] [.int r2] s2 (by repeat (first | exact trivial | refine ⟨rfl, ?_⟩)) (by decide +kernel) ?_
      exact cf_R_le (l := [(0, .ref 22), (1, .int x1), (2, .int (x2 + Int32.ofInt 1))]) rfl rfl (⟨rfl, rfl, rfl, trivial⟩) h
/-- LazyHouse$Parser.readNames (I)I, from 0 on -/
def wc_Parser_readNames (d : Nat) (x1 : Int32) (s : cf_S) (Q : Int32 → cf_S → Prop) : Prop := cf_R (d + 10) 222 (2, [(0, .ref 22), (1, .int x1), (2, .int (Int32.ofInt 0))], [], s) (cf_qI Q)
set_option maxRecDepth 20000 in
theorem wc_Parser_readNames_ok {d : Nat} {x1 : Int32} {s : cf_S} {Q : Int32 → cf_S → Prop} (h : wc_Parser_readNames d x1 s Q) : cf_I (d + 10) 222 [(0, .ref 22), (1, .int x1)] s Q := by
  unfold wc_Parser_readNames at h
  unfold cf_I
  refine cf_R_w rp_222 (rf_bk am_t222 0 2) 0 [(0, .ref 22), (1, .int x1)] [] s (by repeat (first | exact trivial | refine ⟨rfl, ?_⟩)) (by decide +kernel) ?_
  exact cf_R_le (l := [(0, .ref 22), (1, .int x1), (2, .int (Int32.ofInt 0))]) rfl rfl (⟨rfl, rfl, rfl, trivial⟩) h
/-- LazyHouse$Parser.declare (I)I, from 0 on -/
def wc_Parser_declare (d : Nat) (x1 : Int32) (s : cf_S) (Q : Int32 → cf_S → Prop) : Prop := cf_I (d + 9) 241 [(0, .ref 23)] s (fun r1 s1 => ((r1 = (Int32.ofInt 2) → cf_I (d + 9) 243 [(0, .ref 23)] s1 (fun r2 s2 => cf_I (d + 9) 224 [(0, .ref 22), (1, .int x1), (2, .int (tb_get s2 6 r2 (Int32.ofInt 2)))] s2 (fun r3 s3 => ((r3 = 0 → (cf_N s3 + 1 < 1000000000 ∧ cf_V (d + 9) 246 [(0, .ref 23)] (tb_set (tb_set (tb_set (tb_add s3 14) 14 (tb_new s3 14) (Int32.ofInt 0) x1) 14 (tb_new s3 14) (Int32.ofInt 1) (tb_get s2 6 r2 (Int32.ofInt 2))) 6 r2 (Int32.ofInt 2) (tb_new s3 14)) (fun s4 => Q (tb_new s3 14) s4))) ∧ (¬ (r3 = 0) → cf_V (d + 9) 245 [(0, .ref 23)] s3 (fun s5 => Q (Int32.ofInt 0) s5)))))) ∧ (¬ (r1 = (Int32.ofInt 2)) → cf_V (d + 9) 245 [(0, .ref 23)] s1 (fun s6 => Q (Int32.ofInt 0) s6))))
set_option maxRecDepth 20000 in
theorem wc_Parser_declare_ok {d : Nat} {x1 : Int32} {s : cf_S} {Q : Int32 → cf_S → Prop} (h : wc_Parser_declare d x1 s Q) : cf_I (d + 10) 223 [(0, .ref 22), (1, .int x1)] s Q := by
  unfold wc_Parser_declare at h
  unfold cf_I
  refine cf_R_w rp_223 (rf_bk am_t223 0 2) 0 [(0, .ref 22), (1, .int x1)] [] s (by repeat (first | exact trivial | refine ⟨rfl, ?_⟩)) (by decide +kernel) ?_
  refine cf_R_call (pc := 4) (q := ([.ref 23], [])) rp_223 rfl rfl (by decide) (by decide) rp_241 rfl (Nat.le_of_ble_eq_true rfl) ⟨rfl, Nat.le_of_ble_eq_true rfl⟩ h (fun v s1 h => ?_)
  obtain ⟨r1, rfl, h⟩ := h
  refine cf_R_w rp_223 (rf_bk am_t223 3 2) 7 [(0, .ref 22), (1, .int x1)] [.int r1] s1 (by repeat (first | exact trivial | refine ⟨rfl, ?_⟩)) (by decide +kernel) ?_
  refine cf_R_if (b := am_cnd .eq r1 (Int32.ofInt 2)) (p := 20) (q := 11) (fun hb => ?_) (fun hb => ?_)
  · replace h := h.1 (of_decide_eq_true hb)
    refine cf_R_w rp_223 (rf_bk am_t223 10 6) 20 [(0, .ref 22), (1, .int x1)] [] s1 (by repeat (first | exact trivial | refine ⟨rfl, ?_⟩)) (by decide +kernel) ?_
    refine cf_R_call (pc := 32) (q := ([.ref 23], [])) rp_223 rfl rfl (by decide) (by decide) rp_243 rfl (Nat.le_of_ble_eq_true rfl) ⟨rfl, Nat.le_of_ble_eq_true rfl⟩ h (fun v s2 h => ?_)
    obtain ⟨r2, rfl, h⟩ := h
    refine cf_R_w rp_223 (rf_bk am_t223 17 6) 35 [(2, .ref 14), (0, .ref 22), (1, .int x1)] [.int r2] s2 (by repeat (first | exact trivial | refine ⟨rfl, ?_⟩)) (by decide +kernel) ?_
    refine cf_R_prim (pc := 45) (q := ([.ref 6, .int r2, .int (Int32.ofInt 2)], [])) rp_223 rfl rfl (by decide) (by decide) rp_273 rfl (Nat.le_of_ble_eq_true rfl) ⟨rfl, Nat.le_of_ble_eq_true rfl⟩ (cq_get rfl) ?_
    refine cf_R_w rp_223 (rf_bk am_t223 24 4) 48 [(3, .int r2), (2, .ref 14), (0, .ref 22), (1, .int x1)] [.int (tb_get s2 6 r2 (Int32.ofInt 2))] s2 (by repeat (first | exact trivial | refine ⟨rfl, ?_⟩)) (by decide +kernel) ?_
    refine cf_R_call (pc := 54) (q := ([.ref 22, .int x1, .int (tb_get s2 6 r2 (Int32.ofInt 2))], [])) rp_223 rfl rfl (by decide) (by decide) rp_224 rfl (Nat.le_of_ble_eq_true rfl) ⟨rfl, Nat.le_of_ble_eq_true rfl⟩ h (fun v s3 h => ?_)
    obtain ⟨r3, rfl, h⟩ := h
    refine cf_R_w rp_223 (rf_bk am_t223 29 1) 57 [(4, .int (tb_get s2 6 r2 (Int32.ofInt 2))), (3, .int r2), (2, .ref 14), (0, .ref 22), (1, .int x1)] [.int r3] s3 (by repeat (first | exact trivial | refine ⟨rfl, ?_⟩)) (by decide +kernel) ?_
    refine cf_R_if (b := am_cnd .eq r3 0) (p := 69) (q := 60) (fun hb => ?_) (fun hb => ?_)
    · replace h := h.1 (of_decide_eq_true hb)
      refine cf_R_w rp_223 (rf_bk am_t223 35 1) 69 [(4, .int (tb_get s2 6 r2 (Int32.ofInt 2))), (3, .int r2), (2, .ref 14), (0, .ref 22), (1, .int x1)] [] s3 (by repeat (first | exact trivial | refine ⟨rfl, ?_⟩)) (by decide +kernel) ?_
      have hr := h.1
      replace h := h.2
      refine cf_R_prim (pc := 70) (q := ([.ref 14], [])) rp_223 rfl rfl (by decide) (by decide) rp_272 rfl (Nat.le_of_ble_eq_true rfl) ⟨rfl, Nat.le_of_ble_eq_true rfl⟩ (cq_tadd rfl hr) ?_
      refine cf_R_w rp_223 (rf_bk am_t223 37 5) 73 [(4, .int (tb_get s2 6 r2 (Int32.ofInt 2))), (3, .int r2), (2, .ref 14), (0, .ref 22), (1, .int x1)] [.int (tb_new s3 14)] (tb_add s3 14) (by repeat (first | exact trivial | refine ⟨rfl, ?_⟩)) (by decide +kernel) ?_
      refine cf_R_prim (pc := 80) (q := ([.ref 14, .int (tb_new s3 14), .int (Int32.ofInt 0), .int x1], [])) rp_223 rfl rfl (by decide) (by decide) rp_274 rfl (Nat.le_of_ble_eq_true rfl) ⟨rfl, Nat.le_of_ble_eq_true rfl⟩ (cq_set rfl) ?_
      refine cf_R_w rp_223 (rf_bk am_t223 43 4) 83 [(5, .int (tb_new s3 14)), (4, .int (tb_get s2 6 r2 (Int32.ofInt 2))), (3, .int r2), (2, .ref 14), (0, .ref 22), (1, .int x1)] [] (tb_set (tb_add s3 14) 14 (tb_new s3 14) (Int32.ofInt 0) x1) (by repeat (first | exact trivial | refine ⟨rfl, ?_⟩)) (by decide +kernel) ?_
      refine cf_R_prim (pc := 89) (q := ([.ref 14, .int (tb_new s3 14), .int (Int32.ofInt 1), .int (tb_get s2 6 r2 (Int32.ofInt 2))], [])) rp_223 rfl rfl (by decide) (by decide) rp_274 rfl (Nat.le_of_ble_eq_true rfl) ⟨rfl, Nat.le_of_ble_eq_true rfl⟩ (cq_set rfl) ?_
      refine cf_R_w rp_223 (rf_bk am_t223 48 6) 92 [(5, .int (tb_new s3 14)), (4, .int (tb_get s2 6 r2 (Int32.ofInt 2))), (3, .int r2), (2, .ref 14), (0, .ref 22), (1, .int x1)] [] (tb_set (tb_set (tb_add s3 14) 14 (tb_new s3 14) (Int32.ofInt 0) x1) 14 (tb_new s3 14) (Int32.ofInt 1) (tb_get s2 6 r2 (Int32.ofInt 2))) (by repeat (first | exact trivial | refine ⟨rfl, ?_⟩)) (by decide +kernel) ?_
      refine cf_R_prim (pc := 103) (q := ([.ref 6, .int r2, .int (Int32.ofInt 2), .int (tb_new s3 14)], [])) rp_223 rfl rfl (by decide) (by decide) rp_274 rfl (Nat.le_of_ble_eq_true rfl) ⟨rfl, Nat.le_of_ble_eq_true rfl⟩ (cq_set rfl) ?_
      refine cf_R_w rp_223 (rf_bk am_t223 55 2) 106 [(5, .int (tb_new s3 14)), (4, .int (tb_get s2 6 r2 (Int32.ofInt 2))), (3, .int r2), (2, .ref 14), (0, .ref 22), (1, .int x1)] [] (tb_set (tb_set (tb_set (tb_add s3 14) 14 (tb_new s3 14) (Int32.ofInt 0) x1) 14 (tb_new s3 14) (Int32.ofInt 1) (tb_get s2 6 r2 (Int32.ofInt 2))) 6 r2 (Int32.ofInt 2) (tb_new s3 14)) (by repeat (first | exact trivial | refine ⟨rfl, ?_⟩)) (by decide +kernel) ?_
      refine cf_R_call (pc := 110) (q := ([.ref 23], [])) rp_223 rfl rfl (by decide) (by decide) rp_246 rfl (Nat.le_of_ble_eq_true rfl) ⟨rfl, Nat.le_of_ble_eq_true rfl⟩ h (fun v s4 h => ?_)
      obtain ⟨rfl, h⟩ := h
      refine cf_R_w rp_223 (rf_bk am_t223 58 1) 113 [(5, .int (tb_new s3 14)), (4, .int (tb_get s2 6 r2 (Int32.ofInt 2))), (3, .int r2), (2, .ref 14), (0, .ref 22), (1, .int x1)] [] s4 (by repeat (first | exact trivial | refine ⟨rfl, ?_⟩)) (by decide +kernel) ?_
      exact cf_R_ret (pc := 115) (v := some (.int (tb_new s3 14))) rp_223 rfl rfl rfl ⟨_, rfl, h⟩
    · replace h := h.2 (of_decide_eq_false hb)
      refine cf_R_w rp_223 (rf_bk am_t223 30 2) 60 [(4, .int (tb_get s2 6 r2 (Int32.ofInt 2))), (3, .int r2), (2, .ref 14), (0, .ref 22), (1, .int x1)] [] s3 (by repeat (first | exact trivial | refine ⟨rfl, ?_⟩)) (by decide +kernel) ?_
      refine cf_R_call (pc := 64) (q := ([.ref 23], [])) rp_223 rfl rfl (by decide) (by decide) rp_245 rfl (Nat.le_of_ble_eq_true rfl) ⟨rfl, Nat.le_of_ble_eq_true rfl⟩ h (fun v s5 h => ?_)
      obtain ⟨rfl, h⟩ := h
      refine cf_R_w rp_223 (rf_bk am_t223 33 1) 67 [(4, .int (tb_get s2 6 r2 (Int32.ofInt 2))), (3, .int r2), (2, .ref 14), (0, .ref 22), (1, .int x1)] [] s5 (by repeat (first | exact trivial | refine ⟨rfl, ?_⟩)) (by decide +kernel) ?_
      exact cf_R_ret (pc := 68) (v := some (.int (Int32.ofInt 0))) rp_223 rfl rfl rfl ⟨_, rfl, h⟩
  · replace h := h.2 (of_decide_eq_false hb)
    refine cf_R_w rp_223 (rf_bk am_t223 5 2) 11 [(0, .ref 22), (1, .int x1)] [] s1 (by repeat (first | exact trivial | refine ⟨rfl, ?_⟩)) (by decide +kernel) ?_
    refine cf_R_call (pc := 15) (q := ([.ref 23], [])) rp_223 rfl rfl (by decide) (by decide) rp_245 rfl (Nat.le_of_ble_eq_true rfl) ⟨rfl, Nat.le_of_ble_eq_true rfl⟩ h (fun v s6 h => ?_)
    obtain ⟨rfl, h⟩ := h
    refine cf_R_w rp_223 (rf_bk am_t223 8 1) 18 [(0, .ref 22), (1, .int x1)] [] s6 (by repeat (first | exact trivial | refine ⟨rfl, ?_⟩)) (by decide +kernel) ?_
    exact cf_R_ret (pc := 19) (v := some (.int (Int32.ofInt 0))) rp_223 rfl rfl rfl ⟨_, rfl, h⟩
/-- LazyHouse$Parser.isIn (II)Z, from 5 on -/
def wc_Parser_isIn_5 (d : Nat) (x1 : Int32) (x3 : Int32) (x4 : Int32) (s : cf_S) (Q : Int32 → cf_S → Prop) : Prop := (((Int32.ofNat 1000000) ≤ x4 → Q (Int32.ofInt 0) s) ∧ (¬ ((Int32.ofNat 1000000) ≤ x4) → ((x3 = 0 → Q (Int32.ofInt 0) s) ∧ (¬ (x3 = 0) → ((¬ (tb_get s 14 x3 (Int32.ofInt 0)) = x1 → cf_R (d + 10) 224 (5, [(0, .ref 22), (1, .int x1), (3, .int (tb_get s 14 x3 (Int32.ofInt 1))), (4, .int (x4 + Int32.ofInt 1))], [], s) (cf_qI Q)) ∧ ((tb_get s 14 x3 (Int32.ofInt 0)) = x1 → Q (Int32.ofInt 1) s))))))
set_option maxRecDepth 20000 in
theorem wc_Parser_isIn_5_ok {d : Nat} {x1 : Int32} {x3 : Int32} {x4 : Int32} {s : cf_S} {Q : Int32 → cf_S → Prop} (h : wc_Parser_isIn_5 d x1 x3 x4 s Q) : cf_R (d + 10) 224 (5, [(0, .ref 22), (1, .int x1), (3, .int x3), (4, .int x4)], [], s) (cf_qI Q) := by
  unfold wc_Parser_isIn_5 at h
  refine cf_R_w rp_224 (rf_bk am_t224 4 3) 5 [(0, .ref 22), (1, .int x1), (3, .int x3), (4, .int x4)] [] s (by repeat (first | exact trivial | refine ⟨rfl, ?_⟩)) (by decide +kernel) ?_
  refine cf_R_if (b := am_cnd .ge x4 (Int32.ofNat 1000000)) (p := 53) (q := 12) (fun hb => ?_) (fun hb => ?_)
  · replace h := h.1 (of_decide_eq_true hb)
    refine cf_R_w rp_224 (rf_bk am_t224 28 1) 53 [(0, .ref 22), (1, .int x1), (3, .int x3), (4, .int x4)] [] s (by repeat (first | exact trivial | refine ⟨rfl, ?_⟩)) (by decide +kernel) ?_
    exact cf_R_ret (pc := 54) (v := some (.int (Int32.ofInt 0))) rp_224 rfl rfl rfl ⟨_, rfl, h⟩
  · replace h := h.2 (of_decide_eq_false hb)
    refine cf_R_w rp_224 (rf_bk am_t224 7 2) 12 [(0, .ref 22), (1, .int x1), (3, .int x3), (4, .int x4)] [] s (by repeat (first | exact trivial | refine ⟨rfl, ?_⟩)) (by decide +kernel) ?_
    refine cf_R_if (b := am_cnd .eq x3 0) (p := 53) (q := 16) (fun hb => ?_) (fun hb => ?_)
    · replace h := h.1 (of_decide_eq_true hb)
      refine cf_R_w rp_224 (rf_bk am_t224 28 1) 53 [(0, .ref 22), (1, .int x1), (3, .int x3), (4, .int x4)] [] s (by repeat (first | exact trivial | refine ⟨rfl, ?_⟩)) (by decide +kernel) ?_
      exact cf_R_ret (pc := 54) (v := some (.int (Int32.ofInt 0))) rp_224 rfl rfl rfl ⟨_, rfl, h⟩
    · replace h := h.2 (of_decide_eq_false hb)
      refine cf_R_w rp_224 (rf_bk am_t224 9 5) 16 [(0, .ref 22), (1, .int x1), (3, .int x3), (4, .int x4)] [] s (by repeat (first | exact trivial | refine ⟨rfl, ?_⟩)) (by decide +kernel) ?_
      refine cf_R_prim (pc := 25) (q := ([.ref 14, .int x3, .int (Int32.ofInt 0)], [])) rp_224 rfl rfl (by decide) (by decide) rp_273 rfl (Nat.le_of_ble_eq_true rfl) ⟨rfl, Nat.le_of_ble_eq_true rfl⟩ (cq_get rfl) ?_
      refine cf_R_w rp_224 (rf_bk am_t224 15 2) 28 [(0, .ref 22), (1, .int x1), (3, .int x3), (4, .int x4)] [.int (tb_get s 14 x3 (Int32.ofInt 0))] s (by repeat (first | exact trivial | refine ⟨rfl, ?_⟩)) (by decide +kernel) ?_
      refine cf_R_if (b := am_cnd .ne (tb_get s 14 x3 (Int32.ofInt 0)) x1) (p := 34) (q := 32) (fun hb => ?_) (fun hb => ?_)
      · replace h := h.1 (of_decide_eq_true hb)
        refine cf_R_w rp_224 (rf_bk am_t224 19 5) 34 [(0, .ref 22), (1, .int x1), (3, .int x3), (4, .int x4)] [] s (by repeat (first | exact trivial | refine ⟨rfl, ?_⟩)) (by decide +kernel) ?_
        refine cf_R_prim (pc := 43) (q := ([.ref 14, .int x3, .int (Int32.ofInt 1)], [])) rp_224 rfl rfl (by decide) (by decide) rp_273 rfl (Nat.le_of_ble_eq_true rfl) ⟨rfl, Nat.le_of_ble_eq_true rfl⟩ (cq_get rfl) ?_
        refine cf_R_w rp_224 (rf_bk am_t224 25 3) 46 [(0, .ref 22), (1, .int x1), (3, .int x3), (4, .int x4)] [.int (tb_get s 14 x3 (Int32.ofInt 1))] s (by repeat (first | exact trivial | refine ⟨rfl, ?_⟩)) (by decide +kernel) ?_
        exact cf_R_le (l := [(0, .ref 22), (1, .int x1), (3, .int (tb_get s 14 x3 (Int32.ofInt 1))), (4, .int (x4 + Int32.ofInt 1))]) rfl rfl (⟨rfl, rfl, rfl, rfl, trivial⟩) h
      · replace h := h.2 (Decidable.not_not.mp (of_decide_eq_false hb))
        refine cf_R_w rp_224 (rf_bk am_t224 17 1) 32 [(0, .ref 22), (1, .int x1), (3, .int x3), (4, .int x4)] [] s (by repeat (first | exact trivial | refine ⟨rfl, ?_⟩)) (by decide +kernel) ?_
        exact cf_R_ret (pc := 33) (v := some (.int (Int32.ofInt 1))) rp_224 rfl rfl rfl ⟨_, rfl, h⟩
/-- LazyHouse$Parser.isIn (II)Z, from 0 on -/
def wc_Parser_isIn (d : Nat) (x1 : Int32) (x2 : Int32) (s : cf_S) (Q : Int32 → cf_S → Prop) : Prop := cf_R (d + 10) 224 (5, [(0, .ref 22), (1, .int x1), (3, .int x2), (4, .int (Int32.ofInt 0))], [], s) (cf_qI Q)
set_option maxRecDepth 20000 in
theorem wc_Parser_isIn_ok {d : Nat} {x1 : Int32} {x2 : Int32} {s : cf_S} {Q : Int32 → cf_S → Prop} (h : wc_Parser_isIn d x1 x2 s Q) : cf_I (d + 10) 224 [(0, .ref 22), (1, .int x1), (2, .int x2)] s Q := by
  unfold wc_Parser_isIn at h
  unfold cf_I
  refine cf_R_w rp_224 (rf_bk am_t224 0 4) 0 [(0, .ref 22), (1, .int x1), (2, .int x2)] [] s (by repeat (first | exact trivial | refine ⟨rfl, ?_⟩)) (by decide +kernel) ?_
  exact cf_R_le (l := [(0, .ref 22), (1, .int x1), (3, .int x2), (4, .int (Int32.ofInt 0))]) rfl rfl (⟨rfl, rfl, rfl, rfl, trivial⟩) h
/-- LazyHouse$Parser.openScope ()I, from 0 on -/
def wc_Parser_openScope (d : Nat) (s : cf_S) (Q : Int32 → cf_S → Prop) : Prop := (cf_N s + 1 < 1000000000 ∧ cf_I (d + 9) 242 [(0, .ref 23)] (tb_add s 12) (fun r1 s1 => Q (tb_new s 12) (tb_set s1 12 (tb_new s 12) (Int32.ofInt 0) r1)))
set_option maxRecDepth 20000 in
theorem wc_Parser_openScope_ok {d : Nat} {s : cf_S} {Q : Int32 → cf_S → Prop} (h : wc_Parser_openScope d s Q) : cf_I (d + 10) 225 [(0, .ref 22)] s Q := by
  unfold wc_Parser_openScope at h
  unfold cf_I
  refine cf_R_w rp_225 (rf_bk am_t225 0 3) 0 [(0, .ref 22)] [] s (by repeat (first | exact trivial | refine ⟨rfl, ?_⟩)) (by decide +kernel) ?_
  have hr := h.1
  replace h := h.2
  refine cf_R_prim (pc := 7) (q := ([.ref 12], [])) rp_225 rfl rfl (by decide) (by decide) rp_272 rfl (Nat.le_of_ble_eq_true rfl) ⟨rfl, Nat.le_of_ble_eq_true rfl⟩ (cq_tadd rfl hr) ?_
  refine cf_R_w rp_225 (rf_bk am_t225 4 8) 10 [(0, .ref 22)] [.int (tb_new s 12)] (tb_add s 12) (by repeat (first | exact trivial | refine ⟨rfl, ?_⟩)) (by decide +kernel) ?_
  refine cf_R_call (pc := 24) (q := ([.ref 23], [.int (Int32.ofInt 0), .int (tb_new s 12), .ref 12])) rp_225 rfl rfl (by decide) (by decide) rp_242 rfl (Nat.le_of_ble_eq_true rfl) ⟨rfl, Nat.le_of_ble_eq_true rfl⟩ h (fun v s1 h => ?_)
  obtain ⟨r1, rfl, h⟩ := h
  refine cf_R_prim (pc := 27) (q := ([.ref 12, .int (tb_new s 12), .int (Int32.ofInt 0), .int r1], [])) rp_225 rfl rfl (by decide) (by decide) rp_274 rfl (Nat.le_of_ble_eq_true rfl) ⟨rfl, Nat.le_of_ble_eq_true rfl⟩ (cq_set rfl) ?_
  refine cf_R_w rp_225 (rf_bk am_t225 14 1) 30 [(1, .int (tb_new s 12)), (0, .ref 22)] [] (tb_set s1 12 (tb_new s 12) (Int32.ofInt 0) r1) (by repeat (first | exact trivial | refine ⟨rfl, ?_⟩)) (by decide +kernel) ?_
  exact cf_R_ret (pc := 31) (v := some (.int (tb_new s 12))) rp_225 rfl rfl rfl ⟨_, rfl, h⟩
/-- LazyHouse$Parser.closeScope (I)V, from 0 on -/
def wc_Parser_closeScope (d : Nat) (x1 : Int32) (s : cf_S) (Q : cf_S → Prop) : Prop := cf_I (d + 9) 242 [(0, .ref 23)] s (fun r1 s1 => Q (tb_set s1 12 x1 (Int32.ofInt 1) r1))
set_option maxRecDepth 20000 in
theorem wc_Parser_closeScope_ok {d : Nat} {x1 : Int32} {s : cf_S} {Q : cf_S → Prop} (h : wc_Parser_closeScope d x1 s Q) : cf_V (d + 10) 226 [(0, .ref 22), (1, .int x1)] s Q := by
  unfold wc_Parser_closeScope at h
  unfold cf_V
  refine cf_R_w rp_226 (rf_bk am_t226 0 7) 0 [(0, .ref 22), (1, .int x1)] [] s (by repeat (first | exact trivial | refine ⟨rfl, ?_⟩)) (by decide +kernel) ?_
  refine cf_R_call (pc := 13) (q := ([.ref 23], [.int (Int32.ofInt 1), .int x1, .ref 12])) rp_226 rfl rfl (by decide) (by decide) rp_242 rfl (Nat.le_of_ble_eq_true rfl) ⟨rfl, Nat.le_of_ble_eq_true rfl⟩ h (fun v s1 h => ?_)
  obtain ⟨r1, rfl, h⟩ := h
  refine cf_R_prim (pc := 16) (q := ([.ref 12, .int x1, .int (Int32.ofInt 1), .int r1], [])) rp_226 rfl rfl (by decide) (by decide) rp_274 rfl (Nat.le_of_ble_eq_true rfl) ⟨rfl, Nat.le_of_ble_eq_true rfl⟩ (cq_set rfl) ?_
  exact cf_R_ret (pc := 19) rp_226 rfl rfl rfl ⟨rfl, h⟩
/-- LazyHouse$Parser.openNode (I)I, from 0 on -/
def wc_Parser_openNode (d : Nat) (x1 : Int32) (s : cf_S) (Q : Int32 → cf_S → Prop) : Prop := (cf_N s + 1 < 1000000000 ∧ Q (tb_new s 18) (tb_set (tb_set (tb_set (tb_add s 18) 18 (tb_new s 18) (Int32.ofInt 0) x1) 18 (tb_new s 18) ((Int8.ofInt 7).toInt32) (s.1 16 2)) 18 (tb_new s 18) ((Int8.ofInt 9).toInt32) (s.1 14 2)))
set_option maxRecDepth 20000 in
theorem wc_Parser_openNode_ok {d : Nat} {x1 : Int32} {s : cf_S} {Q : Int32 → cf_S → Prop} (h : wc_Parser_openNode d x1 s Q) : cf_I (d + 10) 227 [(0, .ref 22), (1, .int x1)] s Q := by
  unfold wc_Parser_openNode at h
  unfold cf_I
  refine cf_R_w rp_227 (rf_bk am_t227 0 2) 0 [(0, .ref 22), (1, .int x1)] [] s (by repeat (first | exact trivial | refine ⟨rfl, ?_⟩)) (by decide +kernel) ?_
  have hr := h.1
  replace h := h.2
  refine cf_R_prim (pc := 4) (q := ([.ref 18], [])) rp_227 rfl rfl (by decide) (by decide) rp_272 rfl (Nat.le_of_ble_eq_true rfl) ⟨rfl, Nat.le_of_ble_eq_true rfl⟩ (cq_tadd rfl hr) ?_
  refine cf_R_w rp_227 (rf_bk am_t227 3 6) 7 [(0, .ref 22), (1, .int x1)] [.int (tb_new s 18)] (tb_add s 18) (by repeat (first | exact trivial | refine ⟨rfl, ?_⟩)) (by decide +kernel) ?_
  refine cf_R_prim (pc := 15) (q := ([.ref 18, .int (tb_new s 18), .int (Int32.ofInt 0), .int x1], [])) rp_227 rfl rfl (by decide) (by decide) rp_274 rfl (Nat.le_of_ble_eq_true rfl) ⟨rfl, Nat.le_of_ble_eq_true rfl⟩ (cq_set rfl) ?_
  refine cf_R_w rp_227 (rf_bk am_t227 10 7) 18 [(2, .int (tb_new s 18)), (0, .ref 22), (1, .int x1)] [] (tb_set (tb_add s 18) 18 (tb_new s 18) (Int32.ofInt 0) x1) (by repeat (first | exact trivial | refine ⟨rfl, ?_⟩)) (by decide +kernel) ?_
  refine cf_R_prim (pc := 32) (q := ([.ref 16], [.int ((Int8.ofInt 7).toInt32), .int (tb_new s 18), .ref 18])) rp_227 rfl rfl (by decide) (by decide) rp_270 rfl (Nat.le_of_ble_eq_true rfl) ⟨rfl, Nat.le_of_ble_eq_true rfl⟩ (cq_rows rfl) ?_
  refine cf_R_prim (pc := 35) (q := ([.ref 18, .int (tb_new s 18), .int ((Int8.ofInt 7).toInt32), .int (s.1 16 2)], [])) rp_227 rfl rfl (by decide) (by decide) rp_274 rfl (Nat.le_of_ble_eq_true rfl) ⟨rfl, Nat.le_of_ble_eq_true rfl⟩ (cq_set rfl) ?_
  refine cf_R_w rp_227 (rf_bk am_t227 19 7) 38 [(2, .int (tb_new s 18)), (0, .ref 22), (1, .int x1)] [] (tb_set (tb_set (tb_add s 18) 18 (tb_new s 18) (Int32.ofInt 0) x1) 18 (tb_new s 18) ((Int8.ofInt 7).toInt32) (s.1 16 2)) (by repeat (first | exact trivial | refine ⟨rfl, ?_⟩)) (by decide +kernel) ?_
  refine cf_R_prim (pc := 52) (q := ([.ref 14], [.int ((Int8.ofInt 9).toInt32), .int (tb_new s 18), .ref 18])) rp_227 rfl rfl (by decide) (by decide) rp_270 rfl (Nat.le_of_ble_eq_true rfl) ⟨rfl, Nat.le_of_ble_eq_true rfl⟩ (cq_rows rfl) ?_
  refine cf_R_prim (pc := 55) (q := ([.ref 18, .int (tb_new s 18), .int ((Int8.ofInt 9).toInt32), .int (s.1 14 2)], [])) rp_227 rfl rfl (by decide) (by decide) rp_274 rfl (Nat.le_of_ble_eq_true rfl) ⟨rfl, Nat.le_of_ble_eq_true rfl⟩ (cq_set rfl) ?_
  refine cf_R_w rp_227 (rf_bk am_t227 28 1) 58 [(2, .int (tb_new s 18)), (0, .ref 22), (1, .int x1)] [] (tb_set (tb_set (tb_set (tb_add s 18) 18 (tb_new s 18) (Int32.ofInt 0) x1) 18 (tb_new s 18) ((Int8.ofInt 7).toInt32) (s.1 16 2)) 18 (tb_new s 18) ((Int8.ofInt 9).toInt32) (s.1 14 2)) (by repeat (first | exact trivial | refine ⟨rfl, ?_⟩)) (by decide +kernel) ?_
  exact cf_R_ret (pc := 59) (v := some (.int (tb_new s 18))) rp_227 rfl rfl rfl ⟨_, rfl, h⟩
/-- LazyHouse$Parser.beginWith (II)V, from 0 on -/
def wc_Parser_beginWith (d : Nat) (x1 : Int32) (x2 : Int32) (s : cf_S) (Q : cf_S → Prop) : Prop := Q (tb_set (tb_set s 18 x1 ((Int8.ofInt 7).toInt32) (tb_get s 18 x2 ((Int8.ofInt 7).toInt32))) 18 x1 ((Int8.ofInt 9).toInt32) (tb_get (tb_set s 18 x1 ((Int8.ofInt 7).toInt32) (tb_get s 18 x2 ((Int8.ofInt 7).toInt32))) 18 x2 ((Int8.ofInt 9).toInt32)))
set_option maxRecDepth 20000 in
theorem wc_Parser_beginWith_ok {d : Nat} {x1 : Int32} {x2 : Int32} {s : cf_S} {Q : cf_S → Prop} (h : wc_Parser_beginWith d x1 x2 s Q) : cf_V (d + 10) 228 [(0, .ref 22), (1, .int x1), (2, .int x2)] s Q := by
  unfold wc_Parser_beginWith at h
  unfold cf_V
  refine cf_R_w rp_228 (rf_bk am_t228 0 8) 0 [(0, .ref 22), (1, .int x1), (2, .int x2)] [] s (by repeat (first | exact trivial | refine ⟨rfl, ?_⟩)) (by decide +kernel) ?_
  refine cf_R_prim (pc := 14) (q := ([.ref 18, .int x2, .int ((Int8.ofInt 7).toInt32)], [.int ((Int8.ofInt 7).toInt32), .int x1, .ref 18])) rp_228 rfl rfl (by decide) (by decide) rp_273 rfl (Nat.le_of_ble_eq_true rfl) ⟨rfl, Nat.le_of_ble_eq_true rfl⟩ (cq_get rfl) ?_
  refine cf_R_prim (pc := 17) (q := ([.ref 18, .int x1, .int ((Int8.ofInt 7).toInt32), .int (tb_get s 18 x2 ((Int8.ofInt 7).toInt32))], [])) rp_228 rfl rfl (by decide) (by decide) rp_274 rfl (Nat.le_of_ble_eq_true rfl) ⟨rfl, Nat.le_of_ble_eq_true rfl⟩ (cq_set rfl) ?_
  refine cf_R_w rp_228 (rf_bk am_t228 10 8) 20 [(0, .ref 22), (1, .int x1), (2, .int x2)] [] (tb_set s 18 x1 ((Int8.ofInt 7).toInt32) (tb_get s 18 x2 ((Int8.ofInt 7).toInt32))) (by repeat (first | exact trivial | refine ⟨rfl, ?_⟩)) (by decide +kernel) ?_
  refine cf_R_prim (pc := 34) (q := ([.ref 18, .int x2, .int ((Int8.ofInt 9).toInt32)], [.int ((Int8.ofInt 9).toInt32), .int x1, .ref 18])) rp_228 rfl rfl (by decide) (by decide) rp_273 rfl (Nat.le_of_ble_eq_true rfl) ⟨rfl, Nat.le_of_ble_eq_true rfl⟩ (cq_get rfl) ?_
  refine cf_R_prim (pc := 37) (q := ([.ref 18, .int x1, .int ((Int8.ofInt 9).toInt32), .int (tb_get (tb_set s 18 x1 ((Int8.ofInt 7).toInt32) (tb_get s 18 x2 ((Int8.ofInt 7).toInt32))) 18 x2 ((Int8.ofInt 9).toInt32))], [])) rp_228 rfl rfl (by decide) (by decide) rp_274 rfl (Nat.le_of_ble_eq_true rfl) ⟨rfl, Nat.le_of_ble_eq_true rfl⟩ (cq_set rfl) ?_
  exact cf_R_ret (pc := 40) rp_228 rfl rfl rfl ⟨rfl, h⟩
/-- LazyHouse$Parser.closeNode (I)I, from 0 on -/
def wc_Parser_closeNode (d : Nat) (x1 : Int32) (s : cf_S) (Q : Int32 → cf_S → Prop) : Prop := Q x1 (tb_set (tb_set s 18 x1 ((Int8.ofInt 8).toInt32) (s.1 16 2)) 18 x1 ((Int8.ofInt 10).toInt32) (s.1 14 2))
set_option maxRecDepth 20000 in
theorem wc_Parser_closeNode_ok {d : Nat} {x1 : Int32} {s : cf_S} {Q : Int32 → cf_S → Prop} (h : wc_Parser_closeNode d x1 s Q) : cf_I (d + 10) 229 [(0, .ref 22), (1, .int x1)] s Q := by
  unfold wc_Parser_closeNode at h
  unfold cf_I
  refine cf_R_w rp_229 (rf_bk am_t229 0 7) 0 [(0, .ref 22), (1, .int x1)] [] s (by repeat (first | exact trivial | refine ⟨rfl, ?_⟩)) (by decide +kernel) ?_
  refine cf_R_prim (pc := 14) (q := ([.ref 16], [.int ((Int8.ofInt 8).toInt32), .int x1, .ref 18])) rp_229 rfl rfl (by decide) (by decide) rp_270 rfl (Nat.le_of_ble_eq_true rfl) ⟨rfl, Nat.le_of_ble_eq_true rfl⟩ (cq_rows rfl) ?_
  refine cf_R_prim (pc := 17) (q := ([.ref 18, .int x1, .int ((Int8.ofInt 8).toInt32), .int (s.1 16 2)], [])) rp_229 rfl rfl (by decide) (by decide) rp_274 rfl (Nat.le_of_ble_eq_true rfl) ⟨rfl, Nat.le_of_ble_eq_true rfl⟩ (cq_set rfl) ?_
  refine cf_R_w rp_229 (rf_bk am_t229 9 7) 20 [(0, .ref 22), (1, .int x1)] [] (tb_set s 18 x1 ((Int8.ofInt 8).toInt32) (s.1 16 2)) (by repeat (first | exact trivial | refine ⟨rfl, ?_⟩)) (by decide +kernel) ?_
  refine cf_R_prim (pc := 34) (q := ([.ref 14], [.int ((Int8.ofInt 10).toInt32), .int x1, .ref 18])) rp_229 rfl rfl (by decide) (by decide) rp_270 rfl (Nat.le_of_ble_eq_true rfl) ⟨rfl, Nat.le_of_ble_eq_true rfl⟩ (cq_rows rfl) ?_
  refine cf_R_prim (pc := 37) (q := ([.ref 18, .int x1, .int ((Int8.ofInt 10).toInt32), .int (s.1 14 2)], [])) rp_229 rfl rfl (by decide) (by decide) rp_274 rfl (Nat.le_of_ble_eq_true rfl) ⟨rfl, Nat.le_of_ble_eq_true rfl⟩ (cq_set rfl) ?_
  refine cf_R_w rp_229 (rf_bk am_t229 18 1) 40 [(0, .ref 22), (1, .int x1)] [] (tb_set (tb_set s 18 x1 ((Int8.ofInt 8).toInt32) (s.1 16 2)) 18 x1 ((Int8.ofInt 10).toInt32) (s.1 14 2)) (by repeat (first | exact trivial | refine ⟨rfl, ?_⟩)) (by decide +kernel) ?_
  exact cf_R_ret (pc := 41) (v := some (.int x1)) rp_229 rfl rfl rfl ⟨_, rfl, h⟩
/-- LazyHouse$Parser.append (III)V, from 28 on -/
def wc_Parser_append_28 (d : Nat) (x1 : Int32) (s : cf_S) (Q : cf_S → Prop) : Prop := Q (tb_set s 18 x1 (Int32.ofInt 4) ((tb_get s 18 x1 (Int32.ofInt 4)) + (Int32.ofInt 1)))
set_option maxRecDepth 20000 in
theorem wc_Parser_append_28_ok {d : Nat} {x1 : Int32} {s : cf_S} {Q : cf_S → Prop} (h : wc_Parser_append_28 d x1 s Q) : cf_R (d + 10) 230 (28, [(0, .ref 22), (1, .int x1)], [], s) (cf_qV Q) := by
  unfold wc_Parser_append_28 at h
  refine cf_R_w rp_230 (rf_bk am_t230 15 8) 28 [(0, .ref 22), (1, .int x1)] [] s (by repeat (first | exact trivial | refine ⟨rfl, ?_⟩)) (by decide +kernel) ?_
  refine cf_R_prim (pc := 40) (q := ([.ref 18, .int x1, .int (Int32.ofInt 4)], [.int (Int32.ofInt 4), .int x1, .ref 18])) rp_230 rfl rfl (by decide) (by decide) rp_273 rfl (Nat.le_of_ble_eq_true rfl) ⟨rfl, Nat.le_of_ble_eq_true rfl⟩ (cq_get rfl) ?_
  refine cf_R_w rp_230 (rf_bk am_t230 24 2) 43 [(0, .ref 22), (1, .int x1)] [.int (tb_get s 18 x1 (Int32.ofInt 4)), .int (Int32.ofInt 4), .int x1, .ref 18] s (by repeat (first | exact trivial | refine ⟨rfl, ?_⟩)) (by decide +kernel) ?_
  refine cf_R_prim (pc := 45) (q := ([.ref 18, .int x1, .int (Int32.ofInt 4), .int ((tb_get s 18 x1 (Int32.ofInt 4)) + (Int32.ofInt 1))], [])) rp_230 rfl rfl (by decide) (by decide) rp_274 rfl (Nat.le_of_ble_eq_true rfl) ⟨rfl, Nat.le_of_ble_eq_true rfl⟩ (cq_set rfl) ?_
  exact cf_R_ret (pc := 48) rp_230 rfl rfl rfl ⟨rfl, h⟩
/-- LazyHouse$Parser.append (III)V, from 0 on -/
def wc_Parser_append (d : Nat) (x1 : Int32) (x2 : Int32) (x3 : Int32) (s : cf_S) (Q : cf_S → Prop) : Prop := ((¬ x2 = 0 → wc_Parser_append_28 d x1 (tb_set s 18 x2 ((Int8.ofInt 6).toInt32) x3) Q) ∧ (x2 = 0 → wc_Parser_append_28 d x1 (tb_set s 18 x1 (Int32.ofInt 3) x3) Q))
set_option maxRecDepth 20000 in
theorem wc_Parser_append_ok {d : Nat} {x1 : Int32} {x2 : Int32} {x3 : Int32} {s : cf_S} {Q : cf_S → Prop} (h : wc_Parser_append d x1 x2 x3 s Q) : cf_V (d + 10) 230 [(0, .ref 22), (1, .int x1), (2, .int x2), (3, .int x3)] s Q := by
  unfold wc_Parser_append at h
  unfold cf_V
  refine cf_R_w rp_230 (rf_bk am_t230 0 2) 0 [(0, .ref 22), (1, .int x1), (2, .int x2), (3, .int x3)] [] s (by repeat (first | exact trivial | refine ⟨rfl, ?_⟩)) (by decide +kernel) ?_
  refine cf_R_if (b := am_cnd .ne x2 0) (p := 17) (q := 4) (fun hb => ?_) (fun hb => ?_)
  · replace h := h.1 (of_decide_eq_true hb)
    refine cf_R_w rp_230 (rf_bk am_t230 9 5) 17 [(0, .ref 22), (1, .int x1), (2, .int x2), (3, .int x3)] [] s (by repeat (first | exact trivial | refine ⟨rfl, ?_⟩)) (by decide +kernel) ?_
    refine cf_R_prim (pc := 25) (q := ([.ref 18, .int x2, .int ((Int8.ofInt 6).toInt32), .int x3], [])) rp_230 rfl rfl (by decide) (by decide) rp_274 rfl (Nat.le_of_ble_eq_true rfl) ⟨rfl, Nat.le_of_ble_eq_true rfl⟩ (cq_set rfl) ?_
    exact cf_R_le (l := [(0, .ref 22), (1, .int x1)]) rfl rfl (⟨rfl, rfl, trivial⟩) (wc_Parser_append_28_ok h)
  · replace h := h.2 (Decidable.not_not.mp (of_decide_eq_false hb))
    refine cf_R_w rp_230 (rf_bk am_t230 2 5) 4 [(0, .ref 22), (1, .int x1), (2, .int x2), (3, .int x3)] [] s (by repeat (first | exact trivial | refine ⟨rfl, ?_⟩)) (by decide +kernel) ?_
    refine cf_R_prim (pc := 11) (q := ([.ref 18, .int x1, .int (Int32.ofInt 3), .int x3], [])) rp_230 rfl rfl (by decide) (by decide) rp_274 rfl (Nat.le_of_ble_eq_true rfl) ⟨rfl, Nat.le_of_ble_eq_true rfl⟩ (cq_set rfl) ?_
    refine cf_R_w rp_230 (rf_bk am_t230 8 1) 14 [(0, .ref 22), (1, .int x1), (2, .int x2), (3, .int x3)] [] (tb_set s 18 x1 (Int32.ofInt 3) x3) (by repeat (first | exact trivial | refine ⟨rfl, ?_⟩)) (by decide +kernel) ?_
    exact cf_R_le (l := [(0, .ref 22), (1, .int x1)]) rfl rfl (⟨rfl, rfl, trivial⟩) (wc_Parser_append_28_ok h)
/-- LazyHouse$Program.load (LLazyHouse$Bytes;)V, from 0 on -/
def wc_Program_load (d : Nat) (x1 : Nat) (s : cf_S) (Q : cf_S → Prop) : Prop := cf_V (d + 9) 233 [(0, .ref 3)] s (fun s1 => (cf_cls x1 = some 3 ∧ cf_V (d + 9) 125 [(0, .ref 4), (1, .ref x1), (2, .int (Int32.ofInt 0)), (3, .int (s1.1 x1 1))] (cf_si s1 3 1 (s1.1 x1 1)) (fun s2 => (∀ s3, s3 = by_L s2 4 → cf_I (d + 9) 234 [(0, .ref 3), (1, .ref 6), (2, .int (s3.1 3 1)), (3, .int (Int32.ofInt 3))] s3 (fun r4 s4 => cf_I (d + 9) 234 [(0, .ref 3), (1, .ref 6), (2, .int ((s4.1 3 1) + (Int32.ofInt 3))), (3, .int (Int32.ofInt 2))] s4 (fun r5 s5 => cf_I (d + 9) 234 [(0, .ref 3), (1, .ref 6), (2, .int ((s5.1 3 1) + (Int32.ofInt 5))), (3, .int (Int32.ofInt 4))] s5 (fun r6 s6 => cf_I (d + 9) 234 [(0, .ref 3), (1, .ref 6), (2, .int ((s6.1 3 1) + ((Int8.ofInt 9).toInt32))), (3, .int (Int32.ofInt 2))] s6 (fun r7 s7 => cf_I (d + 9) 234 [(0, .ref 3), (1, .ref 6), (2, .int ((s7.1 3 1) + ((Int8.ofInt 11).toInt32))), (3, .int (Int32.ofInt 4))] s7 (fun r8 s8 => cf_I (d + 9) 234 [(0, .ref 3), (1, .ref 8), (2, .int ((s8.1 3 1) + ((Int8.ofInt 15).toInt32))), (3, .int (Int32.ofInt 4))] s8 (fun r9 s9 => cf_I (d + 9) 234 [(0, .ref 3), (1, .ref 8), (2, .int ((s9.1 3 1) + ((Int8.ofInt 19).toInt32))), (3, .int (Int32.ofInt 5))] s9 (fun r10 s10 => Q s10)))))))))))
set_option maxRecDepth 20000 in
theorem wc_Program_load_ok {d : Nat} {x1 : Nat} {s : cf_S} {Q : cf_S → Prop} (h : wc_Program_load d x1 s Q) : cf_V (d + 10) 232 [(0, .ref 3), (1, .ref x1)] s Q := by
  unfold wc_Program_load at h
  unfold cf_V
  refine cf_R_w rp_232 (rf_bk am_t232 0 1) 0 [(0, .ref 3), (1, .ref x1)] [] s (by repeat (first | exact trivial | refine ⟨rfl, ?_⟩)) (by decide +kernel) ?_
  refine cf_R_call (pc := 1) (q := ([.ref 3], [])) rp_232 rfl rfl (by decide) (by decide) rp_233 rfl (Nat.le_of_ble_eq_true rfl) ⟨rfl, Nat.le_of_ble_eq_true rfl⟩ h (fun v s1 h => ?_)
  obtain ⟨rfl, h⟩ := h
  refine cf_R_w rp_232 (rf_bk am_t232 2 2) 4 [(0, .ref 3), (1, .ref x1)] [] s1 (by repeat (first | exact trivial | refine ⟨rfl, ?_⟩)) (by decide +kernel) ?_
  have hc := h.1
  replace h := h.2
  refine cf_R_prim (pc := 6) (q := ([.ref x1], [.ref 3])) rp_232 rfl rfl (by decide) (by decide) rp_118 rfl (Nat.le_of_ble_eq_true rfl) ⟨decide_eq_true hc, Nat.le_of_ble_eq_true rfl⟩ (cq_length hc) ?_
  refine cf_R_w rp_232 (rf_bk am_t232 5 1) 9 [(0, .ref 3), (1, .ref x1)] [.int (s1.1 x1 1), .ref 3] s1 (by repeat (first | exact trivial | refine ⟨rfl, ?_⟩)) (by decide +kernel) ?_
  refine And.intro rfl ?_
  refine cf_R_w rp_232 (rf_bk am_t232 6 6) 12 [(0, .ref 3), (1, .ref x1)] [] (cf_si s1 3 1 (s1.1 x1 1)) (by repeat (first | exact trivial | refine ⟨rfl, ?_⟩)) (by decide +kernel) ?_
  refine cf_R_call (pc := 22) (q := ([.ref 4, .ref x1, .int (Int32.ofInt 0), .int (s1.1 x1 1)], [])) rp_232 rfl rfl (by decide) (by decide) rp_125 rfl (Nat.le_of_ble_eq_true rfl) ⟨rfl, Nat.le_of_ble_eq_true rfl⟩ h (fun v s2 h => ?_)
  obtain ⟨rfl, h⟩ := h
  refine cf_R_w rp_232 (rf_bk am_t232 13 3) 25 [(0, .ref 3), (1, .ref x1)] [] s2 (by repeat (first | exact trivial | refine ⟨rfl, ?_⟩)) (by decide +kernel) ?_
  refine cf_R_prim (pc := 31) (q := ([.ref 4, .ref 1000000001], [])) rp_232 rfl rfl (by decide) (by decide) rp_124 rfl (Nat.le_of_ble_eq_true rfl) ⟨rfl, Nat.le_of_ble_eq_true rfl⟩ (cq_let rfl) ?_
  obtain ⟨s3, hs3⟩ : ∃ x, x = by_L s2 4 := ⟨_, rfl⟩
  replace h := h s3 hs3
  rw [← hs3]
  clear hs3
  refine cf_R_w rp_232 (rf_bk am_t232 17 6) 34 [(0, .ref 3), (1, .ref x1)] [] s3 (by repeat (first | exact trivial | refine ⟨rfl, ?_⟩)) (by decide +kernel) ?_
  refine cf_R_call (pc := 44) (q := ([.ref 3, .ref 6, .int (s3.1 3 1), .int (Int32.ofInt 3)], [])) rp_232 rfl rfl (by decide) (by decide) rp_234 rfl (Nat.le_of_ble_eq_true rfl) ⟨rfl, Nat.le_of_ble_eq_true rfl⟩ h (fun v s4 h => ?_)
  obtain ⟨r4, rfl, h⟩ := h
  refine cf_R_w rp_232 (rf_bk am_t232 24 9) 47 [(0, .ref 3), (1, .ref x1)] [.int r4] s4 (by repeat (first | exact trivial | refine ⟨rfl, ?_⟩)) (by decide +kernel) ?_
  refine cf_R_call (pc := 60) (q := ([.ref 3, .ref 6, .int ((s4.1 3 1) + (Int32.ofInt 3)), .int (Int32.ofInt 2)], [])) rp_232 rfl rfl (by decide) (by decide) rp_234 rfl (Nat.le_of_ble_eq_true rfl) ⟨rfl, Nat.le_of_ble_eq_true rfl⟩ h (fun v s5 h => ?_)
  obtain ⟨r5, rfl, h⟩ := h
  refine cf_R_w rp_232 (rf_bk am_t232 34 9) 63 [(0, .ref 3), (1, .ref x1)] [.int r5] s5 (by repeat (first | exact trivial | refine ⟨rfl, ?_⟩)) (by decide +kernel) ?_
  refine cf_R_call (pc := 76) (q := ([.ref 3, .ref 6, .int ((s5.1 3 1) + (Int32.ofInt 5)), .int (Int32.ofInt 4)], [])) rp_232 rfl rfl (by decide) (by decide) rp_234 rfl (Nat.le_of_ble_eq_true rfl) ⟨rfl, Nat.le_of_ble_eq_true rfl⟩ h (fun v s6 h => ?_)
  obtain ⟨r6, rfl, h⟩ := h
  refine cf_R_w rp_232 (rf_bk am_t232 44 9) 79 [(0, .ref 3), (1, .ref x1)] [.int r6] s6 (by repeat (first | exact trivial | refine ⟨rfl, ?_⟩)) (by decide +kernel) ?_
  refine cf_R_call (pc := 93) (q := ([.ref 3, .ref 6, .int ((s6.1 3 1) + ((Int8.ofInt 9).toInt32)), .int (Int32.ofInt 2)], [])) rp_232 rfl rfl (by decide) (by decide) rp_234 rfl (Nat.le_of_ble_eq_true rfl) ⟨rfl, Nat.le_of_ble_eq_true rfl⟩ h (fun v s7 h => ?_)
  obtain ⟨r7, rfl, h⟩ := h
  refine cf_R_w rp_232 (rf_bk am_t232 54 9) 96 [(0, .ref 3), (1, .ref x1)] [.int r7] s7 (by repeat (first | exact trivial | refine ⟨rfl, ?_⟩)) (by decide +kernel) ?_
  refine cf_R_call (pc := 110) (q := ([.ref 3, .ref 6, .int ((s7.1 3 1) + ((Int8.ofInt 11).toInt32)), .int (Int32.ofInt 4)], [])) rp_232 rfl rfl (by decide) (by decide) rp_234 rfl (Nat.le_of_ble_eq_true rfl) ⟨rfl, Nat.le_of_ble_eq_true rfl⟩ h (fun v s8 h => ?_)
  obtain ⟨r8, rfl, h⟩ := h
  refine cf_R_w rp_232 (rf_bk am_t232 64 9) 113 [(0, .ref 3), (1, .ref x1)] [.int r8] s8 (by repeat (first | exact trivial | refine ⟨rfl, ?_⟩)) (by decide +kernel) ?_
  refine cf_R_call (pc := 127) (q := ([.ref 3, .ref 8, .int ((s8.1 3 1) + ((Int8.ofInt 15).toInt32)), .int (Int32.ofInt 4)], [])) rp_232 rfl rfl (by decide) (by decide) rp_234 rfl (Nat.le_of_ble_eq_true rfl) ⟨rfl, Nat.le_of_ble_eq_true rfl⟩ h (fun v s9 h => ?_)
  obtain ⟨r9, rfl, h⟩ := h
  refine cf_R_w rp_232 (rf_bk am_t232 74 9) 130 [(0, .ref 3), (1, .ref x1)] [.int r9] s9 (by repeat (first | exact trivial | refine ⟨rfl, ?_⟩)) (by decide +kernel) ?_
  refine cf_R_call (pc := 144) (q := ([.ref 3, .ref 8, .int ((s9.1 3 1) + ((Int8.ofInt 19).toInt32)), .int (Int32.ofInt 5)], [])) rp_232 rfl rfl (by decide) (by decide) rp_234 rfl (Nat.le_of_ble_eq_true rfl) ⟨rfl, Nat.le_of_ble_eq_true rfl⟩ h (fun v s10 h => ?_)
  obtain ⟨r10, rfl, h⟩ := h
  refine cf_R_w rp_232 (rf_bk am_t232 84 1) 147 [(0, .ref 3), (1, .ref x1)] [.int r10] s10 (by repeat (first | exact trivial | refine ⟨rfl, ?_⟩)) (by decide +kernel) ?_
  exact cf_R_ret (pc := 148) rp_232 rfl rfl rfl ⟨rfl, h⟩
/-- LazyHouse$Program.clear ()V, from 0 on -/
def wc_Program_clear (d : Nat) (s : cf_S) (Q : cf_S → Prop) : Prop := Q (cf_si (tb_cut (tb_cut (tb_cut (tb_cut (tb_cut (tb_cut (tb_cut (tb_cut (by_c s 4 (Int32.ofInt 0)) 6 (Int32.ofInt 1)) 8 (Int32.ofInt 1)) 10 (Int32.ofInt 1)) 12 (Int32.ofInt 1)) 14 (Int32.ofInt 1)) 16 (Int32.ofInt 1)) 18 (Int32.ofInt 1)) 20 (Int32.ofInt 1)) 3 10 (Int32.ofInt 0))
set_option maxRecDepth 20000 in
theorem wc_Program_clear_ok {d : Nat} {s : cf_S} {Q : cf_S → Prop} (h : wc_Program_clear d s Q) : cf_V (d + 10) 233 [(0, .ref 3)] s Q := by
  unfold wc_Program_clear at h
  unfold cf_V
  refine cf_R_w rp_233 (rf_bk am_t233 0 3) 0 [(0, .ref 3)] [] s (by repeat (first | exact trivial | refine ⟨rfl, ?_⟩)) (by decide +kernel) ?_
  refine cf_R_prim (pc := 5) (q := ([.ref 4, .int (Int32.ofInt 0)], [])) rp_233 rfl rfl (by decide) (by decide) rp_121 rfl (Nat.le_of_ble_eq_true rfl) ⟨rfl, Nat.le_of_ble_eq_true rfl⟩ (cq_cut rfl) ?_
  refine cf_R_w rp_233 (rf_bk am_t233 4 3) 8 [(0, .ref 3)] [] (by_c s 4 (Int32.ofInt 0)) (by repeat (first | exact trivial | refine ⟨rfl, ?_⟩)) (by decide +kernel) ?_
  refine cf_R_prim (pc := 13) (q := ([.ref 6, .int (Int32.ofInt 1)], [])) rp_233 rfl rfl (by decide) (by decide) rp_271 rfl (Nat.le_of_ble_eq_true rfl) ⟨rfl, Nat.le_of_ble_eq_true rfl⟩ (cq_tcut rfl) ?_
  refine cf_R_w rp_233 (rf_bk am_t233 8 3) 16 [(0, .ref 3)] [] (tb_cut (by_c s 4 (Int32.ofInt 0)) 6 (Int32.ofInt 1)) (by repeat (first | exact trivial | refine ⟨rfl, ?_⟩)) (by decide +kernel) ?_
  refine cf_R_prim (pc := 21) (q := ([.ref 8, .int (Int32.ofInt 1)], [])) rp_233 rfl rfl (by decide) (by decide) rp_271 rfl (Nat.le_of_ble_eq_true rfl) ⟨rfl, Nat.le_of_ble_eq_true rfl⟩ (cq_tcut rfl) ?_
  refine cf_R_w rp_233 (rf_bk am_t233 12 3) 24 [(0, .ref 3)] [] (tb_cut (tb_cut (by_c s 4 (Int32.ofInt 0)) 6 (Int32.ofInt 1)) 8 (Int32.ofInt 1)) (by repeat (first | exact trivial | refine ⟨rfl, ?_⟩)) (by decide +kernel) ?_
  refine cf_R_prim (pc := 29) (q := ([.ref 10, .int (Int32.ofInt 1)], [])) rp_233 rfl rfl (by decide) (by decide) rp_271 rfl (Nat.le_of_ble_eq_true rfl) ⟨rfl, Nat.le_of_ble_eq_true rfl⟩ (cq_tcut rfl) ?_
  refine cf_R_w rp_233 (rf_bk am_t233 16 3) 32 [(0, .ref 3)] [] (tb_cut (tb_cut (tb_cut (by_c s 4 (Int32.ofInt 0)) 6 (Int32.ofInt 1)) 8 (Int32.ofInt 1)) 10 (Int32.ofInt 1)) (by repeat (first | exact trivial | refine ⟨rfl, ?_⟩)) (by decide +kernel) ?_
  refine cf_R_prim (pc := 37) (q := ([.ref 12, .int (Int32.ofInt 1)], [])) rp_233 rfl rfl (by decide) (by decide) rp_271 rfl (Nat.le_of_ble_eq_true rfl) ⟨rfl, Nat.le_of_ble_eq_true rfl⟩ (cq_tcut rfl) ?_
  refine cf_R_w rp_233 (rf_bk am_t233 20 3) 40 [(0, .ref 3)] [] (tb_cut (tb_cut (tb_cut (tb_cut (by_c s 4 (Int32.ofInt 0)) 6 (Int32.ofInt 1)) 8 (Int32.ofInt 1)) 10 (Int32.ofInt 1)) 12 (Int32.ofInt 1)) (by repeat (first | exact trivial | refine ⟨rfl, ?_⟩)) (by decide +kernel) ?_
  refine cf_R_prim (pc := 45) (q := ([.ref 14, .int (Int32.ofInt 1)], [])) rp_233 rfl rfl (by decide) (by decide) rp_271 rfl (Nat.le_of_ble_eq_true rfl) ⟨rfl, Nat.le_of_ble_eq_true rfl⟩ (cq_tcut rfl) ?_
  refine cf_R_w rp_233 (rf_bk am_t233 24 3) 48 [(0, .ref 3)] [] (tb_cut (tb_cut (tb_cut (tb_cut (tb_cut (by_c s 4 (Int32.ofInt 0)) 6 (Int32.ofInt 1)) 8 (Int32.ofInt 1)) 10 (Int32.ofInt 1)) 12 (Int32.ofInt 1)) 14 (Int32.ofInt 1)) (by repeat (first | exact trivial | refine ⟨rfl, ?_⟩)) (by decide +kernel) ?_
  refine cf_R_prim (pc := 53) (q := ([.ref 16, .int (Int32.ofInt 1)], [])) rp_233 rfl rfl (by decide) (by decide) rp_271 rfl (Nat.le_of_ble_eq_true rfl) ⟨rfl, Nat.le_of_ble_eq_true rfl⟩ (cq_tcut rfl) ?_
  refine cf_R_w rp_233 (rf_bk am_t233 28 3) 56 [(0, .ref 3)] [] (tb_cut (tb_cut (tb_cut (tb_cut (tb_cut (tb_cut (by_c s 4 (Int32.ofInt 0)) 6 (Int32.ofInt 1)) 8 (Int32.ofInt 1)) 10 (Int32.ofInt 1)) 12 (Int32.ofInt 1)) 14 (Int32.ofInt 1)) 16 (Int32.ofInt 1)) (by repeat (first | exact trivial | refine ⟨rfl, ?_⟩)) (by decide +kernel) ?_
  refine cf_R_prim (pc := 61) (q := ([.ref 18, .int (Int32.ofInt 1)], [])) rp_233 rfl rfl (by decide) (by decide) rp_271 rfl (Nat.le_of_ble_eq_true rfl) ⟨rfl, Nat.le_of_ble_eq_true rfl⟩ (cq_tcut rfl) ?_
  refine cf_R_w rp_233 (rf_bk am_t233 32 3) 64 [(0, .ref 3)] [] (tb_cut (tb_cut (tb_cut (tb_cut (tb_cut (tb_cut (tb_cut (by_c s 4 (Int32.ofInt 0)) 6 (Int32.ofInt 1)) 8 (Int32.ofInt 1)) 10 (Int32.ofInt 1)) 12 (Int32.ofInt 1)) 14 (Int32.ofInt 1)) 16 (Int32.ofInt 1)) 18 (Int32.ofInt 1)) (by repeat (first | exact trivial | refine ⟨rfl, ?_⟩)) (by decide +kernel) ?_
  refine cf_R_prim (pc := 69) (q := ([.ref 20, .int (Int32.ofInt 1)], [])) rp_233 rfl rfl (by decide) (by decide) rp_271 rfl (Nat.le_of_ble_eq_true rfl) ⟨rfl, Nat.le_of_ble_eq_true rfl⟩ (cq_tcut rfl) ?_
  refine cf_R_w rp_233 (rf_bk am_t233 36 3) 72 [(0, .ref 3)] [] (tb_cut (tb_cut (tb_cut (tb_cut (tb_cut (tb_cut (tb_cut (tb_cut (by_c s 4 (Int32.ofInt 0)) 6 (Int32.ofInt 1)) 8 (Int32.ofInt 1)) 10 (Int32.ofInt 1)) 12 (Int32.ofInt 1)) 14 (Int32.ofInt 1)) 16 (Int32.ofInt 1)) 18 (Int32.ofInt 1)) 20 (Int32.ofInt 1)) (by repeat (first | exact trivial | refine ⟨rfl, ?_⟩)) (by decide +kernel) ?_
  refine And.intro rfl ?_
  exact cf_R_ret (pc := 77) rp_233 rfl rfl rfl ⟨rfl, h⟩
/-- LazyHouse$Program.spelled (LLazyHouse$Table;II)I, from 79 on -/
def wc_Program_spelled_79 (d : Nat) (x1 : Nat) (x2 : Int32) (x3 : Int32) (x4 : Int32) (x6 : Int32) (s : cf_S) (Q : Int32 → cf_S → Prop) : Prop := ((¬ x6 = x3 → cf_R (d + 10) 234 (3, [(0, .ref 3), (1, .ref x1), (2, .int x2), (3, .int x3), (4, .int (x4 + Int32.ofInt 1))], [], s) (cf_qI Q)) ∧ (x6 = x3 → Q x4 s))
set_option maxRecDepth 20000 in
theorem wc_Program_spelled_79_ok {d : Nat} {x1 : Nat} {x2 : Int32} {x3 : Int32} {x4 : Int32} {x6 : Int32} {s : cf_S} {Q : Int32 → cf_S → Prop} (h : wc_Program_spelled_79 d x1 x2 x3 x4 x6 s Q) : cf_R (d + 10) 234 (79, [(0, .ref 3), (1, .ref x1), (2, .int x2), (3, .int x3), (4, .int x4), (6, .int x6)], [], s) (cf_qI Q) := by
  unfold wc_Program_spelled_79 at h
  refine cf_R_w rp_234 (rf_bk am_t234 41 3) 79 [(0, .ref 3), (1, .ref x1), (2, .int x2), (3, .int x3), (4, .int x4), (6, .int x6)] [] s (by repeat (first | exact trivial | refine ⟨rfl, ?_⟩)) (by decide +kernel) ?_
  refine cf_R_if (b := am_cnd .ne x6 x3) (p := 88) (q := 85) (fun hb => ?_) (fun hb => ?_)
  · replace h := h.1 (of_decide_eq_true hb)
    refine cf_R_w rp_234 (rf_bk am_t234 46 2) 88 [(0, .ref 3), (1, .ref x1), (2, .int x2), (3, .int x3), (4, .int x4), (6, .int x6)] [] s (by repeat (first | exact trivial | refine ⟨rfl, ?_⟩)) (by decide +kernel) ?_
    exact cf_R_le (l := [(0, .ref 3), (1, .ref x1), (2, .int x2), (3, .int x3), (4, .int (x4 + Int32.ofInt 1))]) rfl rfl (⟨rfl, rfl, rfl, rfl, rfl, trivial⟩) h
  · replace h := h.2 (Decidable.not_not.mp (of_decide_eq_false hb))
    refine cf_R_w rp_234 (rf_bk am_t234 44 1) 85 [(0, .ref 3), (1, .ref x1), (2, .int x2), (3, .int x3), (4, .int x4), (6, .int x6)] [] s (by repeat (first | exact trivial | refine ⟨rfl, ?_⟩)) (by decide +kernel) ?_
    exact cf_R_ret (pc := 87) (v := some (.int x4)) rp_234 rfl rfl rfl ⟨_, rfl, h⟩
/-- LazyHouse$Program.spelled (LLazyHouse$Table;II)I, from 41 on -/
def wc_Program_spelled_41 (d : Nat) (x1 : Nat) (x2 : Int32) (x3 : Int32) (x4 : Int32) (x5 : Int32) (x6 : Int32) (s : cf_S) (Q : Int32 → cf_S → Prop) : Prop := ((x3 ≤ x6 → wc_Program_spelled_79 d x1 x2 x3 x4 x6 s Q) ∧ (¬ (x3 ≤ x6) → ((¬ (by_g s 4 (x5 + x6)) = (by_g s 4 (x2 + x6)) → wc_Program_spelled_79 d x1 x2 x3 x4 x6 s Q) ∧ ((by_g s 4 (x5 + x6)) = (by_g s 4 (x2 + x6)) → cf_R (d + 10) 234 (41, [(0, .ref 3), (1, .ref x1), (2, .int x2), (3, .int x3), (4, .int x4), (5, .int x5), (6, .int (x6 + Int32.ofInt 1))], [], s) (cf_qI Q)))))
set_option maxRecDepth 20000 in
theorem wc_Program_spelled_41_ok {d : Nat} {x1 : Nat} {x2 : Int32} {x3 : Int32} {x4 : Int32} {x5 : Int32} {x6 : Int32} {s : cf_S} {Q : Int32 → cf_S → Prop} (h : wc_Program_spelled_41 d x1 x2 x3 x4 x5 x6 s Q) : cf_R (d + 10) 234 (41, [(0, .ref 3), (1, .ref x1), (2, .int x2), (3, .int x3), (4, .int x4), (5, .int x5), (6, .int x6)], [], s) (cf_qI Q) := by
  unfold wc_Program_spelled_41 at h
  refine cf_R_w rp_234 (rf_bk am_t234 23 3) 41 [(0, .ref 3), (1, .ref x1), (2, .int x2), (3, .int x3), (4, .int x4), (5, .int x5), (6, .int x6)] [] s (by repeat (first | exact trivial | refine ⟨rfl, ?_⟩)) (by decide +kernel) ?_
  refine cf_R_if (b := am_cnd .ge x6 x3) (p := 79) (q := 47) (fun hb => ?_) (fun hb => ?_)
  · replace h := h.1 (of_decide_eq_true hb)
    exact cf_R_le (l := [(0, .ref 3), (1, .ref x1), (2, .int x2), (3, .int x3), (4, .int x4), (6, .int x6)]) rfl rfl (⟨rfl, rfl, rfl, rfl, rfl, rfl, trivial⟩) (wc_Program_spelled_79_ok h)
  · replace h := h.2 (of_decide_eq_false hb)
    refine cf_R_w rp_234 (rf_bk am_t234 26 5) 47 [(0, .ref 3), (1, .ref x1), (2, .int x2), (3, .int x3), (4, .int x4), (5, .int x5), (6, .int x6)] [] s (by repeat (first | exact trivial | refine ⟨rfl, ?_⟩)) (by decide +kernel) ?_
    refine cf_R_prim (pc := 56) (q := ([.ref 4, .int (x5 + x6)], [])) rp_234 rfl rfl (by decide) (by decide) rp_120 rfl (Nat.le_of_ble_eq_true rfl) ⟨rfl, Nat.le_of_ble_eq_true rfl⟩ (cq_at rfl) ?_
    refine cf_R_w rp_234 (rf_bk am_t234 32 5) 59 [(0, .ref 3), (1, .ref x1), (2, .int x2), (3, .int x3), (4, .int x4), (5, .int x5), (6, .int x6)] [.int (by_g s 4 (x5 + x6))] s (by repeat (first | exact trivial | refine ⟨rfl, ?_⟩)) (by decide +kernel) ?_
    refine cf_R_prim (pc := 67) (q := ([.ref 4, .int (x2 + x6)], [.int (by_g s 4 (x5 + x6))])) rp_234 rfl rfl (by decide) (by decide) rp_120 rfl (Nat.le_of_ble_eq_true rfl) ⟨rfl, Nat.le_of_ble_eq_true rfl⟩ (cq_at rfl) ?_
    refine cf_R_w rp_234 (rf_bk am_t234 38 1) 70 [(0, .ref 3), (1, .ref x1), (2, .int x2), (3, .int x3), (4, .int x4), (5, .int x5), (6, .int x6)] [.int (by_g s 4 (x2 + x6)), .int (by_g s 4 (x5 + x6))] s (by repeat (first | exact trivial | refine ⟨rfl, ?_⟩)) (by decide +kernel) ?_
    refine cf_R_if (b := am_cnd .ne (by_g s 4 (x5 + x6)) (by_g s 4 (x2 + x6))) (p := 79) (q := 73) (fun hb => ?_) (fun hb => ?_)
    · replace h := h.1 (of_decide_eq_true hb)
      exact cf_R_le (l := [(0, .ref 3), (1, .ref x1), (2, .int x2), (3, .int x3), (4, .int x4), (6, .int x6)]) rfl rfl (⟨rfl, rfl, rfl, rfl, rfl, rfl, trivial⟩) (wc_Program_spelled_79_ok h)
    · replace h := h.2 (Decidable.not_not.mp (of_decide_eq_false hb))
      refine cf_R_w rp_234 (rf_bk am_t234 39 2) 73 [(0, .ref 3), (1, .ref x1), (2, .int x2), (3, .int x3), (4, .int x4), (5, .int x5), (6, .int x6)] [] s (by repeat (first | exact trivial | refine ⟨rfl, ?_⟩)) (by decide +kernel) ?_
      exact cf_R_le (l := [(0, .ref 3), (1, .ref x1), (2, .int x2), (3, .int x3), (4, .int x4), (5, .int x5), (6, .int (x6 + Int32.ofInt 1))]) rfl rfl (⟨rfl, rfl, rfl, rfl, rfl, rfl, rfl, trivial⟩) h
/-- LazyHouse$Program.spelled (LLazyHouse$Table;II)I, from 39 on -/
def wc_Program_spelled_39 (d : Nat) (x1 : Nat) (x2 : Int32) (x3 : Int32) (x4 : Int32) (x5 : Int32) (y0 : Int32) (s : cf_S) (Q : Int32 → cf_S → Prop) : Prop := cf_R (d + 10) 234 (41, [(0, .ref 3), (1, .ref x1), (2, .int x2), (3, .int x3), (4, .int x4), (5, .int x5), (6, .int y0)], [], s) (cf_qI Q)
set_option maxRecDepth 20000 in
theorem wc_Program_spelled_39_ok {d : Nat} {x1 : Nat} {x2 : Int32} {x3 : Int32} {x4 : Int32} {x5 : Int32} {y0 : Int32} {s : cf_S} {Q : Int32 → cf_S → Prop} (h : wc_Program_spelled_39 d x1 x2 x3 x4 x5 y0 s Q) : cf_R (d + 10) 234 (39, [(0, .ref 3), (1, .ref x1), (2, .int x2), (3, .int x3), (4, .int x4), (5, .int x5)], [.int y0], s) (cf_qI Q) := by
  unfold wc_Program_spelled_39 at h
  refine cf_R_w rp_234 (rf_bk am_t234 22 1) 39 [(0, .ref 3), (1, .ref x1), (2, .int x2), (3, .int x3), (4, .int x4), (5, .int x5)] [.int y0] s (by repeat (first | exact trivial | refine ⟨rfl, ?_⟩)) (by decide +kernel) ?_
  exact cf_R_le (l := [(0, .ref 3), (1, .ref x1), (2, .int x2), (3, .int x3), (4, .int x4), (5, .int x5), (6, .int y0)]) rfl rfl (⟨rfl, rfl, rfl, rfl, rfl, rfl, rfl, trivial⟩) h
/-- LazyHouse$Program.spelled (LLazyHouse$Table;II)I, from 3 on -/
def wc_Program_spelled_3 (d : Nat) (x1 : Nat) (x2 : Int32) (x3 : Int32) (x4 : Int32) (s : cf_S) (Q : Int32 → cf_S → Prop) : Prop := (cf_cls x1 = some 10 ∧ (((s.1 x1 2) ≤ x4 → (cf_cls x1 = some 10 ∧ cf_N s + 1 < 1000000000 ∧ (cf_cls x1 = some 10 ∧ (cf_cls x1 = some 10 ∧ Q (tb_new s x1) (tb_set (tb_set (tb_add s x1) x1 (tb_new s x1) (Int32.ofInt 0) x2) x1 (tb_new s x1) (Int32.ofInt 1) x3))))) ∧ (¬ ((s.1 x1 2) ≤ x4) → (cf_cls x1 = some 10 ∧ (cf_cls x1 = some 10 ∧ ((¬ (tb_get s x1 x4 (Int32.ofInt 1)) = x3 → wc_Program_spelled_39 d x1 x2 x3 x4 (tb_get s x1 x4 (Int32.ofInt 0)) (x3 + (Int32.ofInt 1)) s Q) ∧ ((tb_get s x1 x4 (Int32.ofInt 1)) = x3 → wc_Program_spelled_39 d x1 x2 x3 x4 (tb_get s x1 x4 (Int32.ofInt 0)) (Int32.ofInt 0) s Q)))))))
set_option maxRecDepth 20000 in
theorem wc_Program_spelled_3_ok {d : Nat} {x1 : Nat} {x2 : Int32} {x3 : Int32} {x4 : Int32} {s : cf_S} {Q : Int32 → cf_S → Prop} (h : wc_Program_spelled_3 d x1 x2 x3 x4 s Q) : cf_R (d + 10) 234 (3, [(0, .ref 3), (1, .ref x1), (2, .int x2), (3, .int x3), (4, .int x4)], [], s) (cf_qI Q) := by
  unfold wc_Program_spelled_3 at h
  refine cf_R_w rp_234 (rf_bk am_t234 2 2) 3 [(0, .ref 3), (1, .ref x1), (2, .int x2), (3, .int x3), (4, .int x4)] [] s (by repeat (first | exact trivial | refine ⟨rfl, ?_⟩)) (by decide +kernel) ?_
  have hc := h.1
  replace h := h.2
  refine cf_R_prim (pc := 6) (q := ([.ref x1], [.int x4])) rp_234 rfl rfl (by decide) (by decide) rp_270 rfl (Nat.le_of_ble_eq_true rfl) ⟨decide_eq_true hc, Nat.le_of_ble_eq_true rfl⟩ (cq_rows hc) ?_
  refine cf_R_w rp_234 (rf_bk am_t234 5 1) 9 [(0, .ref 3), (1, .ref x1), (2, .int x2), (3, .int x3), (4, .int x4)] [.int (s.1 x1 2), .int x4] s (by repeat (first | exact trivial | refine ⟨rfl, ?_⟩)) (by decide +kernel) ?_
  refine cf_R_if (b := am_cnd .ge x4 (s.1 x1 2)) (p := 94) (q := 12) (fun hb => ?_) (fun hb => ?_)
  · replace h := h.1 (of_decide_eq_true hb)
    refine cf_R_w rp_234 (rf_bk am_t234 48 1) 94 [(0, .ref 3), (1, .ref x1), (2, .int x2), (3, .int x3), (4, .int x4)] [] s (by repeat (first | exact trivial | refine ⟨rfl, ?_⟩)) (by decide +kernel) ?_
    have hc := h.1
    replace h := h.2
    have hr := h.1
    replace h := h.2
    refine cf_R_prim (pc := 95) (q := ([.ref x1], [])) rp_234 rfl rfl (by decide) (by decide) rp_272 rfl (Nat.le_of_ble_eq_true rfl) ⟨decide_eq_true hc, Nat.le_of_ble_eq_true rfl⟩ (cq_tadd hc hr) ?_
    refine cf_R_w rp_234 (rf_bk am_t234 50 5) 98 [(0, .ref 3), (1, .ref x1), (2, .int x2), (3, .int x3), (4, .int x4)] [.int (tb_new s x1)] (tb_add s x1) (by repeat (first | exact trivial | refine ⟨rfl, ?_⟩)) (by decide +kernel) ?_
    have hc := h.1
    replace h := h.2
    refine cf_R_prim (pc := 105) (q := ([.ref x1, .int (tb_new s x1), .int (Int32.ofInt 0), .int x2], [])) rp_234 rfl rfl (by decide) (by decide) rp_274 rfl (Nat.le_of_ble_eq_true rfl) ⟨decide_eq_true hc, Nat.le_of_ble_eq_true rfl⟩ (cq_set hc) ?_
    refine cf_R_w rp_234 (rf_bk am_t234 56 4) 108 [(4, .int (tb_new s x1)), (0, .ref 3), (1, .ref x1), (2, .int x2), (3, .int x3)] [] (tb_set (tb_add s x1) x1 (tb_new s x1) (Int32.ofInt 0) x2) (by repeat (first | exact trivial | refine ⟨rfl, ?_⟩)) (by decide +kernel) ?_
    have hc := h.1
    replace h := h.2
    refine cf_R_prim (pc := 113) (q := ([.ref x1, .int (tb_new s x1), .int (Int32.ofInt 1), .int x3], [])) rp_234 rfl rfl (by decide) (by decide) rp_274 rfl (Nat.le_of_ble_eq_true rfl) ⟨decide_eq_true hc, Nat.le_of_ble_eq_true rfl⟩ (cq_set hc) ?_
    refine cf_R_w rp_234 (rf_bk am_t234 61 1) 116 [(4, .int (tb_new s x1)), (0, .ref 3), (1, .ref x1), (2, .int x2), (3, .int x3)] [] (tb_set (tb_set (tb_add s x1) x1 (tb_new s x1) (Int32.ofInt 0) x2) x1 (tb_new s x1) (Int32.ofInt 1) x3) (by repeat (first | exact trivial | refine ⟨rfl, ?_⟩)) (by decide +kernel) ?_
    exact cf_R_ret (pc := 118) (v := some (.int (tb_new s x1))) rp_234 rfl rfl rfl ⟨_, rfl, h⟩
  · replace h := h.2 (of_decide_eq_false hb)
    refine cf_R_w rp_234 (rf_bk am_t234 6 3) 12 [(0, .ref 3), (1, .ref x1), (2, .int x2), (3, .int x3), (4, .int x4)] [] s (by repeat (first | exact trivial | refine ⟨rfl, ?_⟩)) (by decide +kernel) ?_
    have hc := h.1
    replace h := h.2
    refine cf_R_prim (pc := 16) (q := ([.ref x1, .int x4, .int (Int32.ofInt 0)], [])) rp_234 rfl rfl (by decide) (by decide) rp_273 rfl (Nat.le_of_ble_eq_true rfl) ⟨decide_eq_true hc, Nat.le_of_ble_eq_true rfl⟩ (cq_get hc) ?_
    refine cf_R_w rp_234 (rf_bk am_t234 10 4) 19 [(0, .ref 3), (1, .ref x1), (2, .int x2), (3, .int x3), (4, .int x4)] [.int (tb_get s x1 x4 (Int32.ofInt 0))] s (by repeat (first | exact trivial | refine ⟨rfl, ?_⟩)) (by decide +kernel) ?_
    have hc := h.1
    replace h := h.2
    refine cf_R_prim (pc := 25) (q := ([.ref x1, .int x4, .int (Int32.ofInt 1)], [])) rp_234 rfl rfl (by decide) (by decide) rp_273 rfl (Nat.le_of_ble_eq_true rfl) ⟨decide_eq_true hc, Nat.le_of_ble_eq_true rfl⟩ (cq_get hc) ?_
    refine cf_R_w rp_234 (rf_bk am_t234 15 2) 28 [(5, .int (tb_get s x1 x4 (Int32.ofInt 0))), (0, .ref 3), (1, .ref x1), (2, .int x2), (3, .int x3), (4, .int x4)] [.int (tb_get s x1 x4 (Int32.ofInt 1))] s (by repeat (first | exact trivial | refine ⟨rfl, ?_⟩)) (by decide +kernel) ?_
    refine cf_R_if (b := am_cnd .ne (tb_get s x1 x4 (Int32.ofInt 1)) x3) (p := 36) (q := 32) (fun hb => ?_) (fun hb => ?_)
    · replace h := h.1 (of_decide_eq_true hb)
      refine cf_R_w rp_234 (rf_bk am_t234 19 3) 36 [(5, .int (tb_get s x1 x4 (Int32.ofInt 0))), (0, .ref 3), (1, .ref x1), (2, .int x2), (3, .int x3), (4, .int x4)] [] s (by repeat (first | exact trivial | refine ⟨rfl, ?_⟩)) (by decide +kernel) ?_
      exact cf_R_le (l := [(0, .ref 3), (1, .ref x1), (2, .int x2), (3, .int x3), (4, .int x4), (5, .int (tb_get s x1 x4 (Int32.ofInt 0)))]) rfl rfl (⟨rfl, rfl, rfl, rfl, rfl, rfl, trivial⟩) (wc_Program_spelled_39_ok h)
    · replace h := h.2 (Decidable.not_not.mp (of_decide_eq_false hb))
      refine cf_R_w rp_234 (rf_bk am_t234 17 2) 32 [(5, .int (tb_get s x1 x4 (Int32.ofInt 0))), (0, .ref 3), (1, .ref x1), (2, .int x2), (3, .int x3), (4, .int x4)] [] s (by repeat (first | exact trivial | refine ⟨rfl, ?_⟩)) (by decide +kernel) ?_
      exact cf_R_le (l := [(0, .ref 3), (1, .ref x1), (2, .int x2), (3, .int x3), (4, .int x4), (5, .int (tb_get s x1 x4 (Int32.ofInt 0)))]) rfl rfl (⟨rfl, rfl, rfl, rfl, rfl, rfl, trivial⟩) (wc_Program_spelled_39_ok h)
/-- LazyHouse$Program.spelled (LLazyHouse$Table;II)I, from 0 on -/
def wc_Program_spelled (d : Nat) (x1 : Nat) (x2 : Int32) (x3 : Int32) (s : cf_S) (Q : Int32 → cf_S → Prop) : Prop := cf_R (d + 10) 234 (3, [(0, .ref 3), (1, .ref x1), (2, .int x2), (3, .int x3), (4, .int (Int32.ofInt 1))], [], s) (cf_qI Q)
set_option maxRecDepth 20000 in
theorem wc_Program_spelled_ok {d : Nat} {x1 : Nat} {x2 : Int32} {x3 : Int32} {s : cf_S} {Q : Int32 → cf_S → Prop} (h : wc_Program_spelled d x1 x2 x3 s Q) : cf_I (d + 10) 234 [(0, .ref 3), (1, .ref x1), (2, .int x2), (3, .int x3)] s Q := by
  unfold wc_Program_spelled at h
  unfold cf_I
  refine cf_R_w rp_234 (rf_bk am_t234 0 2) 0 [(0, .ref 3), (1, .ref x1), (2, .int x2), (3, .int x3)] [] s (by repeat (first | exact trivial | refine ⟨rfl, ?_⟩)) (by decide +kernel) ?_
  exact cf_R_le (l := [(0, .ref 3), (1, .ref x1), (2, .int x2), (3, .int x3), (4, .int (Int32.ofInt 1))]) rfl rfl (⟨rfl, rfl, rfl, rfl, rfl, trivial⟩) h
