/-! PART 62: the class, decompiled: Parser.readLet, Parser.readLambda, Parser.readFunction, Parser.readCase, Parser.readAlternative, Parser.readCompared, Parser.join -/
/-- LazyHouse$Parser.readLet (I)I, from 157 on -/
def wc_Parser_readLet_157 (d : Nat) (x1 : Int32) (x2 : Int32) (x3 : Int32) (s : cf_S) (Q : Int32 → cf_S → Prop) : Prop := cf_V (d + 9) 220 [(0, .ref 22), (1, .int ((Int8.ofInt 6).toInt32))] s (fun s1 => cf_I (d + 9) 207 [(0, .ref 22), (1, .int (x1 + (Int32.ofInt 1)))] s1 (fun r2 s2 => cf_V (d + 9) 226 [(0, .ref 22), (1, .int x3)] (tb_set s2 18 x2 (Int32.ofInt 2) r2) (fun s3 => cf_I (d + 9) 229 [(0, .ref 22), (1, .int x2)] s3 (fun r4 s4 => Q r4 s4))))
set_option maxRecDepth 20000 in
theorem wc_Parser_readLet_157_ok {d : Nat} {x1 : Int32} {x2 : Int32} {x3 : Int32} {s : cf_S} {Q : Int32 → cf_S → Prop} (h : wc_Parser_readLet_157 d x1 x2 x3 s Q) : cf_R (d + 10) 208 (157, [(0, .ref 22), (1, .int x1), (2, .int x2), (3, .int x3)], [], s) (cf_qI Q) := by
  unfold wc_Parser_readLet_157 at h
  refine cf_R_w rp_208 (rf_bk am_t208 81 2) 157 [(0, .ref 22), (1, .int x1), (2, .int x2), (3, .int x3)] [] s (by repeat (first | exact trivial | refine ⟨rfl, ?_⟩)) (by decide +kernel) ?_
  refine cf_R_call (pc := 160) (q := ([.ref 22, .int ((Int8.ofInt 6).toInt32)], [])) rp_208 rfl rfl (by decide) (by decide) rp_220 rfl (Nat.le_of_ble_eq_true rfl) ⟨rfl, Nat.le_of_ble_eq_true rfl⟩ h (fun v s1 h => ?_)
  obtain ⟨rfl, h⟩ := h
  refine cf_R_w rp_208 (rf_bk am_t208 84 8) 163 [(0, .ref 22), (1, .int x1), (2, .int x2), (3, .int x3)] [] s1 (by repeat (first | exact trivial | refine ⟨rfl, ?_⟩)) (by decide +kernel) ?_
  refine cf_R_call (pc := 173) (q := ([.ref 22, .int (x1 + (Int32.ofInt 1))], [.int (Int32.ofInt 2), .int x2, .ref 18])) rp_208 rfl rfl (by decide) (by decide) rp_207 rfl (Nat.le_of_ble_eq_true rfl) ⟨rfl, Nat.le_of_ble_eq_true rfl⟩ h (fun v s2 h => ?_)
  obtain ⟨r2, rfl, h⟩ := h
  refine cf_R_prim (pc := 176) (q := ([.ref 18, .int x2, .int (Int32.ofInt 2), .int r2], [])) rp_208 rfl rfl (by decide) (by decide) rp_274 rfl (Nat.le_of_ble_eq_true rfl) ⟨rfl, Nat.le_of_ble_eq_true rfl⟩ (cq_set rfl) ?_
  refine cf_R_w rp_208 (rf_bk am_t208 94 2) 179 [(0, .ref 22), (1, .int x1), (2, .int x2), (3, .int x3)] [] (tb_set s2 18 x2 (Int32.ofInt 2) r2) (by repeat (first | exact trivial | refine ⟨rfl, ?_⟩)) (by decide +kernel) ?_
  refine cf_R_call (pc := 181) (q := ([.ref 22, .int x3], [])) rp_208 rfl rfl (by decide) (by decide) rp_226 rfl (Nat.le_of_ble_eq_true rfl) ⟨rfl, Nat.le_of_ble_eq_true rfl⟩ h (fun v s3 h => ?_)
  obtain ⟨rfl, h⟩ := h
  refine cf_R_w rp_208 (rf_bk am_t208 97 2) 184 [(0, .ref 22), (1, .int x1), (2, .int x2), (3, .int x3)] [] s3 (by repeat (first | exact trivial | refine ⟨rfl, ?_⟩)) (by decide +kernel) ?_
  refine cf_R_call (pc := 186) (q := ([.ref 22, .int x2], [])) rp_208 rfl rfl (by decide) (by decide) rp_229 rfl (Nat.le_of_ble_eq_true rfl) ⟨rfl, Nat.le_of_ble_eq_true rfl⟩ h (fun v s4 h => ?_)
  obtain ⟨r4, rfl, h⟩ := h
  exact cf_R_ret (pc := 189) (v := some (.int r4)) rp_208 rfl rfl rfl ⟨_, rfl, h⟩
/-- LazyHouse$Parser.readLet (I)I, from 138 on -/
def wc_Parser_readLet_138 (d : Nat) (x1 : Int32) (x2 : Int32) (x3 : Int32) (x4 : Int32) (x5 : Int32) (x6 : Int32) (s : cf_S) (Q : Int32 → cf_S → Prop) : Prop := cf_V (d + 9) 230 [(0, .ref 22), (1, .int x2), (2, .int x4), (3, .int x6)] s (fun s1 => cf_R (d + 10) 208 (28, [(0, .ref 22), (1, .int x1), (2, .int x2), (3, .int x3), (4, .int x6), (5, .int (x5 + Int32.ofInt 1))], [], s1) (cf_qI Q))
set_option maxRecDepth 20000 in
theorem wc_Parser_readLet_138_ok {d : Nat} {x1 : Int32} {x2 : Int32} {x3 : Int32} {x4 : Int32} {x5 : Int32} {x6 : Int32} {s : cf_S} {Q : Int32 → cf_S → Prop} (h : wc_Parser_readLet_138 d x1 x2 x3 x4 x5 x6 s Q) : cf_R (d + 10) 208 (138, [(0, .ref 22), (1, .int x1), (2, .int x2), (3, .int x3), (4, .int x4), (5, .int x5), (6, .int x6)], [], s) (cf_qI Q) := by
  unfold wc_Parser_readLet_138 at h
  refine cf_R_w rp_208 (rf_bk am_t208 72 4) 138 [(0, .ref 22), (1, .int x1), (2, .int x2), (3, .int x3), (4, .int x4), (5, .int x5), (6, .int x6)] [] s (by repeat (first | exact trivial | refine ⟨rfl, ?_⟩)) (by decide +kernel) ?_
  refine cf_R_call (pc := 144) (q := ([.ref 22, .int x2, .int x4, .int x6], [])) rp_208 rfl rfl (by decide) (by decide) rp_230 rfl (Nat.le_of_ble_eq_true rfl) ⟨rfl, Nat.le_of_ble_eq_true rfl⟩ h (fun v s1 h => ?_)
  obtain ⟨rfl, h⟩ := h
  refine cf_R_w rp_208 (rf_bk am_t208 77 4) 147 [(0, .ref 22), (1, .int x1), (2, .int x2), (3, .int x3), (4, .int x4), (5, .int x5), (6, .int x6)] [] s1 (by repeat (first | exact trivial | refine ⟨rfl, ?_⟩)) (by decide +kernel) ?_
  exact cf_R_le (l := [(0, .ref 22), (1, .int x1), (2, .int x2), (3, .int x3), (4, .int x6), (5, .int (x5 + Int32.ofInt 1))]) rfl rfl (⟨rfl, rfl, rfl, rfl, rfl, rfl, trivial⟩) h
/-- LazyHouse$Parser.readLet (I)I, from 52 on -/
def wc_Parser_readLet_52 (d : Nat) (x1 : Int32) (x2 : Int32) (x3 : Int32) (x4 : Int32) (x5 : Int32) (s : cf_S) (Q : Int32 → cf_S → Prop) : Prop := cf_V (d + 9) 246 [(0, .ref 23)] s (fun s1 => cf_I (d + 9) 227 [(0, .ref 22), (1, .int ((Int8.ofInt 10).toInt32))] s1 (fun r2 s2 => cf_I (d + 9) 223 [(0, .ref 22), (1, .int x3)] s2 (fun r3 s3 => cf_I (d + 9) 241 [(0, .ref 23)] (tb_set s3 18 r2 (Int32.ofInt 1) r3) (fun r4 s4 => ((¬ r4 = (Int32.ofInt 2) → cf_V (d + 9) 220 [(0, .ref 22), (1, .int ((Int8.ofInt 61).toInt32))] s4 (fun s5 => cf_I (d + 9) 207 [(0, .ref 22), (1, .int (x1 + (Int32.ofInt 1)))] s5 (fun r6 s6 => wc_Parser_readLet_138 d x1 x2 x3 x4 x5 r2 (tb_set s6 18 r2 (Int32.ofInt 2) r6) Q))) ∧ (r4 = (Int32.ofInt 2) → cf_I (d + 9) 210 [(0, .ref 22), (1, .int ((Int8.ofInt 61).toInt32)), (2, .int (x1 + (Int32.ofInt 1)))] s4 (fun r7 s7 => wc_Parser_readLet_138 d x1 x2 x3 x4 x5 r2 (tb_set s7 18 r2 (Int32.ofInt 2) r7) Q)))))))
set_option maxRecDepth 20000 in
theorem wc_Parser_readLet_52_ok {d : Nat} {x1 : Int32} {x2 : Int32} {x3 : Int32} {x4 : Int32} {x5 : Int32} {s : cf_S} {Q : Int32 → cf_S → Prop} (h : wc_Parser_readLet_52 d x1 x2 x3 x4 x5 s Q) : cf_R (d + 10) 208 (52, [(0, .ref 22), (1, .int x1), (2, .int x2), (3, .int x3), (4, .int x4), (5, .int x5)], [], s) (cf_qI Q) := by
  unfold wc_Parser_readLet_52 at h
  refine cf_R_w rp_208 (rf_bk am_t208 27 2) 52 [(0, .ref 22), (1, .int x1), (2, .int x2), (3, .int x3), (4, .int x4), (5, .int x5)] [] s (by repeat (first | exact trivial | refine ⟨rfl, ?_⟩)) (by decide +kernel) ?_
  refine cf_R_call (pc := 56) (q := ([.ref 23], [])) rp_208 rfl rfl (by decide) (by decide) rp_246 rfl (Nat.le_of_ble_eq_true rfl) ⟨rfl, Nat.le_of_ble_eq_true rfl⟩ h (fun v s1 h => ?_)
  obtain ⟨rfl, h⟩ := h
  refine cf_R_w rp_208 (rf_bk am_t208 30 2) 59 [(0, .ref 22), (1, .int x1), (2, .int x2), (3, .int x3), (4, .int x4), (5, .int x5)] [] s1 (by repeat (first | exact trivial | refine ⟨rfl, ?_⟩)) (by decide +kernel) ?_
  refine cf_R_call (pc := 62) (q := ([.ref 22, .int ((Int8.ofInt 10).toInt32)], [])) rp_208 rfl rfl (by decide) (by decide) rp_227 rfl (Nat.le_of_ble_eq_true rfl) ⟨rfl, Nat.le_of_ble_eq_true rfl⟩ h (fun v s2 h => ?_)
  obtain ⟨r2, rfl, h⟩ := h
  refine cf_R_w rp_208 (rf_bk am_t208 33 7) 65 [(0, .ref 22), (1, .int x1), (2, .int x2), (3, .int x3), (4, .int x4), (5, .int x5)] [.int r2] s2 (by repeat (first | exact trivial | refine ⟨rfl, ?_⟩)) (by decide +kernel) ?_
  refine cf_R_call (pc := 76) (q := ([.ref 22, .int x3], [.int (Int32.ofInt 1), .int r2, .ref 18])) rp_208 rfl rfl (by decide) (by decide) rp_223 rfl (Nat.le_of_ble_eq_true rfl) ⟨rfl, Nat.le_of_ble_eq_true rfl⟩ h (fun v s3 h => ?_)
  obtain ⟨r3, rfl, h⟩ := h
  refine cf_R_prim (pc := 79) (q := ([.ref 18, .int r2, .int (Int32.ofInt 1), .int r3], [])) rp_208 rfl rfl (by decide) (by decide) rp_274 rfl (Nat.le_of_ble_eq_true rfl) ⟨rfl, Nat.le_of_ble_eq_true rfl⟩ (cq_set rfl) ?_
  refine cf_R_w rp_208 (rf_bk am_t208 42 2) 82 [(6, .int r2), (0, .ref 22), (1, .int x1), (2, .int x2), (3, .int x3), (4, .int x4), (5, .int x5)] [] (tb_set s3 18 r2 (Int32.ofInt 1) r3) (by repeat (first | exact trivial | refine ⟨rfl, ?_⟩)) (by decide +kernel) ?_
  refine cf_R_call (pc := 86) (q := ([.ref 23], [])) rp_208 rfl rfl (by decide) (by decide) rp_241 rfl (Nat.le_of_ble_eq_true rfl) ⟨rfl, Nat.le_of_ble_eq_true rfl⟩ h (fun v s4 h => ?_)
  obtain ⟨r4, rfl, h⟩ := h
  refine cf_R_w rp_208 (rf_bk am_t208 45 2) 89 [(6, .int r2), (0, .ref 22), (1, .int x1), (2, .int x2), (3, .int x3), (4, .int x4), (5, .int x5)] [.int r4] s4 (by repeat (first | exact trivial | refine ⟨rfl, ?_⟩)) (by decide +kernel) ?_
  refine cf_R_if (b := am_cnd .ne r4 (Int32.ofInt 2)) (p := 115) (q := 93) (fun hb => ?_) (fun hb => ?_)
  · replace h := h.1 (of_decide_eq_true hb)
    refine cf_R_w rp_208 (rf_bk am_t208 59 2) 115 [(6, .int r2), (0, .ref 22), (1, .int x1), (2, .int x2), (3, .int x3), (4, .int x4), (5, .int x5)] [] s4 (by repeat (first | exact trivial | refine ⟨rfl, ?_⟩)) (by decide +kernel) ?_
    refine cf_R_call (pc := 118) (q := ([.ref 22, .int ((Int8.ofInt 61).toInt32)], [])) rp_208 rfl rfl (by decide) (by decide) rp_220 rfl (Nat.le_of_ble_eq_true rfl) ⟨rfl, Nat.le_of_ble_eq_true rfl⟩ h (fun v s5 h => ?_)
    obtain ⟨rfl, h⟩ := h
    refine cf_R_w rp_208 (rf_bk am_t208 62 8) 121 [(6, .int r2), (0, .ref 22), (1, .int x1), (2, .int x2), (3, .int x3), (4, .int x4), (5, .int x5)] [] s5 (by repeat (first | exact trivial | refine ⟨rfl, ?_⟩)) (by decide +kernel) ?_
    refine cf_R_call (pc := 132) (q := ([.ref 22, .int (x1 + (Int32.ofInt 1))], [.int (Int32.ofInt 2), .int r2, .ref 18])) rp_208 rfl rfl (by decide) (by decide) rp_207 rfl (Nat.le_of_ble_eq_true rfl) ⟨rfl, Nat.le_of_ble_eq_true rfl⟩ h (fun v s6 h => ?_)
    obtain ⟨r6, rfl, h⟩ := h
    refine cf_R_prim (pc := 135) (q := ([.ref 18, .int r2, .int (Int32.ofInt 2), .int r6], [])) rp_208 rfl rfl (by decide) (by decide) rp_274 rfl (Nat.le_of_ble_eq_true rfl) ⟨rfl, Nat.le_of_ble_eq_true rfl⟩ (cq_set rfl) ?_
    exact cf_R_le (l := [(0, .ref 22), (1, .int x1), (2, .int x2), (3, .int x3), (4, .int x4), (5, .int x5), (6, .int r2)]) rfl rfl (⟨rfl, rfl, rfl, rfl, rfl, rfl, rfl, trivial⟩) (wc_Parser_readLet_138_ok h)
  · replace h := h.2 (Decidable.not_not.mp (of_decide_eq_false hb))
    refine cf_R_w rp_208 (rf_bk am_t208 47 9) 93 [(6, .int r2), (0, .ref 22), (1, .int x1), (2, .int x2), (3, .int x3), (4, .int x4), (5, .int x5)] [] s4 (by repeat (first | exact trivial | refine ⟨rfl, ?_⟩)) (by decide +kernel) ?_
    refine cf_R_call (pc := 106) (q := ([.ref 22, .int ((Int8.ofInt 61).toInt32), .int (x1 + (Int32.ofInt 1))], [.int (Int32.ofInt 2), .int r2, .ref 18])) rp_208 rfl rfl (by decide) (by decide) rp_210 rfl (Nat.le_of_ble_eq_true rfl) ⟨rfl, Nat.le_of_ble_eq_true rfl⟩ h (fun v s7 h => ?_)
    obtain ⟨r7, rfl, h⟩ := h
    refine cf_R_prim (pc := 109) (q := ([.ref 18, .int r2, .int (Int32.ofInt 2), .int r7], [])) rp_208 rfl rfl (by decide) (by decide) rp_274 rfl (Nat.le_of_ble_eq_true rfl) ⟨rfl, Nat.le_of_ble_eq_true rfl⟩ (cq_set rfl) ?_
    refine cf_R_w rp_208 (rf_bk am_t208 58 1) 112 [(6, .int r2), (0, .ref 22), (1, .int x1), (2, .int x2), (3, .int x3), (4, .int x4), (5, .int x5)] [] (tb_set s7 18 r2 (Int32.ofInt 2) r7) (by repeat (first | exact trivial | refine ⟨rfl, ?_⟩)) (by decide +kernel) ?_
    exact cf_R_le (l := [(0, .ref 22), (1, .int x1), (2, .int x2), (3, .int x3), (4, .int x4), (5, .int x5), (6, .int r2)]) rfl rfl (⟨rfl, rfl, rfl, rfl, rfl, rfl, rfl, trivial⟩) (wc_Parser_readLet_138_ok h)
/-- LazyHouse$Parser.readLet (I)I, from 28 on -/
def wc_Parser_readLet_28 (d : Nat) (x1 : Int32) (x2 : Int32) (x3 : Int32) (x4 : Int32) (x5 : Int32) (s : cf_S) (Q : Int32 → cf_S → Prop) : Prop := (((Int32.ofNat 1000000) ≤ x5 → wc_Parser_readLet_157 d x1 x2 x3 s Q) ∧ (¬ ((Int32.ofNat 1000000) ≤ x5) → ((x5 = 0 → wc_Parser_readLet_52 d x1 x2 x3 x4 x5 s Q) ∧ (¬ (x5 = 0) → cf_I (d + 9) 241 [(0, .ref 23)] s (fun r1 s1 => ((¬ r1 = ((Int8.ofInt 59).toInt32) → wc_Parser_readLet_157 d x1 x2 x3 s1 Q) ∧ (r1 = ((Int8.ofInt 59).toInt32) → wc_Parser_readLet_52 d x1 x2 x3 x4 x5 s1 Q)))))))
set_option maxRecDepth 20000 in
theorem wc_Parser_readLet_28_ok {d : Nat} {x1 : Int32} {x2 : Int32} {x3 : Int32} {x4 : Int32} {x5 : Int32} {s : cf_S} {Q : Int32 → cf_S → Prop} (h : wc_Parser_readLet_28 d x1 x2 x3 x4 x5 s Q) : cf_R (d + 10) 208 (28, [(0, .ref 22), (1, .int x1), (2, .int x2), (3, .int x3), (4, .int x4), (5, .int x5)], [], s) (cf_qI Q) := by
  unfold wc_Parser_readLet_28 at h
  refine cf_R_w rp_208 (rf_bk am_t208 17 3) 28 [(0, .ref 22), (1, .int x1), (2, .int x2), (3, .int x3), (4, .int x4), (5, .int x5)] [] s (by repeat (first | exact trivial | refine ⟨rfl, ?_⟩)) (by decide +kernel) ?_
  refine cf_R_if (b := am_cnd .ge x5 (Int32.ofNat 1000000)) (p := 157) (q := 35) (fun hb => ?_) (fun hb => ?_)
  · replace h := h.1 (of_decide_eq_true hb)
    exact cf_R_le (l := [(0, .ref 22), (1, .int x1), (2, .int x2), (3, .int x3)]) rfl rfl (⟨rfl, rfl, rfl, rfl, trivial⟩) (wc_Parser_readLet_157_ok h)
  · replace h := h.2 (of_decide_eq_false hb)
    refine cf_R_w rp_208 (rf_bk am_t208 20 2) 35 [(0, .ref 22), (1, .int x1), (2, .int x2), (3, .int x3), (4, .int x4), (5, .int x5)] [] s (by repeat (first | exact trivial | refine ⟨rfl, ?_⟩)) (by decide +kernel) ?_
    refine cf_R_if (b := am_cnd .eq x5 0) (p := 52) (q := 40) (fun hb => ?_) (fun hb => ?_)
    · replace h := h.1 (of_decide_eq_true hb)
      exact cf_R_le (l := [(0, .ref 22), (1, .int x1), (2, .int x2), (3, .int x3), (4, .int x4), (5, .int x5)]) rfl rfl (⟨rfl, rfl, rfl, rfl, rfl, rfl, trivial⟩) (wc_Parser_readLet_52_ok h)
    · replace h := h.2 (of_decide_eq_false hb)
      refine cf_R_w rp_208 (rf_bk am_t208 22 2) 40 [(0, .ref 22), (1, .int x1), (2, .int x2), (3, .int x3), (4, .int x4), (5, .int x5)] [] s (by repeat (first | exact trivial | refine ⟨rfl, ?_⟩)) (by decide +kernel) ?_
      refine cf_R_call (pc := 44) (q := ([.ref 23], [])) rp_208 rfl rfl (by decide) (by decide) rp_241 rfl (Nat.le_of_ble_eq_true rfl) ⟨rfl, Nat.le_of_ble_eq_true rfl⟩ h (fun v s1 h => ?_)
      obtain ⟨r1, rfl, h⟩ := h
      refine cf_R_w rp_208 (rf_bk am_t208 25 2) 47 [(0, .ref 22), (1, .int x1), (2, .int x2), (3, .int x3), (4, .int x4), (5, .int x5)] [.int r1] s1 (by repeat (first | exact trivial | refine ⟨rfl, ?_⟩)) (by decide +kernel) ?_
      refine cf_R_if (b := am_cnd .ne r1 ((Int8.ofInt 59).toInt32)) (p := 157) (q := 52) (fun hb => ?_) (fun hb => ?_)
      · replace h := h.1 (of_decide_eq_true hb)
        exact cf_R_le (l := [(0, .ref 22), (1, .int x1), (2, .int x2), (3, .int x3)]) rfl rfl (⟨rfl, rfl, rfl, rfl, trivial⟩) (wc_Parser_readLet_157_ok h)
      · replace h := h.2 (Decidable.not_not.mp (of_decide_eq_false hb))
        exact cf_R_le (l := [(0, .ref 22), (1, .int x1), (2, .int x2), (3, .int x3), (4, .int x4), (5, .int x5)]) rfl rfl (⟨rfl, rfl, rfl, rfl, rfl, rfl, trivial⟩) (wc_Parser_readLet_52_ok h)
/-- LazyHouse$Parser.readLet (I)I, from 0 on -/
def wc_Parser_readLet (d : Nat) (x1 : Int32) (s : cf_S) (Q : Int32 → cf_S → Prop) : Prop := cf_I (d + 9) 221 [(0, .ref 22), (1, .int x1)] s (fun r1 s1 => ((¬ r1 = 0 → cf_I (d + 9) 227 [(0, .ref 22), (1, .int ((Int8.ofInt 9).toInt32))] s1 (fun r2 s2 => cf_I (d + 9) 225 [(0, .ref 22)] s2 (fun r3 s3 => cf_R (d + 10) 208 (28, [(0, .ref 22), (1, .int x1), (2, .int r2), (3, .int r3), (4, .int (Int32.ofInt 0)), (5, .int (Int32.ofInt 0))], [], s3) (cf_qI Q)))) ∧ (r1 = 0 → Q (Int32.ofInt 0) s1)))
set_option maxRecDepth 20000 in
theorem wc_Parser_readLet_ok {d : Nat} {x1 : Int32} {s : cf_S} {Q : Int32 → cf_S → Prop} (h : wc_Parser_readLet d x1 s Q) : cf_I (d + 10) 208 [(0, .ref 22), (1, .int x1)] s Q := by
  unfold wc_Parser_readLet at h
  unfold cf_I
  refine cf_R_w rp_208 (rf_bk am_t208 0 2) 0 [(0, .ref 22), (1, .int x1)] [] s (by repeat (first | exact trivial | refine ⟨rfl, ?_⟩)) (by decide +kernel) ?_
  refine cf_R_call (pc := 2) (q := ([.ref 22, .int x1], [])) rp_208 rfl rfl (by decide) (by decide) rp_221 rfl (Nat.le_of_ble_eq_true rfl) ⟨rfl, Nat.le_of_ble_eq_true rfl⟩ h (fun v s1 h => ?_)
  obtain ⟨r1, rfl, h⟩ := h
  refine cf_R_w rp_208 (rf_bk am_t208 3 1) 5 [(0, .ref 22), (1, .int x1)] [.int r1] s1 (by repeat (first | exact trivial | refine ⟨rfl, ?_⟩)) (by decide +kernel) ?_
  refine cf_R_if (b := am_cnd .ne r1 0) (p := 10) (q := 8) (fun hb => ?_) (fun hb => ?_)
  · replace h := h.1 (of_decide_eq_true hb)
    refine cf_R_w rp_208 (rf_bk am_t208 6 2) 10 [(0, .ref 22), (1, .int x1)] [] s1 (by repeat (first | exact trivial | refine ⟨rfl, ?_⟩)) (by decide +kernel) ?_
    refine cf_R_call (pc := 13) (q := ([.ref 22, .int ((Int8.ofInt 9).toInt32)], [])) rp_208 rfl rfl (by decide) (by decide) rp_227 rfl (Nat.le_of_ble_eq_true rfl) ⟨rfl, Nat.le_of_ble_eq_true rfl⟩ h (fun v s2 h => ?_)
    obtain ⟨r2, rfl, h⟩ := h
    refine cf_R_w rp_208 (rf_bk am_t208 9 2) 16 [(0, .ref 22), (1, .int x1)] [.int r2] s2 (by repeat (first | exact trivial | refine ⟨rfl, ?_⟩)) (by decide +kernel) ?_
    refine cf_R_call (pc := 18) (q := ([.ref 22], [])) rp_208 rfl rfl (by decide) (by decide) rp_225 rfl (Nat.le_of_ble_eq_true rfl) ⟨rfl, Nat.le_of_ble_eq_true rfl⟩ h (fun v s3 h => ?_)
    obtain ⟨r3, rfl, h⟩ := h
    refine cf_R_w rp_208 (rf_bk am_t208 12 5) 21 [(2, .int r2), (0, .ref 22), (1, .int x1)] [.int r3] s3 (by repeat (first | exact trivial | refine ⟨rfl, ?_⟩)) (by decide +kernel) ?_
    exact cf_R_le (l := [(0, .ref 22), (1, .int x1), (2, .int r2), (3, .int r3), (4, .int (Int32.ofInt 0)), (5, .int (Int32.ofInt 0))]) rfl rfl (⟨rfl, rfl, rfl, rfl, rfl, rfl, trivial⟩) h
  · replace h := h.2 (Decidable.not_not.mp (of_decide_eq_false hb))
    refine cf_R_w rp_208 (rf_bk am_t208 4 1) 8 [(0, .ref 22), (1, .int x1)] [] s1 (by repeat (first | exact trivial | refine ⟨rfl, ?_⟩)) (by decide +kernel) ?_
    exact cf_R_ret (pc := 9) (v := some (.int (Int32.ofInt 0))) rp_208 rfl rfl rfl ⟨_, rfl, h⟩
/-- LazyHouse$Parser.readLambda (I)I, from 0 on -/
def wc_Parser_readLambda (d : Nat) (x1 : Int32) (s : cf_S) (Q : Int32 → cf_S → Prop) : Prop := cf_I (d + 9) 221 [(0, .ref 22), (1, .int x1)] s (fun r1 s1 => ((¬ r1 = 0 → cf_V (d + 9) 246 [(0, .ref 23)] s1 (fun s2 => cf_I (d + 9) 241 [(0, .ref 23)] s2 (fun r3 s3 => ((r3 = (Int32.ofInt 2) → cf_I (d + 9) 210 [(0, .ref 22), (1, .int ((Int8.ofInt 9).toInt32)), (2, .int (x1 + (Int32.ofInt 1)))] s3 (fun r4 s4 => Q r4 s4)) ∧ (¬ (r3 = (Int32.ofInt 2)) → cf_V (d + 9) 245 [(0, .ref 23)] s3 (fun s5 => Q (Int32.ofInt 0) s5)))))) ∧ (r1 = 0 → Q (Int32.ofInt 0) s1)))
set_option maxRecDepth 20000 in
theorem wc_Parser_readLambda_ok {d : Nat} {x1 : Int32} {s : cf_S} {Q : Int32 → cf_S → Prop} (h : wc_Parser_readLambda d x1 s Q) : cf_I (d + 10) 209 [(0, .ref 22), (1, .int x1)] s Q := by
  unfold wc_Parser_readLambda at h
  unfold cf_I
  refine cf_R_w rp_209 (rf_bk am_t209 0 2) 0 [(0, .ref 22), (1, .int x1)] [] s (by repeat (first | exact trivial | refine ⟨rfl, ?_⟩)) (by decide +kernel) ?_
  refine cf_R_call (pc := 2) (q := ([.ref 22, .int x1], [])) rp_209 rfl rfl (by decide) (by decide) rp_221 rfl (Nat.le_of_ble_eq_true rfl) ⟨rfl, Nat.le_of_ble_eq_true rfl⟩ h (fun v s1 h => ?_)
  obtain ⟨r1, rfl, h⟩ := h
  refine cf_R_w rp_209 (rf_bk am_t209 3 1) 5 [(0, .ref 22), (1, .int x1)] [.int r1] s1 (by repeat (first | exact trivial | refine ⟨rfl, ?_⟩)) (by decide +kernel) ?_
  refine cf_R_if (b := am_cnd .ne r1 0) (p := 10) (q := 8) (fun hb => ?_) (fun hb => ?_)
  · replace h := h.1 (of_decide_eq_true hb)
    refine cf_R_w rp_209 (rf_bk am_t209 6 2) 10 [(0, .ref 22), (1, .int x1)] [] s1 (by repeat (first | exact trivial | refine ⟨rfl, ?_⟩)) (by decide +kernel) ?_
    refine cf_R_call (pc := 14) (q := ([.ref 23], [])) rp_209 rfl rfl (by decide) (by decide) rp_246 rfl (Nat.le_of_ble_eq_true rfl) ⟨rfl, Nat.le_of_ble_eq_true rfl⟩ h (fun v s2 h => ?_)
    obtain ⟨rfl, h⟩ := h
    refine cf_R_w rp_209 (rf_bk am_t209 9 2) 17 [(0, .ref 22), (1, .int x1)] [] s2 (by repeat (first | exact trivial | refine ⟨rfl, ?_⟩)) (by decide +kernel) ?_
    refine cf_R_call (pc := 21) (q := ([.ref 23], [])) rp_209 rfl rfl (by decide) (by decide) rp_241 rfl (Nat.le_of_ble_eq_true rfl) ⟨rfl, Nat.le_of_ble_eq_true rfl⟩ h (fun v s3 h => ?_)
    obtain ⟨r3, rfl, h⟩ := h
    refine cf_R_w rp_209 (rf_bk am_t209 12 2) 24 [(0, .ref 22), (1, .int x1)] [.int r3] s3 (by repeat (first | exact trivial | refine ⟨rfl, ?_⟩)) (by decide +kernel) ?_
    refine cf_R_if (b := am_cnd .eq r3 (Int32.ofInt 2)) (p := 37) (q := 28) (fun hb => ?_) (fun hb => ?_)
    · replace h := h.1 (of_decide_eq_true hb)
      refine cf_R_w rp_209 (rf_bk am_t209 19 5) 37 [(0, .ref 22), (1, .int x1)] [] s3 (by repeat (first | exact trivial | refine ⟨rfl, ?_⟩)) (by decide +kernel) ?_
      refine cf_R_call (pc := 43) (q := ([.ref 22, .int ((Int8.ofInt 9).toInt32), .int (x1 + (Int32.ofInt 1))], [])) rp_209 rfl rfl (by decide) (by decide) rp_210 rfl (Nat.le_of_ble_eq_true rfl) ⟨rfl, Nat.le_of_ble_eq_true rfl⟩ h (fun v s4 h => ?_)
      obtain ⟨r4, rfl, h⟩ := h
      exact cf_R_ret (pc := 46) (v := some (.int r4)) rp_209 rfl rfl rfl ⟨_, rfl, h⟩
    · replace h := h.2 (of_decide_eq_false hb)
      refine cf_R_w rp_209 (rf_bk am_t209 14 2) 28 [(0, .ref 22), (1, .int x1)] [] s3 (by repeat (first | exact trivial | refine ⟨rfl, ?_⟩)) (by decide +kernel) ?_
      refine cf_R_call (pc := 32) (q := ([.ref 23], [])) rp_209 rfl rfl (by decide) (by decide) rp_245 rfl (Nat.le_of_ble_eq_true rfl) ⟨rfl, Nat.le_of_ble_eq_true rfl⟩ h (fun v s5 h => ?_)
      obtain ⟨rfl, h⟩ := h
      refine cf_R_w rp_209 (rf_bk am_t209 17 1) 35 [(0, .ref 22), (1, .int x1)] [] s5 (by repeat (first | exact trivial | refine ⟨rfl, ?_⟩)) (by decide +kernel) ?_
      exact cf_R_ret (pc := 36) (v := some (.int (Int32.ofInt 0))) rp_209 rfl rfl rfl ⟨_, rfl, h⟩
  · replace h := h.2 (Decidable.not_not.mp (of_decide_eq_false hb))
    refine cf_R_w rp_209 (rf_bk am_t209 4 1) 8 [(0, .ref 22), (1, .int x1)] [] s1 (by repeat (first | exact trivial | refine ⟨rfl, ?_⟩)) (by decide +kernel) ?_
    exact cf_R_ret (pc := 9) (v := some (.int (Int32.ofInt 0))) rp_209 rfl rfl rfl ⟨_, rfl, h⟩
/-- LazyHouse$Parser.readFunction (II)I, from 0 on -/
def wc_Parser_readFunction (d : Nat) (x1 : Int32) (x2 : Int32) (s : cf_S) (Q : Int32 → cf_S → Prop) : Prop := cf_I (d + 9) 227 [(0, .ref 22), (1, .int ((Int8.ofInt 7).toInt32))] s (fun r1 s1 => cf_I (d + 9) 225 [(0, .ref 22)] s1 (fun r2 s2 => cf_I (d + 9) 222 [(0, .ref 22), (1, .int r2)] (tb_set s2 18 r1 (Int32.ofInt 5) (s2.1 14 2)) (fun r3 s3 => cf_V (d + 9) 220 [(0, .ref 22), (1, .int x1)] (tb_set s3 18 r1 (Int32.ofInt 4) r3) (fun s4 => cf_I (d + 9) 207 [(0, .ref 22), (1, .int x2)] s4 (fun r5 s5 => cf_V (d + 9) 226 [(0, .ref 22), (1, .int r2)] (tb_set s5 18 r1 (Int32.ofInt 2) r5) (fun s6 => cf_I (d + 9) 229 [(0, .ref 22), (1, .int r1)] s6 (fun r7 s7 => Q r7 s7)))))))
set_option maxRecDepth 20000 in
theorem wc_Parser_readFunction_ok {d : Nat} {x1 : Int32} {x2 : Int32} {s : cf_S} {Q : Int32 → cf_S → Prop} (h : wc_Parser_readFunction d x1 x2 s Q) : cf_I (d + 10) 210 [(0, .ref 22), (1, .int x1), (2, .int x2)] s Q := by
  unfold wc_Parser_readFunction at h
  unfold cf_I
  refine cf_R_w rp_210 (rf_bk am_t210 0 2) 0 [(0, .ref 22), (1, .int x1), (2, .int x2)] [] s (by repeat (first | exact trivial | refine ⟨rfl, ?_⟩)) (by decide +kernel) ?_
  refine cf_R_call (pc := 3) (q := ([.ref 22, .int ((Int8.ofInt 7).toInt32)], [])) rp_210 rfl rfl (by decide) (by decide) rp_227 rfl (Nat.le_of_ble_eq_true rfl) ⟨rfl, Nat.le_of_ble_eq_true rfl⟩ h (fun v s1 h => ?_)
  obtain ⟨r1, rfl, h⟩ := h
  refine cf_R_w rp_210 (rf_bk am_t210 3 2) 6 [(0, .ref 22), (1, .int x1), (2, .int x2)] [.int r1] s1 (by repeat (first | exact trivial | refine ⟨rfl, ?_⟩)) (by decide +kernel) ?_
  refine cf_R_call (pc := 8) (q := ([.ref 22], [])) rp_210 rfl rfl (by decide) (by decide) rp_225 rfl (Nat.le_of_ble_eq_true rfl) ⟨rfl, Nat.le_of_ble_eq_true rfl⟩ h (fun v s2 h => ?_)
  obtain ⟨r2, rfl, h⟩ := h
  refine cf_R_w rp_210 (rf_bk am_t210 6 8) 11 [(3, .int r1), (0, .ref 22), (1, .int x1), (2, .int x2)] [.int r2] s2 (by repeat (first | exact trivial | refine ⟨rfl, ?_⟩)) (by decide +kernel) ?_
  refine cf_R_prim (pc := 26) (q := ([.ref 14], [.int (Int32.ofInt 5), .int r1, .ref 18])) rp_210 rfl rfl (by decide) (by decide) rp_270 rfl (Nat.le_of_ble_eq_true rfl) ⟨rfl, Nat.le_of_ble_eq_true rfl⟩ (cq_rows rfl) ?_
  refine cf_R_prim (pc := 29) (q := ([.ref 18, .int r1, .int (Int32.ofInt 5), .int (s2.1 14 2)], [])) rp_210 rfl rfl (by decide) (by decide) rp_274 rfl (Nat.le_of_ble_eq_true rfl) ⟨rfl, Nat.le_of_ble_eq_true rfl⟩ (cq_set rfl) ?_
  refine cf_R_w rp_210 (rf_bk am_t210 16 6) 32 [(4, .int r2), (3, .int r1), (0, .ref 22), (1, .int x1), (2, .int x2)] [] (tb_set s2 18 r1 (Int32.ofInt 5) (s2.1 14 2)) (by repeat (first | exact trivial | refine ⟨rfl, ?_⟩)) (by decide +kernel) ?_
  refine cf_R_call (pc := 41) (q := ([.ref 22, .int r2], [.int (Int32.ofInt 4), .int r1, .ref 18])) rp_210 rfl rfl (by decide) (by decide) rp_222 rfl (Nat.le_of_ble_eq_true rfl) ⟨rfl, Nat.le_of_ble_eq_true rfl⟩ h (fun v s3 h => ?_)
  obtain ⟨r3, rfl, h⟩ := h
  refine cf_R_prim (pc := 44) (q := ([.ref 18, .int r1, .int (Int32.ofInt 4), .int r3], [])) rp_210 rfl rfl (by decide) (by decide) rp_274 rfl (Nat.le_of_ble_eq_true rfl) ⟨rfl, Nat.le_of_ble_eq_true rfl⟩ (cq_set rfl) ?_
  refine cf_R_w rp_210 (rf_bk am_t210 24 2) 47 [(4, .int r2), (3, .int r1), (0, .ref 22), (1, .int x1), (2, .int x2)] [] (tb_set s3 18 r1 (Int32.ofInt 4) r3) (by repeat (first | exact trivial | refine ⟨rfl, ?_⟩)) (by decide +kernel) ?_
  refine cf_R_call (pc := 49) (q := ([.ref 22, .int x1], [])) rp_210 rfl rfl (by decide) (by decide) rp_220 rfl (Nat.le_of_ble_eq_true rfl) ⟨rfl, Nat.le_of_ble_eq_true rfl⟩ h (fun v s4 h => ?_)
  obtain ⟨rfl, h⟩ := h
  refine cf_R_w rp_210 (rf_bk am_t210 27 6) 52 [(4, .int r2), (3, .int r1), (0, .ref 22), (1, .int x1), (2, .int x2)] [] s4 (by repeat (first | exact trivial | refine ⟨rfl, ?_⟩)) (by decide +kernel) ?_
  refine cf_R_call (pc := 60) (q := ([.ref 22, .int x2], [.int (Int32.ofInt 2), .int r1, .ref 18])) rp_210 rfl rfl (by decide) (by decide) rp_207 rfl (Nat.le_of_ble_eq_true rfl) ⟨rfl, Nat.le_of_ble_eq_true rfl⟩ h (fun v s5 h => ?_)
  obtain ⟨r5, rfl, h⟩ := h
  refine cf_R_prim (pc := 63) (q := ([.ref 18, .int r1, .int (Int32.ofInt 2), .int r5], [])) rp_210 rfl rfl (by decide) (by decide) rp_274 rfl (Nat.le_of_ble_eq_true rfl) ⟨rfl, Nat.le_of_ble_eq_true rfl⟩ (cq_set rfl) ?_
  refine cf_R_w rp_210 (rf_bk am_t210 35 2) 66 [(4, .int r2), (3, .int r1), (0, .ref 22), (1, .int x1), (2, .int x2)] [] (tb_set s5 18 r1 (Int32.ofInt 2) r5) (by repeat (first | exact trivial | refine ⟨rfl, ?_⟩)) (by decide +kernel) ?_
  refine cf_R_call (pc := 69) (q := ([.ref 22, .int r2], [])) rp_210 rfl rfl (by decide) (by decide) rp_226 rfl (Nat.le_of_ble_eq_true rfl) ⟨rfl, Nat.le_of_ble_eq_true rfl⟩ h (fun v s6 h => ?_)
  obtain ⟨rfl, h⟩ := h
  refine cf_R_w rp_210 (rf_bk am_t210 38 2) 72 [(4, .int r2), (3, .int r1), (0, .ref 22), (1, .int x1), (2, .int x2)] [] s6 (by repeat (first | exact trivial | refine ⟨rfl, ?_⟩)) (by decide +kernel) ?_
  refine cf_R_call (pc := 74) (q := ([.ref 22, .int r1], [])) rp_210 rfl rfl (by decide) (by decide) rp_229 rfl (Nat.le_of_ble_eq_true rfl) ⟨rfl, Nat.le_of_ble_eq_true rfl⟩ h (fun v s7 h => ?_)
  obtain ⟨r7, rfl, h⟩ := h
  exact cf_R_ret (pc := 77) (v := some (.int r7)) rp_210 rfl rfl rfl ⟨_, rfl, h⟩
/-- LazyHouse$Parser.readCase (I)I, from 137 on -/
def wc_Parser_readCase_137 (d : Nat) (x2 : Int32) (x3 : Int32) (s : cf_S) (Q : Int32 → cf_S → Prop) : Prop := cf_I (d + 9) 229 [(0, .ref 22), (1, .int x3)] s (fun r1 s1 => cf_V (d + 9) 220 [(0, .ref 22), (1, .int ((Int8.ofInt 125).toInt32))] (tb_set s1 18 x2 (Int32.ofInt 3) r1) (fun s2 => cf_I (d + 9) 229 [(0, .ref 22), (1, .int x2)] s2 (fun r3 s3 => Q r3 s3)))
set_option maxRecDepth 20000 in
theorem wc_Parser_readCase_137_ok {d : Nat} {x2 : Int32} {x3 : Int32} {s : cf_S} {Q : Int32 → cf_S → Prop} (h : wc_Parser_readCase_137 d x2 x3 s Q) : cf_R (d + 10) 211 (137, [(0, .ref 22), (2, .int x2), (3, .int x3)], [], s) (cf_qI Q) := by
  unfold wc_Parser_readCase_137 at h
  refine cf_R_w rp_211 (rf_bk am_t211 70 6) 137 [(0, .ref 22), (2, .int x2), (3, .int x3)] [] s (by repeat (first | exact trivial | refine ⟨rfl, ?_⟩)) (by decide +kernel) ?_
  refine cf_R_call (pc := 145) (q := ([.ref 22, .int x3], [.int (Int32.ofInt 3), .int x2, .ref 18])) rp_211 rfl rfl (by decide) (by decide) rp_229 rfl (Nat.le_of_ble_eq_true rfl) ⟨rfl, Nat.le_of_ble_eq_true rfl⟩ h (fun v s1 h => ?_)
  obtain ⟨r1, rfl, h⟩ := h
  refine cf_R_prim (pc := 148) (q := ([.ref 18, .int x2, .int (Int32.ofInt 3), .int r1], [])) rp_211 rfl rfl (by decide) (by decide) rp_274 rfl (Nat.le_of_ble_eq_true rfl) ⟨rfl, Nat.le_of_ble_eq_true rfl⟩ (cq_set rfl) ?_
  refine cf_R_w rp_211 (rf_bk am_t211 78 2) 151 [(0, .ref 22), (2, .int x2), (3, .int x3)] [] (tb_set s1 18 x2 (Int32.ofInt 3) r1) (by repeat (first | exact trivial | refine ⟨rfl, ?_⟩)) (by decide +kernel) ?_
  refine cf_R_call (pc := 154) (q := ([.ref 22, .int ((Int8.ofInt 125).toInt32)], [])) rp_211 rfl rfl (by decide) (by decide) rp_220 rfl (Nat.le_of_ble_eq_true rfl) ⟨rfl, Nat.le_of_ble_eq_true rfl⟩ h (fun v s2 h => ?_)
  obtain ⟨rfl, h⟩ := h
  refine cf_R_w rp_211 (rf_bk am_t211 81 2) 157 [(0, .ref 22), (2, .int x2), (3, .int x3)] [] s2 (by repeat (first | exact trivial | refine ⟨rfl, ?_⟩)) (by decide +kernel) ?_
  refine cf_R_call (pc := 159) (q := ([.ref 22, .int x2], [])) rp_211 rfl rfl (by decide) (by decide) rp_229 rfl (Nat.le_of_ble_eq_true rfl) ⟨rfl, Nat.le_of_ble_eq_true rfl⟩ h (fun v s3 h => ?_)
  obtain ⟨r3, rfl, h⟩ := h
  exact cf_R_ret (pc := 162) (v := some (.int r3)) rp_211 rfl rfl rfl ⟨_, rfl, h⟩
/-- LazyHouse$Parser.readCase (I)I, from 102 on -/
def wc_Parser_readCase_102 (d : Nat) (x1 : Int32) (x2 : Int32) (x3 : Int32) (x4 : Int32) (x5 : Int32) (s : cf_S) (Q : Int32 → cf_S → Prop) : Prop := cf_V (d + 9) 246 [(0, .ref 23)] s (fun s1 => cf_I (d + 9) 212 [(0, .ref 22), (1, .int (x1 + (Int32.ofInt 1)))] s1 (fun r2 s2 => cf_V (d + 9) 230 [(0, .ref 22), (1, .int x3), (2, .int x4), (3, .int r2)] s2 (fun s3 => cf_R (d + 10) 211 (78, [(0, .ref 22), (1, .int x1), (2, .int x2), (3, .int x3), (4, .int r2), (5, .int (x5 + Int32.ofInt 1))], [], s3) (cf_qI Q))))
set_option maxRecDepth 20000 in
theorem wc_Parser_readCase_102_ok {d : Nat} {x1 : Int32} {x2 : Int32} {x3 : Int32} {x4 : Int32} {x5 : Int32} {s : cf_S} {Q : Int32 → cf_S → Prop} (h : wc_Parser_readCase_102 d x1 x2 x3 x4 x5 s Q) : cf_R (d + 10) 211 (102, [(0, .ref 22), (1, .int x1), (2, .int x2), (3, .int x3), (4, .int x4), (5, .int x5)], [], s) (cf_qI Q) := by
  unfold wc_Parser_readCase_102 at h
  refine cf_R_w rp_211 (rf_bk am_t211 52 2) 102 [(0, .ref 22), (1, .int x1), (2, .int x2), (3, .int x3), (4, .int x4), (5, .int x5)] [] s (by repeat (first | exact trivial | refine ⟨rfl, ?_⟩)) (by decide +kernel) ?_
  refine cf_R_call (pc := 106) (q := ([.ref 23], [])) rp_211 rfl rfl (by decide) (by decide) rp_246 rfl (Nat.le_of_ble_eq_true rfl) ⟨rfl, Nat.le_of_ble_eq_true rfl⟩ h (fun v s1 h => ?_)
  obtain ⟨rfl, h⟩ := h
  refine cf_R_w rp_211 (rf_bk am_t211 55 4) 109 [(0, .ref 22), (1, .int x1), (2, .int x2), (3, .int x3), (4, .int x4), (5, .int x5)] [] s1 (by repeat (first | exact trivial | refine ⟨rfl, ?_⟩)) (by decide +kernel) ?_
  refine cf_R_call (pc := 113) (q := ([.ref 22, .int (x1 + (Int32.ofInt 1))], [])) rp_211 rfl rfl (by decide) (by decide) rp_212 rfl (Nat.le_of_ble_eq_true rfl) ⟨rfl, Nat.le_of_ble_eq_true rfl⟩ h (fun v s2 h => ?_)
  obtain ⟨r2, rfl, h⟩ := h
  refine cf_R_w rp_211 (rf_bk am_t211 60 5) 116 [(0, .ref 22), (1, .int x1), (2, .int x2), (3, .int x3), (4, .int x4), (5, .int x5)] [.int r2] s2 (by repeat (first | exact trivial | refine ⟨rfl, ?_⟩)) (by decide +kernel) ?_
  refine cf_R_call (pc := 124) (q := ([.ref 22, .int x3, .int x4, .int r2], [])) rp_211 rfl rfl (by decide) (by decide) rp_230 rfl (Nat.le_of_ble_eq_true rfl) ⟨rfl, Nat.le_of_ble_eq_true rfl⟩ h (fun v s3 h => ?_)
  obtain ⟨rfl, h⟩ := h
  refine cf_R_w rp_211 (rf_bk am_t211 66 4) 127 [(6, .int r2), (0, .ref 22), (1, .int x1), (2, .int x2), (3, .int x3), (4, .int x4), (5, .int x5)] [] s3 (by repeat (first | exact trivial | refine ⟨rfl, ?_⟩)) (by decide +kernel) ?_
  exact cf_R_le (l := [(0, .ref 22), (1, .int x1), (2, .int x2), (3, .int x3), (4, .int r2), (5, .int (x5 + Int32.ofInt 1))]) rfl rfl (⟨rfl, rfl, rfl, rfl, rfl, rfl, trivial⟩) h
/-- LazyHouse$Parser.readCase (I)I, from 78 on -/
def wc_Parser_readCase_78 (d : Nat) (x1 : Int32) (x2 : Int32) (x3 : Int32) (x4 : Int32) (x5 : Int32) (s : cf_S) (Q : Int32 → cf_S → Prop) : Prop := (((Int32.ofNat 1000000) ≤ x5 → wc_Parser_readCase_137 d x2 x3 s Q) ∧ (¬ ((Int32.ofNat 1000000) ≤ x5) → ((x5 = 0 → wc_Parser_readCase_102 d x1 x2 x3 x4 x5 s Q) ∧ (¬ (x5 = 0) → cf_I (d + 9) 241 [(0, .ref 23)] s (fun r1 s1 => ((¬ r1 = ((Int8.ofInt 59).toInt32) → wc_Parser_readCase_137 d x2 x3 s1 Q) ∧ (r1 = ((Int8.ofInt 59).toInt32) → wc_Parser_readCase_102 d x1 x2 x3 x4 x5 s1 Q)))))))
set_option maxRecDepth 20000 in
theorem wc_Parser_readCase_78_ok {d : Nat} {x1 : Int32} {x2 : Int32} {x3 : Int32} {x4 : Int32} {x5 : Int32} {s : cf_S} {Q : Int32 → cf_S → Prop} (h : wc_Parser_readCase_78 d x1 x2 x3 x4 x5 s Q) : cf_R (d + 10) 211 (78, [(0, .ref 22), (1, .int x1), (2, .int x2), (3, .int x3), (4, .int x4), (5, .int x5)], [], s) (cf_qI Q) := by
  unfold wc_Parser_readCase_78 at h
  refine cf_R_w rp_211 (rf_bk am_t211 42 3) 78 [(0, .ref 22), (1, .int x1), (2, .int x2), (3, .int x3), (4, .int x4), (5, .int x5)] [] s (by repeat (first | exact trivial | refine ⟨rfl, ?_⟩)) (by decide +kernel) ?_
  refine cf_R_if (b := am_cnd .ge x5 (Int32.ofNat 1000000)) (p := 137) (q := 85) (fun hb => ?_) (fun hb => ?_)
  · replace h := h.1 (of_decide_eq_true hb)
    exact cf_R_le (l := [(0, .ref 22), (2, .int x2), (3, .int x3)]) rfl rfl (⟨rfl, rfl, rfl, trivial⟩) (wc_Parser_readCase_137_ok h)
  · replace h := h.2 (of_decide_eq_false hb)
    refine cf_R_w rp_211 (rf_bk am_t211 45 2) 85 [(0, .ref 22), (1, .int x1), (2, .int x2), (3, .int x3), (4, .int x4), (5, .int x5)] [] s (by repeat (first | exact trivial | refine ⟨rfl, ?_⟩)) (by decide +kernel) ?_
    refine cf_R_if (b := am_cnd .eq x5 0) (p := 102) (q := 90) (fun hb => ?_) (fun hb => ?_)
    · replace h := h.1 (of_decide_eq_true hb)
      exact cf_R_le (l := [(0, .ref 22), (1, .int x1), (2, .int x2), (3, .int x3), (4, .int x4), (5, .int x5)]) rfl rfl (⟨rfl, rfl, rfl, rfl, rfl, rfl, trivial⟩) (wc_Parser_readCase_102_ok h)
    · replace h := h.2 (of_decide_eq_false hb)
      refine cf_R_w rp_211 (rf_bk am_t211 47 2) 90 [(0, .ref 22), (1, .int x1), (2, .int x2), (3, .int x3), (4, .int x4), (5, .int x5)] [] s (by repeat (first | exact trivial | refine ⟨rfl, ?_⟩)) (by decide +kernel) ?_
      refine cf_R_call (pc := 94) (q := ([.ref 23], [])) rp_211 rfl rfl (by decide) (by decide) rp_241 rfl (Nat.le_of_ble_eq_true rfl) ⟨rfl, Nat.le_of_ble_eq_true rfl⟩ h (fun v s1 h => ?_)
      obtain ⟨r1, rfl, h⟩ := h
      refine cf_R_w rp_211 (rf_bk am_t211 50 2) 97 [(0, .ref 22), (1, .int x1), (2, .int x2), (3, .int x3), (4, .int x4), (5, .int x5)] [.int r1] s1 (by repeat (first | exact trivial | refine ⟨rfl, ?_⟩)) (by decide +kernel) ?_
      refine cf_R_if (b := am_cnd .ne r1 ((Int8.ofInt 59).toInt32)) (p := 137) (q := 102) (fun hb => ?_) (fun hb => ?_)
      · replace h := h.1 (of_decide_eq_true hb)
        exact cf_R_le (l := [(0, .ref 22), (2, .int x2), (3, .int x3)]) rfl rfl (⟨rfl, rfl, rfl, trivial⟩) (wc_Parser_readCase_137_ok h)
      · replace h := h.2 (Decidable.not_not.mp (of_decide_eq_false hb))
        exact cf_R_le (l := [(0, .ref 22), (1, .int x1), (2, .int x2), (3, .int x3), (4, .int x4), (5, .int x5)]) rfl rfl (⟨rfl, rfl, rfl, rfl, rfl, rfl, trivial⟩) (wc_Parser_readCase_102_ok h)
/-- LazyHouse$Parser.readCase (I)I, from 65 on -/
def wc_Parser_readCase_65 (d : Nat) (x1 : Int32) (x2 : Int32) (s : cf_S) (Q : Int32 → cf_S → Prop) : Prop := cf_I (d + 9) 227 [(0, .ref 22), (1, .int ((Int8.ofInt 12).toInt32))] s (fun r1 s1 => cf_R (d + 10) 211 (78, [(0, .ref 22), (1, .int x1), (2, .int x2), (3, .int r1), (4, .int (Int32.ofInt 0)), (5, .int (Int32.ofInt 0))], [], s1) (cf_qI Q))
set_option maxRecDepth 20000 in
theorem wc_Parser_readCase_65_ok {d : Nat} {x1 : Int32} {x2 : Int32} {s : cf_S} {Q : Int32 → cf_S → Prop} (h : wc_Parser_readCase_65 d x1 x2 s Q) : cf_R (d + 10) 211 (65, [(0, .ref 22), (1, .int x1), (2, .int x2)], [], s) (cf_qI Q) := by
  unfold wc_Parser_readCase_65 at h
  refine cf_R_w rp_211 (rf_bk am_t211 34 2) 65 [(0, .ref 22), (1, .int x1), (2, .int x2)] [] s (by repeat (first | exact trivial | refine ⟨rfl, ?_⟩)) (by decide +kernel) ?_
  refine cf_R_call (pc := 68) (q := ([.ref 22, .int ((Int8.ofInt 12).toInt32)], [])) rp_211 rfl rfl (by decide) (by decide) rp_227 rfl (Nat.le_of_ble_eq_true rfl) ⟨rfl, Nat.le_of_ble_eq_true rfl⟩ h (fun v s1 h => ?_)
  obtain ⟨r1, rfl, h⟩ := h
  refine cf_R_w rp_211 (rf_bk am_t211 37 5) 71 [(0, .ref 22), (1, .int x1), (2, .int x2)] [.int r1] s1 (by repeat (first | exact trivial | refine ⟨rfl, ?_⟩)) (by decide +kernel) ?_
  exact cf_R_le (l := [(0, .ref 22), (1, .int x1), (2, .int x2), (3, .int r1), (4, .int (Int32.ofInt 0)), (5, .int (Int32.ofInt 0))]) rfl rfl (⟨rfl, rfl, rfl, rfl, rfl, rfl, trivial⟩) h
/-- LazyHouse$Parser.readCase (I)I, from 0 on -/
def wc_Parser_readCase (d : Nat) (x1 : Int32) (s : cf_S) (Q : Int32 → cf_S → Prop) : Prop := cf_I (d + 9) 221 [(0, .ref 22), (1, .int x1)] s (fun r1 s1 => ((¬ r1 = 0 → cf_I (d + 9) 227 [(0, .ref 22), (1, .int ((Int8.ofInt 11).toInt32))] s1 (fun r2 s2 => cf_V (d + 9) 246 [(0, .ref 23)] s2 (fun s3 => cf_I (d + 9) 207 [(0, .ref 22), (1, .int (x1 + (Int32.ofInt 1)))] s3 (fun r4 s4 => cf_V (d + 9) 220 [(0, .ref 22), (1, .int ((Int8.ofInt 8).toInt32))] (tb_set s4 18 r2 (Int32.ofInt 2) r4) (fun s5 => cf_I (d + 9) 241 [(0, .ref 23)] s5 (fun r6 s6 => ((r6 = ((Int8.ofInt 123).toInt32) → wc_Parser_readCase_65 d x1 r2 s6 Q) ∧ (¬ (r6 = ((Int8.ofInt 123).toInt32)) → cf_V (d + 9) 245 [(0, .ref 23)] s6 (fun s7 => wc_Parser_readCase_65 d x1 r2 s7 Q))))))))) ∧ (r1 = 0 → Q (Int32.ofInt 0) s1)))
set_option maxRecDepth 20000 in
theorem wc_Parser_readCase_ok {d : Nat} {x1 : Int32} {s : cf_S} {Q : Int32 → cf_S → Prop} (h : wc_Parser_readCase d x1 s Q) : cf_I (d + 10) 211 [(0, .ref 22), (1, .int x1)] s Q := by
  unfold wc_Parser_readCase at h
  unfold cf_I
  refine cf_R_w rp_211 (rf_bk am_t211 0 2) 0 [(0, .ref 22), (1, .int x1)] [] s (by repeat (first | exact trivial | refine ⟨rfl, ?_⟩)) (by decide +kernel) ?_
  refine cf_R_call (pc := 2) (q := ([.ref 22, .int x1], [])) rp_211 rfl rfl (by decide) (by decide) rp_221 rfl (Nat.le_of_ble_eq_true rfl) ⟨rfl, Nat.le_of_ble_eq_true rfl⟩ h (fun v s1 h => ?_)
  obtain ⟨r1, rfl, h⟩ := h
  refine cf_R_w rp_211 (rf_bk am_t211 3 1) 5 [(0, .ref 22), (1, .int x1)] [.int r1] s1 (by repeat (first | exact trivial | refine ⟨rfl, ?_⟩)) (by decide +kernel) ?_
  refine cf_R_if (b := am_cnd .ne r1 0) (p := 10) (q := 8) (fun hb => ?_) (fun hb => ?_)
  · replace h := h.1 (of_decide_eq_true hb)
    refine cf_R_w rp_211 (rf_bk am_t211 6 2) 10 [(0, .ref 22), (1, .int x1)] [] s1 (by repeat (first | exact trivial | refine ⟨rfl, ?_⟩)) (by decide +kernel) ?_
    refine cf_R_call (pc := 13) (q := ([.ref 22, .int ((Int8.ofInt 11).toInt32)], [])) rp_211 rfl rfl (by decide) (by decide) rp_227 rfl (Nat.le_of_ble_eq_true rfl) ⟨rfl, Nat.le_of_ble_eq_true rfl⟩ h (fun v s2 h => ?_)
    obtain ⟨r2, rfl, h⟩ := h
    refine cf_R_w rp_211 (rf_bk am_t211 9 3) 16 [(0, .ref 22), (1, .int x1)] [.int r2] s2 (by repeat (first | exact trivial | refine ⟨rfl, ?_⟩)) (by decide +kernel) ?_
    refine cf_R_call (pc := 21) (q := ([.ref 23], [])) rp_211 rfl rfl (by decide) (by decide) rp_246 rfl (Nat.le_of_ble_eq_true rfl) ⟨rfl, Nat.le_of_ble_eq_true rfl⟩ h (fun v s3 h => ?_)
    obtain ⟨rfl, h⟩ := h
    refine cf_R_w rp_211 (rf_bk am_t211 13 8) 24 [(2, .int r2), (0, .ref 22), (1, .int x1)] [] s3 (by repeat (first | exact trivial | refine ⟨rfl, ?_⟩)) (by decide +kernel) ?_
    refine cf_R_call (pc := 34) (q := ([.ref 22, .int (x1 + (Int32.ofInt 1))], [.int (Int32.ofInt 2), .int r2, .ref 18])) rp_211 rfl rfl (by decide) (by decide) rp_207 rfl (Nat.le_of_ble_eq_true rfl) ⟨rfl, Nat.le_of_ble_eq_true rfl⟩ h (fun v s4 h => ?_)
    obtain ⟨r4, rfl, h⟩ := h
    refine cf_R_prim (pc := 37) (q := ([.ref 18, .int r2, .int (Int32.ofInt 2), .int r4], [])) rp_211 rfl rfl (by decide) (by decide) rp_274 rfl (Nat.le_of_ble_eq_true rfl) ⟨rfl, Nat.le_of_ble_eq_true rfl⟩ (cq_set rfl) ?_
    refine cf_R_w rp_211 (rf_bk am_t211 23 2) 40 [(2, .int r2), (0, .ref 22), (1, .int x1)] [] (tb_set s4 18 r2 (Int32.ofInt 2) r4) (by repeat (first | exact trivial | refine ⟨rfl, ?_⟩)) (by decide +kernel) ?_
    refine cf_R_call (pc := 43) (q := ([.ref 22, .int ((Int8.ofInt 8).toInt32)], [])) rp_211 rfl rfl (by decide) (by decide) rp_220 rfl (Nat.le_of_ble_eq_true rfl) ⟨rfl, Nat.le_of_ble_eq_true rfl⟩ h (fun v s5 h => ?_)
    obtain ⟨rfl, h⟩ := h
    refine cf_R_w rp_211 (rf_bk am_t211 26 2) 46 [(2, .int r2), (0, .ref 22), (1, .int x1)] [] s5 (by repeat (first | exact trivial | refine ⟨rfl, ?_⟩)) (by decide +kernel) ?_
    refine cf_R_call (pc := 50) (q := ([.ref 23], [])) rp_211 rfl rfl (by decide) (by decide) rp_241 rfl (Nat.le_of_ble_eq_true rfl) ⟨rfl, Nat.le_of_ble_eq_true rfl⟩ h (fun v s6 h => ?_)
    obtain ⟨r6, rfl, h⟩ := h
    refine cf_R_w rp_211 (rf_bk am_t211 29 2) 53 [(2, .int r2), (0, .ref 22), (1, .int x1)] [.int r6] s6 (by repeat (first | exact trivial | refine ⟨rfl, ?_⟩)) (by decide +kernel) ?_
    refine cf_R_if (b := am_cnd .eq r6 ((Int8.ofInt 123).toInt32)) (p := 65) (q := 58) (fun hb => ?_) (fun hb => ?_)
    · replace h := h.1 (of_decide_eq_true hb)
      exact cf_R_le (l := [(0, .ref 22), (1, .int x1), (2, .int r2)]) rfl rfl (⟨rfl, rfl, rfl, trivial⟩) (wc_Parser_readCase_65_ok h)
    · replace h := h.2 (of_decide_eq_false hb)
      refine cf_R_w rp_211 (rf_bk am_t211 31 2) 58 [(2, .int r2), (0, .ref 22), (1, .int x1)] [] s6 (by repeat (first | exact trivial | refine ⟨rfl, ?_⟩)) (by decide +kernel) ?_
      refine cf_R_call (pc := 62) (q := ([.ref 23], [])) rp_211 rfl rfl (by decide) (by decide) rp_245 rfl (Nat.le_of_ble_eq_true rfl) ⟨rfl, Nat.le_of_ble_eq_true rfl⟩ h (fun v s7 h => ?_)
      obtain ⟨rfl, h⟩ := h
      exact cf_R_le (l := [(0, .ref 22), (1, .int x1), (2, .int r2)]) rfl rfl (⟨rfl, rfl, rfl, trivial⟩) (wc_Parser_readCase_65_ok h)
  · replace h := h.2 (Decidable.not_not.mp (of_decide_eq_false hb))
    refine cf_R_w rp_211 (rf_bk am_t211 4 1) 8 [(0, .ref 22), (1, .int x1)] [] s1 (by repeat (first | exact trivial | refine ⟨rfl, ?_⟩)) (by decide +kernel) ?_
    exact cf_R_ret (pc := 9) (v := some (.int (Int32.ofInt 0))) rp_211 rfl rfl rfl ⟨_, rfl, h⟩
/-- LazyHouse$Parser.readAlternative (I)I, from 158 on -/
def wc_Parser_readAlternative_158 (d : Nat) (x1 : Int32) (x2 : Int32) (x3 : Int32) (s : cf_S) (Q : Int32 → cf_S → Prop) : Prop := cf_V (d + 9) 220 [(0, .ref 22), (1, .int ((Int8.ofInt 9).toInt32))] s (fun s1 => cf_I (d + 9) 207 [(0, .ref 22), (1, .int x1)] s1 (fun r2 s2 => cf_V (d + 9) 226 [(0, .ref 22), (1, .int x3)] (tb_set s2 18 x2 (Int32.ofInt 2) r2) (fun s3 => cf_I (d + 9) 229 [(0, .ref 22), (1, .int x2)] s3 (fun r4 s4 => Q r4 s4))))
set_option maxRecDepth 20000 in
theorem wc_Parser_readAlternative_158_ok {d : Nat} {x1 : Int32} {x2 : Int32} {x3 : Int32} {s : cf_S} {Q : Int32 → cf_S → Prop} (h : wc_Parser_readAlternative_158 d x1 x2 x3 s Q) : cf_R (d + 10) 212 (158, [(0, .ref 22), (1, .int x1), (2, .int x2), (3, .int x3)], [], s) (cf_qI Q) := by
  unfold wc_Parser_readAlternative_158 at h
  refine cf_R_w rp_212 (rf_bk am_t212 68 2) 158 [(0, .ref 22), (1, .int x1), (2, .int x2), (3, .int x3)] [] s (by repeat (first | exact trivial | refine ⟨rfl, ?_⟩)) (by decide +kernel) ?_
  refine cf_R_call (pc := 161) (q := ([.ref 22, .int ((Int8.ofInt 9).toInt32)], [])) rp_212 rfl rfl (by decide) (by decide) rp_220 rfl (Nat.le_of_ble_eq_true rfl) ⟨rfl, Nat.le_of_ble_eq_true rfl⟩ h (fun v s1 h => ?_)
  obtain ⟨rfl, h⟩ := h
  refine cf_R_w rp_212 (rf_bk am_t212 71 6) 164 [(0, .ref 22), (1, .int x1), (2, .int x2), (3, .int x3)] [] s1 (by repeat (first | exact trivial | refine ⟨rfl, ?_⟩)) (by decide +kernel) ?_
  refine cf_R_call (pc := 172) (q := ([.ref 22, .int x1], [.int (Int32.ofInt 2), .int x2, .ref 18])) rp_212 rfl rfl (by decide) (by decide) rp_207 rfl (Nat.le_of_ble_eq_true rfl) ⟨rfl, Nat.le_of_ble_eq_true rfl⟩ h (fun v s2 h => ?_)
  obtain ⟨r2, rfl, h⟩ := h
  refine cf_R_prim (pc := 175) (q := ([.ref 18, .int x2, .int (Int32.ofInt 2), .int r2], [])) rp_212 rfl rfl (by decide) (by decide) rp_274 rfl (Nat.le_of_ble_eq_true rfl) ⟨rfl, Nat.le_of_ble_eq_true rfl⟩ (cq_set rfl) ?_
  refine cf_R_w rp_212 (rf_bk am_t212 79 2) 178 [(0, .ref 22), (1, .int x1), (2, .int x2), (3, .int x3)] [] (tb_set s2 18 x2 (Int32.ofInt 2) r2) (by repeat (first | exact trivial | refine ⟨rfl, ?_⟩)) (by decide +kernel) ?_
  refine cf_R_call (pc := 180) (q := ([.ref 22, .int x3], [])) rp_212 rfl rfl (by decide) (by decide) rp_226 rfl (Nat.le_of_ble_eq_true rfl) ⟨rfl, Nat.le_of_ble_eq_true rfl⟩ h (fun v s3 h => ?_)
  obtain ⟨rfl, h⟩ := h
  refine cf_R_w rp_212 (rf_bk am_t212 82 2) 183 [(0, .ref 22), (1, .int x1), (2, .int x2), (3, .int x3)] [] s3 (by repeat (first | exact trivial | refine ⟨rfl, ?_⟩)) (by decide +kernel) ?_
  refine cf_R_call (pc := 185) (q := ([.ref 22, .int x2], [])) rp_212 rfl rfl (by decide) (by decide) rp_229 rfl (Nat.le_of_ble_eq_true rfl) ⟨rfl, Nat.le_of_ble_eq_true rfl⟩ h (fun v s4 h => ?_)
  obtain ⟨r4, rfl, h⟩ := h
  exact cf_R_ret (pc := 188) (v := some (.int r4)) rp_212 rfl rfl rfl ⟨_, rfl, h⟩
/-- LazyHouse$Parser.readAlternative (I)I, from 0 on -/
def wc_Parser_readAlternative (d : Nat) (x1 : Int32) (s : cf_S) (Q : Int32 → cf_S → Prop) : Prop := cf_I (d + 9) 227 [(0, .ref 22), (1, .int ((Int8.ofInt 15).toInt32))] s (fun r1 s1 => cf_I (d + 9) 225 [(0, .ref 22)] s1 (fun r2 s2 => cf_I (d + 9) 241 [(0, .ref 23)] (tb_set s2 18 r1 (Int32.ofInt 5) (s2.1 14 2)) (fun r3 s3 => ((r3 = 3 → cf_I (d + 9) 243 [(0, .ref 23)] (tb_set s3 18 r1 (Int32.ofInt 0) ((Int8.ofInt 14).toInt32)) (fun r4 s4 => cf_V (d + 9) 246 [(0, .ref 23)] (tb_set s4 18 r1 (Int32.ofInt 1) r4) (fun s5 => cf_I (d + 9) 222 [(0, .ref 22), (1, .int r2)] s5 (fun r6 s6 => wc_Parser_readAlternative_158 d x1 r1 r2 (tb_set s6 18 r1 (Int32.ofInt 4) r6) Q)))) ∧ (¬ (r3 = 3) → ((r3 = 4 → cf_I (d + 9) 243 [(0, .ref 23)] (tb_set s3 18 r1 (Int32.ofInt 0) ((Int8.ofInt 13).toInt32)) (fun r7 s7 => cf_V (d + 9) 246 [(0, .ref 23)] (tb_set s7 18 r1 (Int32.ofInt 1) r7) (fun s8 => wc_Parser_readAlternative_158 d x1 r1 r2 s8 Q))) ∧ (¬ (r3 = 4) → cf_I (d + 9) 223 [(0, .ref 22), (1, .int r2)] s3 (fun r9 s9 => wc_Parser_readAlternative_158 d x1 r1 r2 s9 Q))))))))
set_option maxRecDepth 20000 in
theorem wc_Parser_readAlternative_ok {d : Nat} {x1 : Int32} {s : cf_S} {Q : Int32 → cf_S → Prop} (h : wc_Parser_readAlternative d x1 s Q) : cf_I (d + 10) 212 [(0, .ref 22), (1, .int x1)] s Q := by
  unfold wc_Parser_readAlternative at h
  unfold cf_I
  refine cf_R_w rp_212 (rf_bk am_t212 0 2) 0 [(0, .ref 22), (1, .int x1)] [] s (by repeat (first | exact trivial | refine ⟨rfl, ?_⟩)) (by decide +kernel) ?_
  refine cf_R_call (pc := 3) (q := ([.ref 22, .int ((Int8.ofInt 15).toInt32)], [])) rp_212 rfl rfl (by decide) (by decide) rp_227 rfl (Nat.le_of_ble_eq_true rfl) ⟨rfl, Nat.le_of_ble_eq_true rfl⟩ h (fun v s1 h => ?_)
  obtain ⟨r1, rfl, h⟩ := h
  refine cf_R_w rp_212 (rf_bk am_t212 3 2) 6 [(0, .ref 22), (1, .int x1)] [.int r1] s1 (by repeat (first | exact trivial | refine ⟨rfl, ?_⟩)) (by decide +kernel) ?_
  refine cf_R_call (pc := 8) (q := ([.ref 22], [])) rp_212 rfl rfl (by decide) (by decide) rp_225 rfl (Nat.le_of_ble_eq_true rfl) ⟨rfl, Nat.le_of_ble_eq_true rfl⟩ h (fun v s2 h => ?_)
  obtain ⟨r2, rfl, h⟩ := h
  refine cf_R_w rp_212 (rf_bk am_t212 6 8) 11 [(2, .int r1), (0, .ref 22), (1, .int x1)] [.int r2] s2 (by repeat (first | exact trivial | refine ⟨rfl, ?_⟩)) (by decide +kernel) ?_
  refine cf_R_prim (pc := 25) (q := ([.ref 14], [.int (Int32.ofInt 5), .int r1, .ref 18])) rp_212 rfl rfl (by decide) (by decide) rp_270 rfl (Nat.le_of_ble_eq_true rfl) ⟨rfl, Nat.le_of_ble_eq_true rfl⟩ (cq_rows rfl) ?_
  refine cf_R_prim (pc := 28) (q := ([.ref 18, .int r1, .int (Int32.ofInt 5), .int (s2.1 14 2)], [])) rp_212 rfl rfl (by decide) (by decide) rp_274 rfl (Nat.le_of_ble_eq_true rfl) ⟨rfl, Nat.le_of_ble_eq_true rfl⟩ (cq_set rfl) ?_
  refine cf_R_w rp_212 (rf_bk am_t212 16 2) 31 [(3, .int r2), (2, .int r1), (0, .ref 22), (1, .int x1)] [] (tb_set s2 18 r1 (Int32.ofInt 5) (s2.1 14 2)) (by repeat (first | exact trivial | refine ⟨rfl, ?_⟩)) (by decide +kernel) ?_
  refine cf_R_call (pc := 35) (q := ([.ref 23], [])) rp_212 rfl rfl (by decide) (by decide) rp_241 rfl (Nat.le_of_ble_eq_true rfl) ⟨rfl, Nat.le_of_ble_eq_true rfl⟩ h (fun v s3 h => ?_)
  obtain ⟨r3, rfl, h⟩ := h
  refine cf_R_w rp_212 (rf_bk am_t212 19 1) 38 [(3, .int r2), (2, .int r1), (0, .ref 22), (1, .int x1)] [.int r3] s3 (by repeat (first | exact trivial | refine ⟨rfl, ?_⟩)) (by decide +kernel) ?_
  refine cf_R_sw (fun hb => ?_) (fun hb => ?_)
  · replace h := h.1 hb
    refine cf_R_w rp_212 (rf_bk am_t212 38 5) 101 [(3, .int r2), (2, .int r1), (0, .ref 22), (1, .int x1)] [] s3 (by repeat (first | exact trivial | refine ⟨rfl, ?_⟩)) (by decide +kernel) ?_
    refine cf_R_prim (pc := 109) (q := ([.ref 18, .int r1, .int (Int32.ofInt 0), .int ((Int8.ofInt 14).toInt32)], [])) rp_212 rfl rfl (by decide) (by decide) rp_274 rfl (Nat.le_of_ble_eq_true rfl) ⟨rfl, Nat.le_of_ble_eq_true rfl⟩ (cq_set rfl) ?_
    refine cf_R_w rp_212 (rf_bk am_t212 44 6) 112 [(3, .int r2), (2, .int r1), (0, .ref 22), (1, .int x1)] [] (tb_set s3 18 r1 (Int32.ofInt 0) ((Int8.ofInt 14).toInt32)) (by repeat (first | exact trivial | refine ⟨rfl, ?_⟩)) (by decide +kernel) ?_
    refine cf_R_call (pc := 122) (q := ([.ref 23], [.int (Int32.ofInt 1), .int r1, .ref 18])) rp_212 rfl rfl (by decide) (by decide) rp_243 rfl (Nat.le_of_ble_eq_true rfl) ⟨rfl, Nat.le_of_ble_eq_true rfl⟩ h (fun v s4 h => ?_)
    obtain ⟨r4, rfl, h⟩ := h
    refine cf_R_prim (pc := 125) (q := ([.ref 18, .int r1, .int (Int32.ofInt 1), .int r4], [])) rp_212 rfl rfl (by decide) (by decide) rp_274 rfl (Nat.le_of_ble_eq_true rfl) ⟨rfl, Nat.le_of_ble_eq_true rfl⟩ (cq_set rfl) ?_
    refine cf_R_w rp_212 (rf_bk am_t212 52 2) 128 [(3, .int r2), (2, .int r1), (0, .ref 22), (1, .int x1)] [] (tb_set s4 18 r1 (Int32.ofInt 1) r4) (by repeat (first | exact trivial | refine ⟨rfl, ?_⟩)) (by decide +kernel) ?_
    refine cf_R_call (pc := 132) (q := ([.ref 23], [])) rp_212 rfl rfl (by decide) (by decide) rp_246 rfl (Nat.le_of_ble_eq_true rfl) ⟨rfl, Nat.le_of_ble_eq_true rfl⟩ h (fun v s5 h => ?_)
    obtain ⟨rfl, h⟩ := h
    refine cf_R_w rp_212 (rf_bk am_t212 55 6) 135 [(3, .int r2), (2, .int r1), (0, .ref 22), (1, .int x1)] [] s5 (by repeat (first | exact trivial | refine ⟨rfl, ?_⟩)) (by decide +kernel) ?_
    refine cf_R_call (pc := 143) (q := ([.ref 22, .int r2], [.int (Int32.ofInt 4), .int r1, .ref 18])) rp_212 rfl rfl (by decide) (by decide) rp_222 rfl (Nat.le_of_ble_eq_true rfl) ⟨rfl, Nat.le_of_ble_eq_true rfl⟩ h (fun v s6 h => ?_)
    obtain ⟨r6, rfl, h⟩ := h
    refine cf_R_prim (pc := 146) (q := ([.ref 18, .int r1, .int (Int32.ofInt 4), .int r6], [])) rp_212 rfl rfl (by decide) (by decide) rp_274 rfl (Nat.le_of_ble_eq_true rfl) ⟨rfl, Nat.le_of_ble_eq_true rfl⟩ (cq_set rfl) ?_
    refine cf_R_w rp_212 (rf_bk am_t212 63 1) 149 [(3, .int r2), (2, .int r1), (0, .ref 22), (1, .int x1)] [] (tb_set s6 18 r1 (Int32.ofInt 4) r6) (by repeat (first | exact trivial | refine ⟨rfl, ?_⟩)) (by decide +kernel) ?_
    exact cf_R_le (l := [(0, .ref 22), (1, .int x1), (2, .int r1), (3, .int r2)]) rfl rfl (⟨rfl, rfl, rfl, rfl, trivial⟩) (wc_Parser_readAlternative_158_ok h)
  replace h := h.2 hb
  refine cf_R_sw (fun hb => ?_) (fun hb => ?_)
  · replace h := h.1 hb
    refine cf_R_w rp_212 (rf_bk am_t212 20 5) 64 [(3, .int r2), (2, .int r1), (0, .ref 22), (1, .int x1)] [] s3 (by repeat (first | exact trivial | refine ⟨rfl, ?_⟩)) (by decide +kernel) ?_
    refine cf_R_prim (pc := 72) (q := ([.ref 18, .int r1, .int (Int32.ofInt 0), .int ((Int8.ofInt 13).toInt32)], [])) rp_212 rfl rfl (by decide) (by decide) rp_274 rfl (Nat.le_of_ble_eq_true rfl) ⟨rfl, Nat.le_of_ble_eq_true rfl⟩ (cq_set rfl) ?_
    refine cf_R_w rp_212 (rf_bk am_t212 26 6) 75 [(3, .int r2), (2, .int r1), (0, .ref 22), (1, .int x1)] [] (tb_set s3 18 r1 (Int32.ofInt 0) ((Int8.ofInt 13).toInt32)) (by repeat (first | exact trivial | refine ⟨rfl, ?_⟩)) (by decide +kernel) ?_
    refine cf_R_call (pc := 85) (q := ([.ref 23], [.int (Int32.ofInt 1), .int r1, .ref 18])) rp_212 rfl rfl (by decide) (by decide) rp_243 rfl (Nat.le_of_ble_eq_true rfl) ⟨rfl, Nat.le_of_ble_eq_true rfl⟩ h (fun v s7 h => ?_)
    obtain ⟨r7, rfl, h⟩ := h
    refine cf_R_prim (pc := 88) (q := ([.ref 18, .int r1, .int (Int32.ofInt 1), .int r7], [])) rp_212 rfl rfl (by decide) (by decide) rp_274 rfl (Nat.le_of_ble_eq_true rfl) ⟨rfl, Nat.le_of_ble_eq_true rfl⟩ (cq_set rfl) ?_
    refine cf_R_w rp_212 (rf_bk am_t212 34 2) 91 [(3, .int r2), (2, .int r1), (0, .ref 22), (1, .int x1)] [] (tb_set s7 18 r1 (Int32.ofInt 1) r7) (by repeat (first | exact trivial | refine ⟨rfl, ?_⟩)) (by decide +kernel) ?_
    refine cf_R_call (pc := 95) (q := ([.ref 23], [])) rp_212 rfl rfl (by decide) (by decide) rp_246 rfl (Nat.le_of_ble_eq_true rfl) ⟨rfl, Nat.le_of_ble_eq_true rfl⟩ h (fun v s8 h => ?_)
    obtain ⟨rfl, h⟩ := h
    refine cf_R_w rp_212 (rf_bk am_t212 37 1) 98 [(3, .int r2), (2, .int r1), (0, .ref 22), (1, .int x1)] [] s8 (by repeat (first | exact trivial | refine ⟨rfl, ?_⟩)) (by decide +kernel) ?_
    exact cf_R_le (l := [(0, .ref 22), (1, .int x1), (2, .int r1), (3, .int r2)]) rfl rfl (⟨rfl, rfl, rfl, rfl, trivial⟩) (wc_Parser_readAlternative_158_ok h)
  replace h := h.2 hb
  show cf_R (d + 10) 212 (152, _, _, _) _
  refine cf_R_w rp_212 (rf_bk am_t212 64 2) 152 [(3, .int r2), (2, .int r1), (0, .ref 22), (1, .int x1)] [] s3 (by repeat (first | exact trivial | refine ⟨rfl, ?_⟩)) (by decide +kernel) ?_
  refine cf_R_call (pc := 154) (q := ([.ref 22, .int r2], [])) rp_212 rfl rfl (by decide) (by decide) rp_223 rfl (Nat.le_of_ble_eq_true rfl) ⟨rfl, Nat.le_of_ble_eq_true rfl⟩ h (fun v s9 h => ?_)
  obtain ⟨r9, rfl, h⟩ := h
  refine cf_R_w rp_212 (rf_bk am_t212 67 1) 157 [(3, .int r2), (2, .int r1), (0, .ref 22), (1, .int x1)] [.int r9] s9 (by repeat (first | exact trivial | refine ⟨rfl, ?_⟩)) (by decide +kernel) ?_
  exact cf_R_le (l := [(0, .ref 22), (1, .int x1), (2, .int r1), (3, .int r2)]) rfl rfl (⟨rfl, rfl, rfl, rfl, trivial⟩) (wc_Parser_readAlternative_158_ok h)
/-- LazyHouse$Parser.readCompared (I)I, from 179 on -/
def wc_Parser_readCompared_179 (d : Nat) (x2 : Int32) (x3 : Int32) (x4 : Int32) (x5 : Int32) (x6 : Int32) (s : cf_S) (Q : Int32 → cf_S → Prop) : Prop := cf_I (d + 9) 214 [(0, .ref 22), (1, .int x4), (2, .int x5), (3, .int x6)] s (fun r1 s1 => cf_I (d + 9) 214 [(0, .ref 22), (1, .int x2), (2, .int x3), (3, .int r1)] s1 (fun r2 s2 => Q r2 s2))
set_option maxRecDepth 20000 in
theorem wc_Parser_readCompared_179_ok {d : Nat} {x2 : Int32} {x3 : Int32} {x4 : Int32} {x5 : Int32} {x6 : Int32} {s : cf_S} {Q : Int32 → cf_S → Prop} (h : wc_Parser_readCompared_179 d x2 x3 x4 x5 x6 s Q) : cf_R (d + 10) 213 (179, [(0, .ref 22), (2, .int x2), (3, .int x3), (4, .int x4), (5, .int x5), (6, .int x6)], [], s) (cf_qI Q) := by
  unfold wc_Parser_readCompared_179 at h
  refine cf_R_w rp_213 (rf_bk am_t213 88 7) 179 [(0, .ref 22), (2, .int x2), (3, .int x3), (4, .int x4), (5, .int x5), (6, .int x6)] [] s (by repeat (first | exact trivial | refine ⟨rfl, ?_⟩)) (by decide +kernel) ?_
  refine cf_R_call (pc := 189) (q := ([.ref 22, .int x4, .int x5, .int x6], [.int x3, .int x2, .ref 22])) rp_213 rfl rfl (by decide) (by decide) rp_214 rfl (Nat.le_of_ble_eq_true rfl) ⟨rfl, Nat.le_of_ble_eq_true rfl⟩ h (fun v s1 h => ?_)
  obtain ⟨r1, rfl, h⟩ := h
  refine cf_R_call (pc := 192) (q := ([.ref 22, .int x2, .int x3, .int r1], [])) rp_213 rfl rfl (by decide) (by decide) rp_214 rfl (Nat.le_of_ble_eq_true rfl) ⟨rfl, Nat.le_of_ble_eq_true rfl⟩ h (fun v s2 h => ?_)
  obtain ⟨r2, rfl, h⟩ := h
  exact cf_R_ret (pc := 195) (v := some (.int r2)) rp_213 rfl rfl rfl ⟨_, rfl, h⟩
/-- LazyHouse$Parser.readCompared (I)I, from 173 on -/
def wc_Parser_readCompared_173 (d : Nat) (x1 : Int32) (x2 : Int32) (x3 : Int32) (x4 : Int32) (x5 : Int32) (x6 : Int32) (x7 : Int32) (s : cf_S) (Q : Int32 → cf_S → Prop) : Prop := cf_R (d + 10) 213 (20, [(0, .ref 22), (1, .int x1), (2, .int x2), (3, .int x3), (4, .int x4), (5, .int x5), (6, .int x6), (7, .int (x7 + Int32.ofInt 1))], [], s) (cf_qI Q)
set_option maxRecDepth 20000 in
theorem wc_Parser_readCompared_173_ok {d : Nat} {x1 : Int32} {x2 : Int32} {x3 : Int32} {x4 : Int32} {x5 : Int32} {x6 : Int32} {x7 : Int32} {s : cf_S} {Q : Int32 → cf_S → Prop} (h : wc_Parser_readCompared_173 d x1 x2 x3 x4 x5 x6 x7 s Q) : cf_R (d + 10) 213 (173, [(0, .ref 22), (1, .int x1), (2, .int x2), (3, .int x3), (4, .int x4), (5, .int x5), (6, .int x6), (7, .int x7)], [], s) (cf_qI Q) := by
  unfold wc_Parser_readCompared_173 at h
  refine cf_R_w rp_213 (rf_bk am_t213 86 2) 173 [(0, .ref 22), (1, .int x1), (2, .int x2), (3, .int x3), (4, .int x4), (5, .int x5), (6, .int x6), (7, .int x7)] [] s (by repeat (first | exact trivial | refine ⟨rfl, ?_⟩)) (by decide +kernel) ?_
  exact cf_R_le (l := [(0, .ref 22), (1, .int x1), (2, .int x2), (3, .int x3), (4, .int x4), (5, .int x5), (6, .int x6), (7, .int (x7 + Int32.ofInt 1))]) rfl rfl (⟨rfl, rfl, rfl, rfl, rfl, rfl, rfl, rfl, trivial⟩) h
/-- LazyHouse$Parser.readCompared (I)I, from 159 on -/
def wc_Parser_readCompared_159 (d : Nat) (x1 : Int32) (x2 : Int32) (x3 : Int32) (x4 : Int32) (x5 : Int32) (x7 : Int32) (s : cf_S) (Q : Int32 → cf_S → Prop) : Prop := cf_V (d + 9) 246 [(0, .ref 23)] s (fun s1 => cf_I (d + 9) 215 [(0, .ref 22), (1, .int x1)] s1 (fun r2 s2 => wc_Parser_readCompared_173 d x1 x2 x3 x4 x5 r2 x7 s2 Q))
set_option maxRecDepth 20000 in
theorem wc_Parser_readCompared_159_ok {d : Nat} {x1 : Int32} {x2 : Int32} {x3 : Int32} {x4 : Int32} {x5 : Int32} {x7 : Int32} {s : cf_S} {Q : Int32 → cf_S → Prop} (h : wc_Parser_readCompared_159 d x1 x2 x3 x4 x5 x7 s Q) : cf_R (d + 10) 213 (159, [(0, .ref 22), (1, .int x1), (2, .int x2), (3, .int x3), (4, .int x4), (5, .int x5), (7, .int x7)], [], s) (cf_qI Q) := by
  unfold wc_Parser_readCompared_159 at h
  refine cf_R_w rp_213 (rf_bk am_t213 79 2) 159 [(0, .ref 22), (1, .int x1), (2, .int x2), (3, .int x3), (4, .int x4), (5, .int x5), (7, .int x7)] [] s (by repeat (first | exact trivial | refine ⟨rfl, ?_⟩)) (by decide +kernel) ?_
  refine cf_R_call (pc := 163) (q := ([.ref 23], [])) rp_213 rfl rfl (by decide) (by decide) rp_246 rfl (Nat.le_of_ble_eq_true rfl) ⟨rfl, Nat.le_of_ble_eq_true rfl⟩ h (fun v s1 h => ?_)
  obtain ⟨rfl, h⟩ := h
  refine cf_R_w rp_213 (rf_bk am_t213 82 2) 166 [(0, .ref 22), (1, .int x1), (2, .int x2), (3, .int x3), (4, .int x4), (5, .int x5), (7, .int x7)] [] s1 (by repeat (first | exact trivial | refine ⟨rfl, ?_⟩)) (by decide +kernel) ?_
  refine cf_R_call (pc := 168) (q := ([.ref 22, .int x1], [])) rp_213 rfl rfl (by decide) (by decide) rp_215 rfl (Nat.le_of_ble_eq_true rfl) ⟨rfl, Nat.le_of_ble_eq_true rfl⟩ h (fun v s2 h => ?_)
  obtain ⟨r2, rfl, h⟩ := h
  refine cf_R_w rp_213 (rf_bk am_t213 85 1) 171 [(0, .ref 22), (1, .int x1), (2, .int x2), (3, .int x3), (4, .int x4), (5, .int x5), (7, .int x7)] [.int r2] s2 (by repeat (first | exact trivial | refine ⟨rfl, ?_⟩)) (by decide +kernel) ?_
  exact cf_R_le (l := [(0, .ref 22), (1, .int x1), (2, .int x2), (3, .int x3), (4, .int x4), (5, .int x5), (6, .int r2), (7, .int x7)]) rfl rfl (⟨rfl, rfl, rfl, rfl, rfl, rfl, rfl, rfl, trivial⟩) (wc_Parser_readCompared_173_ok h)
/-- LazyHouse$Parser.readCompared (I)I, from 129 on -/
def wc_Parser_readCompared_129 (d : Nat) (x1 : Int32) (x2 : Int32) (x3 : Int32) (x4 : Int32) (x5 : Int32) (x6 : Int32) (x7 : Int32) (x8 : Int32) (x9 : Int32) (s : cf_S) (Q : Int32 → cf_S → Prop) : Prop := cf_I (d + 9) 214 [(0, .ref 22), (1, .int x4), (2, .int x5), (3, .int x6)] s (fun r1 s1 => ((x9 = 0 → wc_Parser_readCompared_159 d x1 x2 x3 x8 r1 x7 s1 Q) ∧ (¬ (x9 = 0) → wc_Parser_readCompared_159 d x1 x8 r1 (Int32.ofInt 0) r1 x7 s1 Q)))
set_option maxRecDepth 20000 in
theorem wc_Parser_readCompared_129_ok {d : Nat} {x1 : Int32} {x2 : Int32} {x3 : Int32} {x4 : Int32} {x5 : Int32} {x6 : Int32} {x7 : Int32} {x8 : Int32} {x9 : Int32} {s : cf_S} {Q : Int32 → cf_S → Prop} (h : wc_Parser_readCompared_129 d x1 x2 x3 x4 x5 x6 x7 x8 x9 s Q) : cf_R (d + 10) 213 (129, [(0, .ref 22), (1, .int x1), (2, .int x2), (3, .int x3), (4, .int x4), (5, .int x5), (6, .int x6), (7, .int x7), (8, .int x8), (9, .int x9)], [], s) (cf_qI Q) := by
  unfold wc_Parser_readCompared_129 at h
  refine cf_R_w rp_213 (rf_bk am_t213 63 4) 129 [(0, .ref 22), (1, .int x1), (2, .int x2), (3, .int x3), (4, .int x4), (5, .int x5), (6, .int x6), (7, .int x7), (8, .int x8), (9, .int x9)] [] s (by repeat (first | exact trivial | refine ⟨rfl, ?_⟩)) (by decide +kernel) ?_
  refine cf_R_call (pc := 136) (q := ([.ref 22, .int x4, .int x5, .int x6], [])) rp_213 rfl rfl (by decide) (by decide) rp_214 rfl (Nat.le_of_ble_eq_true rfl) ⟨rfl, Nat.le_of_ble_eq_true rfl⟩ h (fun v s1 h => ?_)
  obtain ⟨r1, rfl, h⟩ := h
  refine cf_R_w rp_213 (rf_bk am_t213 68 5) 139 [(0, .ref 22), (1, .int x1), (2, .int x2), (3, .int x3), (4, .int x4), (5, .int x5), (6, .int x6), (7, .int x7), (8, .int x8), (9, .int x9)] [.int r1] s1 (by repeat (first | exact trivial | refine ⟨rfl, ?_⟩)) (by decide +kernel) ?_
  refine cf_R_if (b := am_cnd .eq x9 0) (p := 159) (q := 150) (fun hb => ?_) (fun hb => ?_)
  · replace h := h.1 (of_decide_eq_true hb)
    exact cf_R_le (l := [(0, .ref 22), (1, .int x1), (2, .int x2), (3, .int x3), (4, .int x8), (5, .int r1), (7, .int x7)]) rfl rfl (⟨rfl, rfl, rfl, rfl, rfl, rfl, rfl, trivial⟩) (wc_Parser_readCompared_159_ok h)
  · replace h := h.2 (of_decide_eq_false hb)
    refine cf_R_w rp_213 (rf_bk am_t213 73 6) 150 [(4, .int x8), (5, .int r1), (0, .ref 22), (1, .int x1), (2, .int x2), (3, .int x3), (6, .int x6), (7, .int x7), (8, .int x8), (9, .int x9)] [] s1 (by repeat (first | exact trivial | refine ⟨rfl, ?_⟩)) (by decide +kernel) ?_
    exact cf_R_le (l := [(0, .ref 22), (1, .int x1), (2, .int x8), (3, .int r1), (4, .int (Int32.ofInt 0)), (5, .int r1), (7, .int x7)]) rfl rfl (⟨rfl, rfl, rfl, rfl, rfl, rfl, rfl, trivial⟩) (wc_Parser_readCompared_159_ok h)
/-- LazyHouse$Parser.readCompared (I)I, from 105 on -/
def wc_Parser_readCompared_105 (d : Nat) (x1 : Int32) (x2 : Int32) (x3 : Int32) (x4 : Int32) (x5 : Int32) (x6 : Int32) (x7 : Int32) (x8 : Int32) (y0 : Int32) (s : cf_S) (Q : Int32 → cf_S → Prop) : Prop := ((¬ y0 = 0 → wc_Parser_readCompared_129 d x1 x2 x3 x4 x5 x6 x7 x8 y0 s Q) ∧ (y0 = 0 → ((x8 = ((Int8.ofInt 43).toInt32) → wc_Parser_readCompared_129 d x1 x2 x3 x4 x5 x6 x7 x8 y0 s Q) ∧ (¬ (x8 = ((Int8.ofInt 43).toInt32)) → ((x8 = ((Int8.ofInt 45).toInt32) → wc_Parser_readCompared_129 d x1 x2 x3 x4 x5 x6 x7 x8 y0 s Q) ∧ (¬ (x8 = ((Int8.ofInt 45).toInt32)) → wc_Parser_readCompared_179 d x2 x3 x4 x5 x6 s Q))))))
set_option maxRecDepth 20000 in
theorem wc_Parser_readCompared_105_ok {d : Nat} {x1 : Int32} {x2 : Int32} {x3 : Int32} {x4 : Int32} {x5 : Int32} {x6 : Int32} {x7 : Int32} {x8 : Int32} {y0 : Int32} {s : cf_S} {Q : Int32 → cf_S → Prop} (h : wc_Parser_readCompared_105 d x1 x2 x3 x4 x5 x6 x7 x8 y0 s Q) : cf_R (d + 10) 213 (105, [(0, .ref 22), (1, .int x1), (2, .int x2), (3, .int x3), (4, .int x4), (5, .int x5), (6, .int x6), (7, .int x7), (8, .int x8)], [.int y0], s) (cf_qI Q) := by
  unfold wc_Parser_readCompared_105 at h
  refine cf_R_w rp_213 (rf_bk am_t213 53 3) 105 [(0, .ref 22), (1, .int x1), (2, .int x2), (3, .int x3), (4, .int x4), (5, .int x5), (6, .int x6), (7, .int x7), (8, .int x8)] [.int y0] s (by repeat (first | exact trivial | refine ⟨rfl, ?_⟩)) (by decide +kernel) ?_
  refine cf_R_if (b := am_cnd .ne y0 0) (p := 129) (q := 112) (fun hb => ?_) (fun hb => ?_)
  · replace h := h.1 (of_decide_eq_true hb)
    exact cf_R_le (l := [(0, .ref 22), (1, .int x1), (2, .int x2), (3, .int x3), (4, .int x4), (5, .int x5), (6, .int x6), (7, .int x7), (8, .int x8), (9, .int y0)]) rfl rfl (⟨rfl, rfl, rfl, rfl, rfl, rfl, rfl, rfl, rfl, rfl, trivial⟩) (wc_Parser_readCompared_129_ok h)
  · replace h := h.2 (Decidable.not_not.mp (of_decide_eq_false hb))
    refine cf_R_w rp_213 (rf_bk am_t213 56 3) 112 [(9, .int y0), (0, .ref 22), (1, .int x1), (2, .int x2), (3, .int x3), (4, .int x4), (5, .int x5), (6, .int x6), (7, .int x7), (8, .int x8)] [] s (by repeat (first | exact trivial | refine ⟨rfl, ?_⟩)) (by decide +kernel) ?_
    refine cf_R_if (b := am_cnd .eq x8 ((Int8.ofInt 43).toInt32)) (p := 129) (q := 119) (fun hb => ?_) (fun hb => ?_)
    · replace h := h.1 (of_decide_eq_true hb)
      exact cf_R_le (l := [(0, .ref 22), (1, .int x1), (2, .int x2), (3, .int x3), (4, .int x4), (5, .int x5), (6, .int x6), (7, .int x7), (8, .int x8), (9, .int y0)]) rfl rfl (⟨rfl, rfl, rfl, rfl, rfl, rfl, rfl, rfl, rfl, rfl, trivial⟩) (wc_Parser_readCompared_129_ok h)
    · replace h := h.2 (of_decide_eq_false hb)
      refine cf_R_w rp_213 (rf_bk am_t213 59 3) 119 [(9, .int y0), (0, .ref 22), (1, .int x1), (2, .int x2), (3, .int x3), (4, .int x4), (5, .int x5), (6, .int x6), (7, .int x7), (8, .int x8)] [] s (by repeat (first | exact trivial | refine ⟨rfl, ?_⟩)) (by decide +kernel) ?_
      refine cf_R_if (b := am_cnd .eq x8 ((Int8.ofInt 45).toInt32)) (p := 129) (q := 126) (fun hb => ?_) (fun hb => ?_)
      · replace h := h.1 (of_decide_eq_true hb)
        exact cf_R_le (l := [(0, .ref 22), (1, .int x1), (2, .int x2), (3, .int x3), (4, .int x4), (5, .int x5), (6, .int x6), (7, .int x7), (8, .int x8), (9, .int y0)]) rfl rfl (⟨rfl, rfl, rfl, rfl, rfl, rfl, rfl, rfl, rfl, rfl, trivial⟩) (wc_Parser_readCompared_129_ok h)
      · replace h := h.2 (of_decide_eq_false hb)
        refine cf_R_w rp_213 (rf_bk am_t213 62 1) 126 [(9, .int y0), (0, .ref 22), (1, .int x1), (2, .int x2), (3, .int x3), (4, .int x4), (5, .int x5), (6, .int x6), (7, .int x7), (8, .int x8)] [] s (by repeat (first | exact trivial | refine ⟨rfl, ?_⟩)) (by decide +kernel) ?_
        exact cf_R_le (l := [(0, .ref 22), (2, .int x2), (3, .int x3), (4, .int x4), (5, .int x5), (6, .int x6)]) rfl rfl (⟨rfl, rfl, rfl, rfl, rfl, rfl, trivial⟩) (wc_Parser_readCompared_179_ok h)
/-- LazyHouse$Parser.readCompared (I)I, from 104 on -/
def wc_Parser_readCompared_104 (d : Nat) (x1 : Int32) (x2 : Int32) (x3 : Int32) (x4 : Int32) (x5 : Int32) (x6 : Int32) (x7 : Int32) (x8 : Int32) (s : cf_S) (Q : Int32 → cf_S → Prop) : Prop := wc_Parser_readCompared_105 d x1 x2 x3 x4 x5 x6 x7 x8 (Int32.ofInt 0) s Q
set_option maxRecDepth 20000 in
theorem wc_Parser_readCompared_104_ok {d : Nat} {x1 : Int32} {x2 : Int32} {x3 : Int32} {x4 : Int32} {x5 : Int32} {x6 : Int32} {x7 : Int32} {x8 : Int32} {s : cf_S} {Q : Int32 → cf_S → Prop} (h : wc_Parser_readCompared_104 d x1 x2 x3 x4 x5 x6 x7 x8 s Q) : cf_R (d + 10) 213 (104, [(0, .ref 22), (1, .int x1), (2, .int x2), (3, .int x3), (4, .int x4), (5, .int x5), (6, .int x6), (7, .int x7), (8, .int x8)], [], s) (cf_qI Q) := by
  unfold wc_Parser_readCompared_104 at h
  refine cf_R_w rp_213 (rf_bk am_t213 52 1) 104 [(0, .ref 22), (1, .int x1), (2, .int x2), (3, .int x3), (4, .int x4), (5, .int x5), (6, .int x6), (7, .int x7), (8, .int x8)] [] s (by repeat (first | exact trivial | refine ⟨rfl, ?_⟩)) (by decide +kernel) ?_
  exact cf_R_le (l := [(0, .ref 22), (1, .int x1), (2, .int x2), (3, .int x3), (4, .int x4), (5, .int x5), (6, .int x6), (7, .int x7), (8, .int x8)]) rfl rfl (⟨rfl, rfl, rfl, rfl, rfl, rfl, rfl, rfl, rfl, trivial⟩) (wc_Parser_readCompared_105_ok h)
/-- LazyHouse$Parser.readCompared (I)I, from 96 on -/
def wc_Parser_readCompared_96 (d : Nat) (x1 : Int32) (x2 : Int32) (x3 : Int32) (x4 : Int32) (x5 : Int32) (x6 : Int32) (x7 : Int32) (x8 : Int32) (s : cf_S) (Q : Int32 → cf_S → Prop) : Prop := ((¬ x2 = 0 → wc_Parser_readCompared_104 d x1 x2 x3 x4 x5 x6 x7 x8 s Q) ∧ (x2 = 0 → wc_Parser_readCompared_105 d x1 x2 x3 x4 x5 x6 x7 x8 (Int32.ofInt 1) s Q))
set_option maxRecDepth 20000 in
theorem wc_Parser_readCompared_96_ok {d : Nat} {x1 : Int32} {x2 : Int32} {x3 : Int32} {x4 : Int32} {x5 : Int32} {x6 : Int32} {x7 : Int32} {x8 : Int32} {s : cf_S} {Q : Int32 → cf_S → Prop} (h : wc_Parser_readCompared_96 d x1 x2 x3 x4 x5 x6 x7 x8 s Q) : cf_R (d + 10) 213 (96, [(0, .ref 22), (1, .int x1), (2, .int x2), (3, .int x3), (4, .int x4), (5, .int x5), (6, .int x6), (7, .int x7), (8, .int x8)], [], s) (cf_qI Q) := by
  unfold wc_Parser_readCompared_96 at h
  refine cf_R_w rp_213 (rf_bk am_t213 48 2) 96 [(0, .ref 22), (1, .int x1), (2, .int x2), (3, .int x3), (4, .int x4), (5, .int x5), (6, .int x6), (7, .int x7), (8, .int x8)] [] s (by repeat (first | exact trivial | refine ⟨rfl, ?_⟩)) (by decide +kernel) ?_
  refine cf_R_if (b := am_cnd .ne x2 0) (p := 104) (q := 100) (fun hb => ?_) (fun hb => ?_)
  · replace h := h.1 (of_decide_eq_true hb)
    exact cf_R_le (l := [(0, .ref 22), (1, .int x1), (2, .int x2), (3, .int x3), (4, .int x4), (5, .int x5), (6, .int x6), (7, .int x7), (8, .int x8)]) rfl rfl (⟨rfl, rfl, rfl, rfl, rfl, rfl, rfl, rfl, rfl, trivial⟩) (wc_Parser_readCompared_104_ok h)
  · replace h := h.2 (Decidable.not_not.mp (of_decide_eq_false hb))
    refine cf_R_w rp_213 (rf_bk am_t213 50 2) 100 [(0, .ref 22), (1, .int x1), (2, .int x2), (3, .int x3), (4, .int x4), (5, .int x5), (6, .int x6), (7, .int x7), (8, .int x8)] [] s (by repeat (first | exact trivial | refine ⟨rfl, ?_⟩)) (by decide +kernel) ?_
    exact cf_R_le (l := [(0, .ref 22), (1, .int x1), (2, .int x2), (3, .int x3), (4, .int x4), (5, .int x5), (6, .int x6), (7, .int x7), (8, .int x8)]) rfl rfl (⟨rfl, rfl, rfl, rfl, rfl, rfl, rfl, rfl, rfl, trivial⟩) (wc_Parser_readCompared_105_ok h)
/-- LazyHouse$Parser.readCompared (I)I, from 57 on -/
def wc_Parser_readCompared_57 (d : Nat) (x1 : Int32) (x2 : Int32) (x3 : Int32) (x4 : Int32) (x5 : Int32) (x6 : Int32) (x7 : Int32) (x8 : Int32) (s : cf_S) (Q : Int32 → cf_S → Prop) : Prop := cf_V (d + 9) 246 [(0, .ref 23)] s (fun s1 => cf_I (d + 9) 215 [(0, .ref 22), (1, .int x1)] s1 (fun r2 s2 => cf_I (d + 9) 214 [(0, .ref 22), (1, .int x8), (2, .int x6), (3, .int r2)] s2 (fun r3 s3 => wc_Parser_readCompared_173 d x1 x2 x3 x4 x5 r3 x7 s3 Q)))
set_option maxRecDepth 20000 in
theorem wc_Parser_readCompared_57_ok {d : Nat} {x1 : Int32} {x2 : Int32} {x3 : Int32} {x4 : Int32} {x5 : Int32} {x6 : Int32} {x7 : Int32} {x8 : Int32} {s : cf_S} {Q : Int32 → cf_S → Prop} (h : wc_Parser_readCompared_57 d x1 x2 x3 x4 x5 x6 x7 x8 s Q) : cf_R (d + 10) 213 (57, [(0, .ref 22), (1, .int x1), (2, .int x2), (3, .int x3), (4, .int x4), (5, .int x5), (6, .int x6), (7, .int x7), (8, .int x8)], [], s) (cf_qI Q) := by
  unfold wc_Parser_readCompared_57 at h
  refine cf_R_w rp_213 (rf_bk am_t213 30 2) 57 [(0, .ref 22), (1, .int x1), (2, .int x2), (3, .int x3), (4, .int x4), (5, .int x5), (6, .int x6), (7, .int x7), (8, .int x8)] [] s (by repeat (first | exact trivial | refine ⟨rfl, ?_⟩)) (by decide +kernel) ?_
  refine cf_R_call (pc := 61) (q := ([.ref 23], [])) rp_213 rfl rfl (by decide) (by decide) rp_246 rfl (Nat.le_of_ble_eq_true rfl) ⟨rfl, Nat.le_of_ble_eq_true rfl⟩ h (fun v s1 h => ?_)
  obtain ⟨rfl, h⟩ := h
  refine cf_R_w rp_213 (rf_bk am_t213 33 5) 64 [(0, .ref 22), (1, .int x1), (2, .int x2), (3, .int x3), (4, .int x4), (5, .int x5), (6, .int x6), (7, .int x7), (8, .int x8)] [] s1 (by repeat (first | exact trivial | refine ⟨rfl, ?_⟩)) (by decide +kernel) ?_
  refine cf_R_call (pc := 71) (q := ([.ref 22, .int x1], [.int x6, .int x8, .ref 22])) rp_213 rfl rfl (by decide) (by decide) rp_215 rfl (Nat.le_of_ble_eq_true rfl) ⟨rfl, Nat.le_of_ble_eq_true rfl⟩ h (fun v s2 h => ?_)
  obtain ⟨r2, rfl, h⟩ := h
  refine cf_R_call (pc := 74) (q := ([.ref 22, .int x8, .int x6, .int r2], [])) rp_213 rfl rfl (by decide) (by decide) rp_214 rfl (Nat.le_of_ble_eq_true rfl) ⟨rfl, Nat.le_of_ble_eq_true rfl⟩ h (fun v s3 h => ?_)
  obtain ⟨r3, rfl, h⟩ := h
  refine cf_R_w rp_213 (rf_bk am_t213 40 2) 77 [(0, .ref 22), (1, .int x1), (2, .int x2), (3, .int x3), (4, .int x4), (5, .int x5), (6, .int x6), (7, .int x7), (8, .int x8)] [.int r3] s3 (by repeat (first | exact trivial | refine ⟨rfl, ?_⟩)) (by decide +kernel) ?_
  exact cf_R_le (l := [(0, .ref 22), (1, .int x1), (2, .int x2), (3, .int x3), (4, .int x4), (5, .int x5), (6, .int r3), (7, .int x7)]) rfl rfl (⟨rfl, rfl, rfl, rfl, rfl, rfl, rfl, rfl, trivial⟩) (wc_Parser_readCompared_173_ok h)
/-- LazyHouse$Parser.readCompared (I)I, from 20 on -/
def wc_Parser_readCompared_20 (d : Nat) (x1 : Int32) (x2 : Int32) (x3 : Int32) (x4 : Int32) (x5 : Int32) (x6 : Int32) (x7 : Int32) (s : cf_S) (Q : Int32 → cf_S → Prop) : Prop := (((Int32.ofNat 1000000) ≤ x7 → wc_Parser_readCompared_179 d x2 x3 x4 x5 x6 s Q) ∧ (¬ ((Int32.ofNat 1000000) ≤ x7) → cf_I (d + 9) 241 [(0, .ref 23)] s (fun r1 s1 => ((r1 = ((Int8.ofInt 42).toInt32) → wc_Parser_readCompared_57 d x1 x2 x3 x4 x5 x6 x7 r1 s1 Q) ∧ (¬ (r1 = ((Int8.ofInt 42).toInt32)) → ((r1 = ((Int8.ofInt 47).toInt32) → wc_Parser_readCompared_57 d x1 x2 x3 x4 x5 x6 x7 r1 s1 Q) ∧ (¬ (r1 = ((Int8.ofInt 47).toInt32)) → ((¬ r1 = ((Int8.ofInt 37).toInt32) → ((r1 = ((Int8.ofInt 10).toInt32) → wc_Parser_readCompared_96 d x1 x2 x3 x4 x5 x6 x7 r1 s1 Q) ∧ (¬ (r1 = ((Int8.ofInt 10).toInt32)) → ((¬ r1 = ((Int8.ofInt 60).toInt32) → wc_Parser_readCompared_104 d x1 x2 x3 x4 x5 x6 x7 r1 s1 Q) ∧ (r1 = ((Int8.ofInt 60).toInt32) → wc_Parser_readCompared_96 d x1 x2 x3 x4 x5 x6 x7 r1 s1 Q))))) ∧ (r1 = ((Int8.ofInt 37).toInt32) → wc_Parser_readCompared_57 d x1 x2 x3 x4 x5 x6 x7 r1 s1 Q)))))))))
set_option maxRecDepth 20000 in
theorem wc_Parser_readCompared_20_ok {d : Nat} {x1 : Int32} {x2 : Int32} {x3 : Int32} {x4 : Int32} {x5 : Int32} {x6 : Int32} {x7 : Int32} {s : cf_S} {Q : Int32 → cf_S → Prop} (h : wc_Parser_readCompared_20 d x1 x2 x3 x4 x5 x6 x7 s Q) : cf_R (d + 10) 213 (20, [(0, .ref 22), (1, .int x1), (2, .int x2), (3, .int x3), (4, .int x4), (5, .int x5), (6, .int x6), (7, .int x7)], [], s) (cf_qI Q) := by
  unfold wc_Parser_readCompared_20 at h
  refine cf_R_w rp_213 (rf_bk am_t213 14 3) 20 [(0, .ref 22), (1, .int x1), (2, .int x2), (3, .int x3), (4, .int x4), (5, .int x5), (6, .int x6), (7, .int x7)] [] s (by repeat (first | exact trivial | refine ⟨rfl, ?_⟩)) (by decide +kernel) ?_
  refine cf_R_if (b := am_cnd .ge x7 (Int32.ofNat 1000000)) (p := 179) (q := 27) (fun hb => ?_) (fun hb => ?_)
  · replace h := h.1 (of_decide_eq_true hb)
    exact cf_R_le (l := [(0, .ref 22), (2, .int x2), (3, .int x3), (4, .int x4), (5, .int x5), (6, .int x6)]) rfl rfl (⟨rfl, rfl, rfl, rfl, rfl, rfl, trivial⟩) (wc_Parser_readCompared_179_ok h)
  · replace h := h.2 (of_decide_eq_false hb)
    refine cf_R_w rp_213 (rf_bk am_t213 17 2) 27 [(0, .ref 22), (1, .int x1), (2, .int x2), (3, .int x3), (4, .int x4), (5, .int x5), (6, .int x6), (7, .int x7)] [] s (by repeat (first | exact trivial | refine ⟨rfl, ?_⟩)) (by decide +kernel) ?_
    refine cf_R_call (pc := 31) (q := ([.ref 23], [])) rp_213 rfl rfl (by decide) (by decide) rp_241 rfl (Nat.le_of_ble_eq_true rfl) ⟨rfl, Nat.le_of_ble_eq_true rfl⟩ h (fun v s1 h => ?_)
    obtain ⟨r1, rfl, h⟩ := h
    refine cf_R_w rp_213 (rf_bk am_t213 20 4) 34 [(0, .ref 22), (1, .int x1), (2, .int x2), (3, .int x3), (4, .int x4), (5, .int x5), (6, .int x6), (7, .int x7)] [.int r1] s1 (by repeat (first | exact trivial | refine ⟨rfl, ?_⟩)) (by decide +kernel) ?_
    refine cf_R_if (b := am_cnd .eq r1 ((Int8.ofInt 42).toInt32)) (p := 57) (q := 43) (fun hb => ?_) (fun hb => ?_)
    · replace h := h.1 (of_decide_eq_true hb)
      exact cf_R_le (l := [(0, .ref 22), (1, .int x1), (2, .int x2), (3, .int x3), (4, .int x4), (5, .int x5), (6, .int x6), (7, .int x7), (8, .int r1)]) rfl rfl (⟨rfl, rfl, rfl, rfl, rfl, rfl, rfl, rfl, rfl, trivial⟩) (wc_Parser_readCompared_57_ok h)
    · replace h := h.2 (of_decide_eq_false hb)
      refine cf_R_w rp_213 (rf_bk am_t213 24 3) 43 [(8, .int r1), (0, .ref 22), (1, .int x1), (2, .int x2), (3, .int x3), (4, .int x4), (5, .int x5), (6, .int x6), (7, .int x7)] [] s1 (by repeat (first | exact trivial | refine ⟨rfl, ?_⟩)) (by decide +kernel) ?_
      refine cf_R_if (b := am_cnd .eq r1 ((Int8.ofInt 47).toInt32)) (p := 57) (q := 50) (fun hb => ?_) (fun hb => ?_)
      · replace h := h.1 (of_decide_eq_true hb)
        exact cf_R_le (l := [(0, .ref 22), (1, .int x1), (2, .int x2), (3, .int x3), (4, .int x4), (5, .int x5), (6, .int x6), (7, .int x7), (8, .int r1)]) rfl rfl (⟨rfl, rfl, rfl, rfl, rfl, rfl, rfl, rfl, rfl, trivial⟩) (wc_Parser_readCompared_57_ok h)
      · replace h := h.2 (of_decide_eq_false hb)
        refine cf_R_w rp_213 (rf_bk am_t213 27 3) 50 [(8, .int r1), (0, .ref 22), (1, .int x1), (2, .int x2), (3, .int x3), (4, .int x4), (5, .int x5), (6, .int x6), (7, .int x7)] [] s1 (by repeat (first | exact trivial | refine ⟨rfl, ?_⟩)) (by decide +kernel) ?_
        refine cf_R_if (b := am_cnd .ne r1 ((Int8.ofInt 37).toInt32)) (p := 82) (q := 57) (fun hb => ?_) (fun hb => ?_)
        · replace h := h.1 (of_decide_eq_true hb)
          refine cf_R_w rp_213 (rf_bk am_t213 42 3) 82 [(8, .int r1), (0, .ref 22), (1, .int x1), (2, .int x2), (3, .int x3), (4, .int x4), (5, .int x5), (6, .int x6), (7, .int x7)] [] s1 (by repeat (first | exact trivial | refine ⟨rfl, ?_⟩)) (by decide +kernel) ?_
          refine cf_R_if (b := am_cnd .eq r1 ((Int8.ofInt 10).toInt32)) (p := 96) (q := 89) (fun hb => ?_) (fun hb => ?_)
          · replace h := h.1 (of_decide_eq_true hb)
            exact cf_R_le (l := [(0, .ref 22), (1, .int x1), (2, .int x2), (3, .int x3), (4, .int x4), (5, .int x5), (6, .int x6), (7, .int x7), (8, .int r1)]) rfl rfl (⟨rfl, rfl, rfl, rfl, rfl, rfl, rfl, rfl, rfl, trivial⟩) (wc_Parser_readCompared_96_ok h)
          · replace h := h.2 (of_decide_eq_false hb)
            refine cf_R_w rp_213 (rf_bk am_t213 45 3) 89 [(8, .int r1), (0, .ref 22), (1, .int x1), (2, .int x2), (3, .int x3), (4, .int x4), (5, .int x5), (6, .int x6), (7, .int x7)] [] s1 (by repeat (first | exact trivial | refine ⟨rfl, ?_⟩)) (by decide +kernel) ?_
            refine cf_R_if (b := am_cnd .ne r1 ((Int8.ofInt 60).toInt32)) (p := 104) (q := 96) (fun hb => ?_) (fun hb => ?_)
            · replace h := h.1 (of_decide_eq_true hb)
              exact cf_R_le (l := [(0, .ref 22), (1, .int x1), (2, .int x2), (3, .int x3), (4, .int x4), (5, .int x5), (6, .int x6), (7, .int x7), (8, .int r1)]) rfl rfl (⟨rfl, rfl, rfl, rfl, rfl, rfl, rfl, rfl, rfl, trivial⟩) (wc_Parser_readCompared_104_ok h)
            · replace h := h.2 (Decidable.not_not.mp (of_decide_eq_false hb))
              exact cf_R_le (l := [(0, .ref 22), (1, .int x1), (2, .int x2), (3, .int x3), (4, .int x4), (5, .int x5), (6, .int x6), (7, .int x7), (8, .int r1)]) rfl rfl (⟨rfl, rfl, rfl, rfl, rfl, rfl, rfl, rfl, rfl, trivial⟩) (wc_Parser_readCompared_96_ok h)
        · replace h := h.2 (Decidable.not_not.mp (of_decide_eq_false hb))
          exact cf_R_le (l := [(0, .ref 22), (1, .int x1), (2, .int x2), (3, .int x3), (4, .int x4), (5, .int x5), (6, .int x6), (7, .int x7), (8, .int r1)]) rfl rfl (⟨rfl, rfl, rfl, rfl, rfl, rfl, rfl, rfl, rfl, trivial⟩) (wc_Parser_readCompared_57_ok h)
/-- LazyHouse$Parser.readCompared (I)I, from 0 on -/
def wc_Parser_readCompared (d : Nat) (x1 : Int32) (s : cf_S) (Q : Int32 → cf_S → Prop) : Prop := cf_I (d + 9) 215 [(0, .ref 22), (1, .int x1)] s (fun r1 s1 => cf_R (d + 10) 213 (20, [(0, .ref 22), (1, .int x1), (2, .int (Int32.ofInt 0)), (3, .int (Int32.ofInt 0)), (4, .int (Int32.ofInt 0)), (5, .int (Int32.ofInt 0)), (6, .int r1), (7, .int (Int32.ofInt 0))], [], s1) (cf_qI Q))
set_option maxRecDepth 20000 in
theorem wc_Parser_readCompared_ok {d : Nat} {x1 : Int32} {s : cf_S} {Q : Int32 → cf_S → Prop} (h : wc_Parser_readCompared d x1 s Q) : cf_I (d + 10) 213 [(0, .ref 22), (1, .int x1)] s Q := by
  unfold wc_Parser_readCompared at h
  unfold cf_I
  refine cf_R_w rp_213 (rf_bk am_t213 0 10) 0 [(0, .ref 22), (1, .int x1)] [] s (by repeat (first | exact trivial | refine ⟨rfl, ?_⟩)) (by decide +kernel) ?_
  refine cf_R_call (pc := 12) (q := ([.ref 22, .int x1], [])) rp_213 rfl rfl (by decide) (by decide) rp_215 rfl (Nat.le_of_ble_eq_true rfl) ⟨rfl, Nat.le_of_ble_eq_true rfl⟩ h (fun v s1 h => ?_)
  obtain ⟨r1, rfl, h⟩ := h
  refine cf_R_w rp_213 (rf_bk am_t213 11 3) 15 [(5, .int (Int32.ofInt 0)), (4, .int (Int32.ofInt 0)), (3, .int (Int32.ofInt 0)), (2, .int (Int32.ofInt 0)), (0, .ref 22), (1, .int x1)] [.int r1] s1 (by repeat (first | exact trivial | refine ⟨rfl, ?_⟩)) (by decide +kernel) ?_
  exact cf_R_le (l := [(0, .ref 22), (1, .int x1), (2, .int (Int32.ofInt 0)), (3, .int (Int32.ofInt 0)), (4, .int (Int32.ofInt 0)), (5, .int (Int32.ofInt 0)), (6, .int r1), (7, .int (Int32.ofInt 0))]) rfl rfl (⟨rfl, rfl, rfl, rfl, rfl, rfl, rfl, rfl, trivial⟩) h
/-- LazyHouse$Parser.join (III)I, from 0 on -/
def wc_Parser_join (d : Nat) (x1 : Int32) (x2 : Int32) (x3 : Int32) (s : cf_S) (Q : Int32 → cf_S → Prop) : Prop := ((¬ x1 = 0 → cf_I (d + 9) 227 [(0, .ref 22), (1, .int ((Int8.ofInt 16).toInt32))] s (fun r1 s1 => cf_V (d + 9) 228 [(0, .ref 22), (1, .int r1), (2, .int x2)] (tb_set (tb_set (tb_set s1 18 r1 (Int32.ofInt 1) x1) 18 r1 (Int32.ofInt 2) x2) 18 r1 (Int32.ofInt 3) x3) (fun s2 => cf_I (d + 9) 229 [(0, .ref 22), (1, .int r1)] s2 (fun r3 s3 => Q r3 s3)))) ∧ (x1 = 0 → Q x3 s))
set_option maxRecDepth 20000 in
theorem wc_Parser_join_ok {d : Nat} {x1 : Int32} {x2 : Int32} {x3 : Int32} {s : cf_S} {Q : Int32 → cf_S → Prop} (h : wc_Parser_join d x1 x2 x3 s Q) : cf_I (d + 10) 214 [(0, .ref 22), (1, .int x1), (2, .int x2), (3, .int x3)] s Q := by
  unfold wc_Parser_join at h
  unfold cf_I
  refine cf_R_w rp_214 (rf_bk am_t214 0 2) 0 [(0, .ref 22), (1, .int x1), (2, .int x2), (3, .int x3)] [] s (by repeat (first | exact trivial | refine ⟨rfl, ?_⟩)) (by decide +kernel) ?_
  refine cf_R_if (b := am_cnd .ne x1 0) (p := 6) (q := 4) (fun hb => ?_) (fun hb => ?_)
  · replace h := h.1 (of_decide_eq_true hb)
    refine cf_R_w rp_214 (rf_bk am_t214 4 2) 6 [(0, .ref 22), (1, .int x1), (2, .int x2), (3, .int x3)] [] s (by repeat (first | exact trivial | refine ⟨rfl, ?_⟩)) (by decide +kernel) ?_
    refine cf_R_call (pc := 9) (q := ([.ref 22, .int ((Int8.ofInt 16).toInt32)], [])) rp_214 rfl rfl (by decide) (by decide) rp_227 rfl (Nat.le_of_ble_eq_true rfl) ⟨rfl, Nat.le_of_ble_eq_true rfl⟩ h (fun v s1 h => ?_)
    obtain ⟨r1, rfl, h⟩ := h
    refine cf_R_w rp_214 (rf_bk am_t214 7 6) 12 [(0, .ref 22), (1, .int x1), (2, .int x2), (3, .int x3)] [.int r1] s1 (by repeat (first | exact trivial | refine ⟨rfl, ?_⟩)) (by decide +kernel) ?_
    refine cf_R_prim (pc := 22) (q := ([.ref 18, .int r1, .int (Int32.ofInt 1), .int x1], [])) rp_214 rfl rfl (by decide) (by decide) rp_274 rfl (Nat.le_of_ble_eq_true rfl) ⟨rfl, Nat.le_of_ble_eq_true rfl⟩ (cq_set rfl) ?_
    refine cf_R_w rp_214 (rf_bk am_t214 14 5) 25 [(4, .int r1), (0, .ref 22), (1, .int x1), (2, .int x2), (3, .int x3)] [] (tb_set s1 18 r1 (Int32.ofInt 1) x1) (by repeat (first | exact trivial | refine ⟨rfl, ?_⟩)) (by decide +kernel) ?_
    refine cf_R_prim (pc := 33) (q := ([.ref 18, .int r1, .int (Int32.ofInt 2), .int x2], [])) rp_214 rfl rfl (by decide) (by decide) rp_274 rfl (Nat.le_of_ble_eq_true rfl) ⟨rfl, Nat.le_of_ble_eq_true rfl⟩ (cq_set rfl) ?_
    refine cf_R_w rp_214 (rf_bk am_t214 20 5) 36 [(4, .int r1), (0, .ref 22), (1, .int x1), (2, .int x2), (3, .int x3)] [] (tb_set (tb_set s1 18 r1 (Int32.ofInt 1) x1) 18 r1 (Int32.ofInt 2) x2) (by repeat (first | exact trivial | refine ⟨rfl, ?_⟩)) (by decide +kernel) ?_
    refine cf_R_prim (pc := 44) (q := ([.ref 18, .int r1, .int (Int32.ofInt 3), .int x3], [])) rp_214 rfl rfl (by decide) (by decide) rp_274 rfl (Nat.le_of_ble_eq_true rfl) ⟨rfl, Nat.le_of_ble_eq_true rfl⟩ (cq_set rfl) ?_
    refine cf_R_w rp_214 (rf_bk am_t214 26 3) 47 [(4, .int r1), (0, .ref 22), (1, .int x1), (2, .int x2), (3, .int x3)] [] (tb_set (tb_set (tb_set s1 18 r1 (Int32.ofInt 1) x1) 18 r1 (Int32.ofInt 2) x2) 18 r1 (Int32.ofInt 3) x3) (by repeat (first | exact trivial | refine ⟨rfl, ?_⟩)) (by decide +kernel) ?_
    refine cf_R_call (pc := 51) (q := ([.ref 22, .int r1, .int x2], [])) rp_214 rfl rfl (by decide) (by decide) rp_228 rfl (Nat.le_of_ble_eq_true rfl) ⟨rfl, Nat.le_of_ble_eq_true rfl⟩ h (fun v s2 h => ?_)
    obtain ⟨rfl, h⟩ := h
    refine cf_R_w rp_214 (rf_bk am_t214 30 2) 54 [(4, .int r1), (0, .ref 22), (1, .int x1), (2, .int x2), (3, .int x3)] [] s2 (by repeat (first | exact trivial | refine ⟨rfl, ?_⟩)) (by decide +kernel) ?_
    refine cf_R_call (pc := 57) (q := ([.ref 22, .int r1], [])) rp_214 rfl rfl (by decide) (by decide) rp_229 rfl (Nat.le_of_ble_eq_true rfl) ⟨rfl, Nat.le_of_ble_eq_true rfl⟩ h (fun v s3 h => ?_)
    obtain ⟨r3, rfl, h⟩ := h
    exact cf_R_ret (pc := 60) (v := some (.int r3)) rp_214 rfl rfl rfl ⟨_, rfl, h⟩
  · replace h := h.2 (Decidable.not_not.mp (of_decide_eq_false hb))
    refine cf_R_w rp_214 (rf_bk am_t214 2 1) 4 [(0, .ref 22), (1, .int x1), (2, .int x2), (3, .int x3)] [] s (by repeat (first | exact trivial | refine ⟨rfl, ?_⟩)) (by decide +kernel) ?_
    exact cf_R_ret (pc := 5) (v := some (.int x3)) rp_214 rfl rfl rfl ⟨_, rfl, h⟩
