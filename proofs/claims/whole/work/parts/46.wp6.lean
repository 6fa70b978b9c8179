/-! PART 46: the reference, decompiled: choose, giveLeft, giveRight, giveCall, tells, tellsNumber -/
/-- choose ()V, from 355 on -/
def wr_choose_355 (d : Nat) (x3 : Int64) (x7 : Int32) (x8 : Int32) (y0 : Int64) (y1 : Int32) (s : rf_S) (Q : rf_S → Prop) : Prop := (rf_in y1 1100 ∧ rf_R (d + 1) 78 (295, [(0, .ref rf_o), (3, .long x3), (7, .int x7), (8, .int (x8 + Int32.ofInt 1))], [], (rf_sL s 78 y1.toNatClampNeg y0)) (rf_qV Q))
set_option maxRecDepth 20000 in
theorem wr_choose_355_ok {d : Nat} {x3 : Int64} {x7 : Int32} {x8 : Int32} {y0 : Int64} {y1 : Int32} {s : rf_S} {Q : rf_S → Prop} (h : wr_choose_355 d x3 x7 x8 y0 y1 s Q) : rf_R (d + 1) 78 (355, [(0, .ref rf_o), (3, .long x3), (7, .int x7), (8, .int x8)], [.long y0, .int y1, .ref (rf_ad 78)], s) (rf_qV Q) := by
  unfold wr_choose_355 at h
  refine rf_R_wv rp_78 (rf_bk am_t78 205 1) 355 [(0, .ref rf_o), (3, .long x3), (7, .int x7), (8, .int x8)] [.long y0, .int y1, .ref (rf_ad 78)] s (by repeat (first | exact trivial | refine ⟨rfl, ?_⟩)) (by decide +kernel) ?_
  refine And.intro h.1 ?_
  replace h := h.2
  refine rf_R_wv rp_78 (rf_bk am_t78 206 2) 356 [(0, .ref rf_o), (3, .long x3), (7, .int x7), (8, .int x8)] [] (rf_sL s 78 y1.toNatClampNeg y0) (by repeat (first | exact trivial | refine ⟨rfl, ?_⟩)) (by decide +kernel) ?_
  exact rf_R_le (l := [(0, .ref rf_o), (3, .long x3), (7, .int x7), (8, .int (x8 + Int32.ofInt 1))]) rfl rfl (⟨rfl, rfl, rfl, rfl, trivial⟩) h
/-- choose ()V, from 295 on -/
def wr_choose_295 (d : Nat) (x3 : Int64) (x7 : Int32) (x8 : Int32) (s : rf_S) (Q : rf_S → Prop) : Prop := (rf_in (x7 + (Int32.ofInt 2)) 9000 ∧ (((s.2.2.1 17 (x7 + (Int32.ofInt 2)).toNatClampNeg) ≤ x8 → (rf_in (x7 + (Int32.ofInt 4)) 9000 ∧ rf_V d 69 [(0, .ref rf_o), (1, .int (s.2.2.1 17 (x7 + (Int32.ofInt 4)).toNatClampNeg))] s (fun s1 => Q s1))) ∧ (¬ ((s.2.2.1 17 (x7 + (Int32.ofInt 2)).toNatClampNeg) ≤ x8) → (rf_in (x7 + (Int32.ofInt 3)) 9000 ∧ rf_in x7 9000 ∧ ((¬ (s.2.2.1 17 x7.toNatClampNeg) = (Int32.ofInt 2) → (rf_in (x3.toInt32) 36001 ∧ rf_in ((s.2.2.1 51 (x3.toInt32).toNatClampNeg) + x8) 47000 ∧ wr_choose_355 d x3 x7 x8 (s.2.2.2 58 ((s.2.2.1 51 (x3.toInt32).toNatClampNeg) + x8).toNatClampNeg) ((s.2.2.1 17 (x7 + (Int32.ofInt 3)).toNatClampNeg) + x8) s Q)) ∧ ((s.2.2.1 17 x7.toNatClampNeg) = (Int32.ofInt 2) → wr_choose_355 d x3 x7 x8 x3 ((s.2.2.1 17 (x7 + (Int32.ofInt 3)).toNatClampNeg) + x8) s Q))))))
set_option maxRecDepth 20000 in
theorem wr_choose_295_ok {d : Nat} {x3 : Int64} {x7 : Int32} {x8 : Int32} {s : rf_S} {Q : rf_S → Prop} (h : wr_choose_295 d x3 x7 x8 s Q) : rf_R (d + 1) 78 (295, [(0, .ref rf_o), (3, .long x3), (7, .int x7), (8, .int x8)], [], s) (rf_qV Q) := by
  unfold wr_choose_295 at h
  refine rf_R_wv rp_78 (rf_bk am_t78 169 8) 295 [(0, .ref rf_o), (3, .long x3), (7, .int x7), (8, .int x8)] [] s (by repeat (first | exact trivial | refine ⟨rfl, ?_⟩)) (by decide +kernel) ?_
  refine And.intro h.1 ?_
  replace h := h.2
  refine rf_R_if (b := am_cnd .ge x8 (s.2.2.1 17 (x7 + (Int32.ofInt 2)).toNatClampNeg)) (p := 362) (q := 309) (fun hb => ?_) (fun hb => ?_)
  · replace h := h.1 (of_decide_eq_true hb)
    refine rf_R_wv rp_78 (rf_bk am_t78 208 7) 362 [(0, .ref rf_o), (3, .long x3), (7, .int x7), (8, .int x8)] [] s (by repeat (first | exact trivial | refine ⟨rfl, ?_⟩)) (by decide +kernel) ?_
    refine And.intro h.1 ?_
    replace h := h.2
    refine rf_R_call (pc := 372) (q := ([.ref rf_o, .int (s.2.2.1 17 (x7 + (Int32.ofInt 4)).toNatClampNeg)], [])) rp_78 rfl rfl (by decide) rp_69 rfl (Nat.le_of_ble_eq_true rfl) ⟨rfl, Nat.le_of_ble_eq_true rfl⟩ h (fun v s1 h => ?_)
    obtain ⟨rfl, h⟩ := h
    exact rf_R_ret (pc := 375) rp_78 rfl rfl rfl ⟨rfl, h⟩
  · replace h := h.2 (of_decide_eq_false hb)
    refine rf_R_wv rp_78 (rf_bk am_t78 177 14) 309 [(0, .ref rf_o), (3, .long x3), (7, .int x7), (8, .int x8)] [] s (by repeat (first | exact trivial | refine ⟨rfl, ?_⟩)) (by decide +kernel) ?_
    refine And.intro h.1 ?_
    replace h := h.2
    refine And.intro h.1 ?_
    replace h := h.2
    refine rf_R_wv rp_78 (rf_bk am_t78 191 2) 332 [(0, .ref rf_o), (3, .long x3), (7, .int x7), (8, .int x8)] [.int (s.2.2.1 17 x7.toNatClampNeg), .int ((s.2.2.1 17 (x7 + (Int32.ofInt 3)).toNatClampNeg) + x8), .ref (rf_ad 78)] s (by repeat (first | exact trivial | refine ⟨rfl, ?_⟩)) (by decide +kernel) ?_
    refine rf_R_if (b := am_cnd .ne (s.2.2.1 17 x7.toNatClampNeg) (Int32.ofInt 2)) (p := 340) (q := 336) (fun hb => ?_) (fun hb => ?_)
    · replace h := h.1 (of_decide_eq_true hb)
      refine rf_R_wv rp_78 (rf_bk am_t78 195 10) 340 [(0, .ref rf_o), (3, .long x3), (7, .int x7), (8, .int x8)] [.int ((s.2.2.1 17 (x7 + (Int32.ofInt 3)).toNatClampNeg) + x8), .ref (rf_ad 78)] s (by repeat (first | exact trivial | refine ⟨rfl, ?_⟩)) (by decide +kernel) ?_
      refine And.intro h.1 ?_
      replace h := h.2
      refine And.intro h.1 ?_
      replace h := h.2
      exact rf_R_le (l := [(0, .ref rf_o), (3, .long x3), (7, .int x7), (8, .int x8)]) rfl rfl (⟨rfl, rfl, rfl, rfl, trivial⟩) (wr_choose_355_ok h)
    · replace h := h.2 (Decidable.not_not.mp (of_decide_eq_false hb))
      refine rf_R_wv rp_78 (rf_bk am_t78 193 2) 336 [(0, .ref rf_o), (3, .long x3), (7, .int x7), (8, .int x8)] [.int ((s.2.2.1 17 (x7 + (Int32.ofInt 3)).toNatClampNeg) + x8), .ref (rf_ad 78)] s (by repeat (first | exact trivial | refine ⟨rfl, ?_⟩)) (by decide +kernel) ?_
      exact rf_R_le (l := [(0, .ref rf_o), (3, .long x3), (7, .int x7), (8, .int x8)]) rfl rfl (⟨rfl, rfl, rfl, rfl, trivial⟩) (wr_choose_355_ok h)
/-- choose ()V, from 225 on -/
def wr_choose_225 (d : Nat) (x1 : Int32) (x2 : Int32) (x3 : Int64) (x7 : Int32) (x8 : Int32) (s : rf_S) (Q : rf_S → Prop) : Prop := (rf_in (x2 + (Int32.ofInt 1)) 2101 ∧ (((s.2.2.1 20 (x2 + (Int32.ofInt 1)).toNatClampNeg) ≤ x8 → rf_V d 57 [(0, .ref rf_o)] s (fun s1 => ((0 ≤ x7 → rf_R (d + 1) 78 (295, [(0, .ref rf_o), (3, .long x3), (7, .int x7), (8, .int (Int32.ofInt 0))], [], s1) (rf_qV Q)) ∧ (¬ (0 ≤ x7) → rf_V d 58 [(0, .ref rf_o), (1, .int (Int32.ofInt 3))] s1 (fun s2 => Q s2))))) ∧ (¬ ((s.2.2.1 20 (x2 + (Int32.ofInt 1)).toNatClampNeg) ≤ x8) → (rf_in x8 131072 ∧ rf_in x1 1601 ∧ (rf_in x2 2101 ∧ rf_in (((s.2.2.1 70 x1.toNatClampNeg) + x8) - (s.2.2.1 20 x2.toNatClampNeg)) 6000 ∧ rf_in (s.2.2.1 21 x8.toNatClampNeg) 1100 ∧ rf_R (d + 1) 78 (225, [(0, .ref rf_o), (1, .int x1), (2, .int x2), (3, .long x3), (7, .int x7), (8, .int (x8 + Int32.ofInt 1))], [], (rf_sL s 78 (s.2.2.1 21 x8.toNatClampNeg).toNatClampNeg (s.2.2.2 71 (((s.2.2.1 70 x1.toNatClampNeg) + x8) - (s.2.2.1 20 x2.toNatClampNeg)).toNatClampNeg))) (rf_qV Q))))))
set_option maxRecDepth 20000 in
theorem wr_choose_225_ok {d : Nat} {x1 : Int32} {x2 : Int32} {x3 : Int64} {x7 : Int32} {x8 : Int32} {s : rf_S} {Q : rf_S → Prop} (h : wr_choose_225 d x1 x2 x3 x7 x8 s Q) : rf_R (d + 1) 78 (225, [(0, .ref rf_o), (1, .int x1), (2, .int x2), (3, .long x3), (7, .int x7), (8, .int x8)], [], s) (rf_qV Q) := by
  unfold wr_choose_225 at h
  refine rf_R_wv rp_78 (rf_bk am_t78 128 8) 225 [(0, .ref rf_o), (1, .int x1), (2, .int x2), (3, .long x3), (7, .int x7), (8, .int x8)] [] s (by repeat (first | exact trivial | refine ⟨rfl, ?_⟩)) (by decide +kernel) ?_
  refine And.intro h.1 ?_
  replace h := h.2
  refine rf_R_if (b := am_cnd .ge x8 (s.2.2.1 20 (x2 + (Int32.ofInt 1)).toNatClampNeg)) (p := 277) (q := 238) (fun hb => ?_) (fun hb => ?_)
  · replace h := h.1 (of_decide_eq_true hb)
    refine rf_R_wv rp_78 (rf_bk am_t78 159 1) 277 [(0, .ref rf_o), (1, .int x1), (2, .int x2), (3, .long x3), (7, .int x7), (8, .int x8)] [] s (by repeat (first | exact trivial | refine ⟨rfl, ?_⟩)) (by decide +kernel) ?_
    refine rf_R_call (pc := 278) (q := ([.ref rf_o], [])) rp_78 rfl rfl (by decide) rp_57 rfl (Nat.le_of_ble_eq_true rfl) ⟨rfl, Nat.le_of_ble_eq_true rfl⟩ h (fun v s1 h => ?_)
    obtain ⟨rfl, h⟩ := h
    refine rf_R_wv rp_78 (rf_bk am_t78 161 2) 281 [(0, .ref rf_o), (1, .int x1), (2, .int x2), (3, .long x3), (7, .int x7), (8, .int x8)] [] s1 (by repeat (first | exact trivial | refine ⟨rfl, ?_⟩)) (by decide +kernel) ?_
    refine rf_R_if (b := am_cnd .ge x7 0) (p := 292) (q := 286) (fun hb => ?_) (fun hb => ?_)
    · replace h := h.1 (of_decide_eq_true hb)
      refine rf_R_wv rp_78 (rf_bk am_t78 167 2) 292 [(0, .ref rf_o), (1, .int x1), (2, .int x2), (3, .long x3), (7, .int x7), (8, .int x8)] [] s1 (by repeat (first | exact trivial | refine ⟨rfl, ?_⟩)) (by decide +kernel) ?_
      exact rf_R_le (l := [(0, .ref rf_o), (3, .long x3), (7, .int x7), (8, .int (Int32.ofInt 0))]) rfl rfl (⟨rfl, rfl, rfl, rfl, trivial⟩) h
    · replace h := h.2 (of_decide_eq_false hb)
      refine rf_R_wv rp_78 (rf_bk am_t78 163 2) 286 [(0, .ref rf_o), (1, .int x1), (2, .int x2), (3, .long x3), (7, .int x7), (8, .int x8)] [] s1 (by repeat (first | exact trivial | refine ⟨rfl, ?_⟩)) (by decide +kernel) ?_
      refine rf_R_call (pc := 288) (q := ([.ref rf_o, .int (Int32.ofInt 3)], [])) rp_78 rfl rfl (by decide) rp_58 rfl (Nat.le_of_ble_eq_true rfl) ⟨rfl, Nat.le_of_ble_eq_true rfl⟩ h (fun v s2 h => ?_)
      obtain ⟨rfl, h⟩ := h
      exact rf_R_ret (pc := 291) rp_78 rfl rfl rfl ⟨rfl, h⟩
  · replace h := h.2 (of_decide_eq_false hb)
    refine rf_R_wv rp_78 (rf_bk am_t78 136 14) 238 [(0, .ref rf_o), (1, .int x1), (2, .int x2), (3, .long x3), (7, .int x7), (8, .int x8)] [] s (by repeat (first | exact trivial | refine ⟨rfl, ?_⟩)) (by decide +kernel) ?_
    refine And.intro h.1 ?_
    replace h := h.2
    refine And.intro h.1 ?_
    replace h := h.2
    refine rf_R_wv rp_78 (rf_bk am_t78 150 7) 262 [(0, .ref rf_o), (1, .int x1), (2, .int x2), (3, .long x3), (7, .int x7), (8, .int x8)] [.int ((s.2.2.1 70 x1.toNatClampNeg) + x8), .ref (rf_ad 71), .int (s.2.2.1 21 x8.toNatClampNeg), .ref (rf_ad 78)] s (by repeat (first | exact trivial | refine ⟨rfl, ?_⟩)) (by decide +kernel) ?_
    refine And.intro h.1 ?_
    replace h := h.2
    refine And.intro h.1 ?_
    replace h := h.2
    refine And.intro h.1 ?_
    replace h := h.2
    refine rf_R_wv rp_78 (rf_bk am_t78 157 2) 271 [(0, .ref rf_o), (1, .int x1), (2, .int x2), (3, .long x3), (7, .int x7), (8, .int x8)] [] (rf_sL s 78 (s.2.2.1 21 x8.toNatClampNeg).toNatClampNeg (s.2.2.2 71 (((s.2.2.1 70 x1.toNatClampNeg) + x8) - (s.2.2.1 20 x2.toNatClampNeg)).toNatClampNeg)) (by repeat (first | exact trivial | refine ⟨rfl, ?_⟩)) (by decide +kernel) ?_
    exact rf_R_le (l := [(0, .ref rf_o), (1, .int x1), (2, .int x2), (3, .long x3), (7, .int x7), (8, .int (x8 + Int32.ofInt 1))]) rfl rfl (⟨rfl, rfl, rfl, rfl, rfl, rfl, trivial⟩) h
/-- choose ()V, from 217 on -/
def wr_choose_217 (d : Nat) (x1 : Int32) (x2 : Int32) (x3 : Int64) (x7 : Int32) (s : rf_S) (Q : rf_S → Prop) : Prop := (rf_in x2 2101 ∧ rf_R (d + 1) 78 (225, [(0, .ref rf_o), (1, .int x1), (2, .int x2), (3, .long x3), (7, .int x7), (8, .int (s.2.2.1 20 x2.toNatClampNeg))], [], s) (rf_qV Q))
set_option maxRecDepth 20000 in
theorem wr_choose_217_ok {d : Nat} {x1 : Int32} {x2 : Int32} {x3 : Int64} {x7 : Int32} {s : rf_S} {Q : rf_S → Prop} (h : wr_choose_217 d x1 x2 x3 x7 s Q) : rf_R (d + 1) 78 (217, [(0, .ref rf_o), (1, .int x1), (2, .int x2), (3, .long x3), (7, .int x7)], [], s) (rf_qV Q) := by
  unfold wr_choose_217 at h
  refine rf_R_wv rp_78 (rf_bk am_t78 123 5) 217 [(0, .ref rf_o), (1, .int x1), (2, .int x2), (3, .long x3), (7, .int x7)] [] s (by repeat (first | exact trivial | refine ⟨rfl, ?_⟩)) (by decide +kernel) ?_
  refine And.intro h.1 ?_
  replace h := h.2
  exact rf_R_le (l := [(0, .ref rf_o), (1, .int x1), (2, .int x2), (3, .long x3), (7, .int x7), (8, .int (s.2.2.1 20 x2.toNatClampNeg))]) rfl rfl (⟨rfl, rfl, rfl, rfl, rfl, rfl, trivial⟩) h
/-- choose ()V, from 209 on -/
def wr_choose_209 (d : Nat) (x1 : Int32) (x2 : Int32) (x3 : Int64) (x5 : Int32) (x6 : Int32) (x8 : Int32) (y0 : Int32) (s : rf_S) (Q : rf_S → Prop) : Prop := rf_R (d + 1) 78 (80, [(0, .ref rf_o), (1, .int x1), (2, .int x2), (3, .long x3), (5, .int x5), (6, .int x6), (7, .int y0), (8, .int (x8 + Int32.ofInt 1))], [], s) (rf_qV Q)
set_option maxRecDepth 20000 in
theorem wr_choose_209_ok {d : Nat} {x1 : Int32} {x2 : Int32} {x3 : Int64} {x5 : Int32} {x6 : Int32} {x8 : Int32} {y0 : Int32} {s : rf_S} {Q : rf_S → Prop} (h : wr_choose_209 d x1 x2 x3 x5 x6 x8 y0 s Q) : rf_R (d + 1) 78 (209, [(0, .ref rf_o), (1, .int x1), (2, .int x2), (3, .long x3), (5, .int x5), (6, .int x6), (8, .int x8)], [.int y0], s) (rf_qV Q) := by
  unfold wr_choose_209 at h
  refine rf_R_wv rp_78 (rf_bk am_t78 120 3) 209 [(0, .ref rf_o), (1, .int x1), (2, .int x2), (3, .long x3), (5, .int x5), (6, .int x6), (8, .int x8)] [.int y0] s (by repeat (first | exact trivial | refine ⟨rfl, ?_⟩)) (by decide +kernel) ?_
  exact rf_R_le (l := [(0, .ref rf_o), (1, .int x1), (2, .int x2), (3, .long x3), (5, .int x5), (6, .int x6), (7, .int y0), (8, .int (x8 + Int32.ofInt 1))]) rfl rfl (⟨rfl, rfl, rfl, rfl, rfl, rfl, rfl, rfl, trivial⟩) h
/-- choose ()V, from 196 on -/
def wr_choose_196 (d : Nat) (x1 : Int32) (x2 : Int32) (x3 : Int64) (x5 : Int32) (x6 : Int32) (x8 : Int32) (x9 : Int32) (y0 : Int32) (s : rf_S) (Q : rf_S → Prop) : Prop := ((y0 = 0 → wr_choose_209 d x1 x2 x3 x5 x6 x8 (Int32.ofInt (-1)) s Q) ∧ (¬ (y0 = 0) → wr_choose_209 d x1 x2 x3 x5 x6 x8 x9 s Q))
set_option maxRecDepth 20000 in
theorem wr_choose_196_ok {d : Nat} {x1 : Int32} {x2 : Int32} {x3 : Int64} {x5 : Int32} {x6 : Int32} {x8 : Int32} {x9 : Int32} {y0 : Int32} {s : rf_S} {Q : rf_S → Prop} (h : wr_choose_196 d x1 x2 x3 x5 x6 x8 x9 y0 s Q) : rf_R (d + 1) 78 (196, [(0, .ref rf_o), (1, .int x1), (2, .int x2), (3, .long x3), (5, .int x5), (6, .int x6), (8, .int x8), (9, .int x9)], [.int y0], s) (rf_qV Q) := by
  unfold wr_choose_196 at h
  refine rf_R_wv rp_78 (rf_bk am_t78 114 3) 196 [(0, .ref rf_o), (1, .int x1), (2, .int x2), (3, .long x3), (5, .int x5), (6, .int x6), (8, .int x8), (9, .int x9)] [.int y0] s (by repeat (first | exact trivial | refine ⟨rfl, ?_⟩)) (by decide +kernel) ?_
  refine rf_R_if (b := am_cnd .eq y0 0) (p := 208) (q := 203) (fun hb => ?_) (fun hb => ?_)
  · replace h := h.1 (of_decide_eq_true hb)
    refine rf_R_wv rp_78 (rf_bk am_t78 119 1) 208 [(10, .int y0), (0, .ref rf_o), (1, .int x1), (2, .int x2), (3, .long x3), (5, .int x5), (6, .int x6), (8, .int x8), (9, .int x9)] [] s (by repeat (first | exact trivial | refine ⟨rfl, ?_⟩)) (by decide +kernel) ?_
    exact rf_R_le (l := [(0, .ref rf_o), (1, .int x1), (2, .int x2), (3, .long x3), (5, .int x5), (6, .int x6), (8, .int x8)]) rfl rfl (⟨rfl, rfl, rfl, rfl, rfl, rfl, rfl, trivial⟩) (wr_choose_209_ok h)
  · replace h := h.2 (of_decide_eq_false hb)
    refine rf_R_wv rp_78 (rf_bk am_t78 117 2) 203 [(10, .int y0), (0, .ref rf_o), (1, .int x1), (2, .int x2), (3, .long x3), (5, .int x5), (6, .int x6), (8, .int x8), (9, .int x9)] [] s (by repeat (first | exact trivial | refine ⟨rfl, ?_⟩)) (by decide +kernel) ?_
    exact rf_R_le (l := [(0, .ref rf_o), (1, .int x1), (2, .int x2), (3, .long x3), (5, .int x5), (6, .int x6), (8, .int x8)]) rfl rfl (⟨rfl, rfl, rfl, rfl, rfl, rfl, rfl, trivial⟩) (wr_choose_209_ok h)
/-- choose ()V, from 195 on -/
def wr_choose_195 (d : Nat) (x1 : Int32) (x2 : Int32) (x3 : Int64) (x5 : Int32) (x6 : Int32) (x8 : Int32) (x9 : Int32) (s : rf_S) (Q : rf_S → Prop) : Prop := wr_choose_196 d x1 x2 x3 x5 x6 x8 x9 (Int32.ofInt 0) s Q
set_option maxRecDepth 20000 in
theorem wr_choose_195_ok {d : Nat} {x1 : Int32} {x2 : Int32} {x3 : Int64} {x5 : Int32} {x6 : Int32} {x8 : Int32} {x9 : Int32} {s : rf_S} {Q : rf_S → Prop} (h : wr_choose_195 d x1 x2 x3 x5 x6 x8 x9 s Q) : rf_R (d + 1) 78 (195, [(0, .ref rf_o), (1, .int x1), (2, .int x2), (3, .long x3), (5, .int x5), (6, .int x6), (8, .int x8), (9, .int x9)], [], s) (rf_qV Q) := by
  unfold wr_choose_195 at h
  refine rf_R_wv rp_78 (rf_bk am_t78 113 1) 195 [(0, .ref rf_o), (1, .int x1), (2, .int x2), (3, .long x3), (5, .int x5), (6, .int x6), (8, .int x8), (9, .int x9)] [] s (by repeat (first | exact trivial | refine ⟨rfl, ?_⟩)) (by decide +kernel) ?_
  exact rf_R_le (l := [(0, .ref rf_o), (1, .int x1), (2, .int x2), (3, .long x3), (5, .int x5), (6, .int x6), (8, .int x8), (9, .int x9)]) rfl rfl (⟨rfl, rfl, rfl, rfl, rfl, rfl, rfl, rfl, trivial⟩) (wr_choose_196_ok h)
/-- choose ()V, from 191 on -/
def wr_choose_191 (d : Nat) (x1 : Int32) (x2 : Int32) (x3 : Int64) (x5 : Int32) (x6 : Int32) (x8 : Int32) (x9 : Int32) (s : rf_S) (Q : rf_S → Prop) : Prop := wr_choose_196 d x1 x2 x3 x5 x6 x8 x9 (Int32.ofInt 1) s Q
set_option maxRecDepth 20000 in
theorem wr_choose_191_ok {d : Nat} {x1 : Int32} {x2 : Int32} {x3 : Int64} {x5 : Int32} {x6 : Int32} {x8 : Int32} {x9 : Int32} {s : rf_S} {Q : rf_S → Prop} (h : wr_choose_191 d x1 x2 x3 x5 x6 x8 x9 s Q) : rf_R (d + 1) 78 (191, [(0, .ref rf_o), (1, .int x1), (2, .int x2), (3, .long x3), (5, .int x5), (6, .int x6), (8, .int x8), (9, .int x9)], [], s) (rf_qV Q) := by
  unfold wr_choose_191 at h
  refine rf_R_wv rp_78 (rf_bk am_t78 111 2) 191 [(0, .ref rf_o), (1, .int x1), (2, .int x2), (3, .long x3), (5, .int x5), (6, .int x6), (8, .int x8), (9, .int x9)] [] s (by repeat (first | exact trivial | refine ⟨rfl, ?_⟩)) (by decide +kernel) ?_
  exact rf_R_le (l := [(0, .ref rf_o), (1, .int x1), (2, .int x2), (3, .long x3), (5, .int x5), (6, .int x6), (8, .int x8), (9, .int x9)]) rfl rfl (⟨rfl, rfl, rfl, rfl, rfl, rfl, rfl, rfl, trivial⟩) (wr_choose_196_ok h)
/-- choose ()V, from 152 on -/
def wr_choose_152 (d : Nat) (x1 : Int32) (x2 : Int32) (x3 : Int64) (x5 : Int32) (x6 : Int32) (x8 : Int32) (x9 : Int32) (s : rf_S) (Q : rf_S → Prop) : Prop := (rf_in x9 9000 ∧ ((¬ (s.2.2.1 17 x9.toNatClampNeg) = (Int32.ofInt 3) → wr_choose_195 d x1 x2 x3 x5 x6 x8 x9 s Q) ∧ ((s.2.2.1 17 x9.toNatClampNeg) = (Int32.ofInt 3) → (rf_in (x9 + (Int32.ofInt 1)) 9000 ∧ ((¬ (s.2.2.1 17 (x9 + (Int32.ofInt 1)).toNatClampNeg) = x6 → wr_choose_195 d x1 x2 x3 x5 x6 x8 x9 s Q) ∧ ((s.2.2.1 17 (x9 + (Int32.ofInt 1)).toNatClampNeg) = x6 → (rf_in (x9 + (Int32.ofInt 2)) 9000 ∧ ((¬ (s.2.2.1 17 (x9 + (Int32.ofInt 2)).toNatClampNeg) = x5 → wr_choose_195 d x1 x2 x3 x5 x6 x8 x9 s Q) ∧ ((s.2.2.1 17 (x9 + (Int32.ofInt 2)).toNatClampNeg) = x5 → wr_choose_191 d x1 x2 x3 x5 x6 x8 x9 s Q)))))))))
set_option maxRecDepth 20000 in
theorem wr_choose_152_ok {d : Nat} {x1 : Int32} {x2 : Int32} {x3 : Int64} {x5 : Int32} {x6 : Int32} {x8 : Int32} {x9 : Int32} {s : rf_S} {Q : rf_S → Prop} (h : wr_choose_152 d x1 x2 x3 x5 x6 x8 x9 s Q) : rf_R (d + 1) 78 (152, [(0, .ref rf_o), (1, .int x1), (2, .int x2), (3, .long x3), (5, .int x5), (6, .int x6), (8, .int x8), (9, .int x9)], [], s) (rf_qV Q) := by
  unfold wr_choose_152 at h
  refine rf_R_wv rp_78 (rf_bk am_t78 89 6) 152 [(0, .ref rf_o), (1, .int x1), (2, .int x2), (3, .long x3), (5, .int x5), (6, .int x6), (8, .int x8), (9, .int x9)] [] s (by repeat (first | exact trivial | refine ⟨rfl, ?_⟩)) (by decide +kernel) ?_
  refine And.intro h.1 ?_
  replace h := h.2
  refine rf_R_if (b := am_cnd .ne (s.2.2.1 17 x9.toNatClampNeg) (Int32.ofInt 3)) (p := 195) (q := 163) (fun hb => ?_) (fun hb => ?_)
  · replace h := h.1 (of_decide_eq_true hb)
    exact rf_R_le (l := [(0, .ref rf_o), (1, .int x1), (2, .int x2), (3, .long x3), (5, .int x5), (6, .int x6), (8, .int x8), (9, .int x9)]) rfl rfl (⟨rfl, rfl, rfl, rfl, rfl, rfl, rfl, rfl, trivial⟩) (wr_choose_195_ok h)
  · replace h := h.2 (Decidable.not_not.mp (of_decide_eq_false hb))
    refine rf_R_wv rp_78 (rf_bk am_t78 95 8) 163 [(0, .ref rf_o), (1, .int x1), (2, .int x2), (3, .long x3), (5, .int x5), (6, .int x6), (8, .int x8), (9, .int x9)] [] s (by repeat (first | exact trivial | refine ⟨rfl, ?_⟩)) (by decide +kernel) ?_
    refine And.intro h.1 ?_
    replace h := h.2
    refine rf_R_if (b := am_cnd .ne (s.2.2.1 17 (x9 + (Int32.ofInt 1)).toNatClampNeg) x6) (p := 195) (q := 177) (fun hb => ?_) (fun hb => ?_)
    · replace h := h.1 (of_decide_eq_true hb)
      exact rf_R_le (l := [(0, .ref rf_o), (1, .int x1), (2, .int x2), (3, .long x3), (5, .int x5), (6, .int x6), (8, .int x8), (9, .int x9)]) rfl rfl (⟨rfl, rfl, rfl, rfl, rfl, rfl, rfl, rfl, trivial⟩) (wr_choose_195_ok h)
    · replace h := h.2 (Decidable.not_not.mp (of_decide_eq_false hb))
      refine rf_R_wv rp_78 (rf_bk am_t78 103 8) 177 [(0, .ref rf_o), (1, .int x1), (2, .int x2), (3, .long x3), (5, .int x5), (6, .int x6), (8, .int x8), (9, .int x9)] [] s (by repeat (first | exact trivial | refine ⟨rfl, ?_⟩)) (by decide +kernel) ?_
      refine And.intro h.1 ?_
      replace h := h.2
      refine rf_R_if (b := am_cnd .ne (s.2.2.1 17 (x9 + (Int32.ofInt 2)).toNatClampNeg) x5) (p := 195) (q := 191) (fun hb => ?_) (fun hb => ?_)
      · replace h := h.1 (of_decide_eq_true hb)
        exact rf_R_le (l := [(0, .ref rf_o), (1, .int x1), (2, .int x2), (3, .long x3), (5, .int x5), (6, .int x6), (8, .int x8), (9, .int x9)]) rfl rfl (⟨rfl, rfl, rfl, rfl, rfl, rfl, rfl, rfl, trivial⟩) (wr_choose_195_ok h)
      · replace h := h.2 (Decidable.not_not.mp (of_decide_eq_false hb))
        exact rf_R_le (l := [(0, .ref rf_o), (1, .int x1), (2, .int x2), (3, .long x3), (5, .int x5), (6, .int x6), (8, .int x8), (9, .int x9)]) rfl rfl (⟨rfl, rfl, rfl, rfl, rfl, rfl, rfl, rfl, trivial⟩) (wr_choose_191_ok h)
/-- choose ()V, from 80 on -/
def wr_choose_80 (d : Nat) (x1 : Int32) (x2 : Int32) (x3 : Int64) (x5 : Int32) (x6 : Int32) (x7 : Int32) (x8 : Int32) (s : rf_S) (Q : rf_S → Prop) : Prop := (rf_in x2 2100 ∧ (((s.2.2.1 14 x2.toNatClampNeg) ≤ x8 → wr_choose_217 d x1 x2 x3 x7 s Q) ∧ (¬ ((s.2.2.1 14 x2.toNatClampNeg) ≤ x8) → ((0 ≤ x7 → wr_choose_217 d x1 x2 x3 x7 s Q) ∧ (¬ (0 ≤ x7) → (rf_in x2 2100 ∧ rf_in ((s.2.2.1 13 x2.toNatClampNeg) + ((Int32.ofInt 5) * x8)) 9000 ∧ (((s.2.2.1 17 ((s.2.2.1 13 x2.toNatClampNeg) + ((Int32.ofInt 5) * x8)).toNatClampNeg) = (Int32.ofInt 2) → wr_choose_191 d x1 x2 x3 x5 x6 x8 ((s.2.2.1 13 x2.toNatClampNeg) + ((Int32.ofInt 5) * x8)) s Q) ∧ (¬ ((s.2.2.1 17 ((s.2.2.1 13 x2.toNatClampNeg) + ((Int32.ofInt 5) * x8)).toNatClampNeg) = (Int32.ofInt 2)) → (rf_in ((s.2.2.1 13 x2.toNatClampNeg) + ((Int32.ofInt 5) * x8)) 9000 ∧ ((¬ (s.2.2.1 17 ((s.2.2.1 13 x2.toNatClampNeg) + ((Int32.ofInt 5) * x8)).toNatClampNeg) = (Int32.ofInt 4) → wr_choose_152 d x1 x2 x3 x5 x6 x8 ((s.2.2.1 13 x2.toNatClampNeg) + ((Int32.ofInt 5) * x8)) s Q) ∧ ((s.2.2.1 17 ((s.2.2.1 13 x2.toNatClampNeg) + ((Int32.ofInt 5) * x8)).toNatClampNeg) = (Int32.ofInt 4) → rf_I d 45 [(0, .long x3)] s (fun r1 s1 => ((¬ r1 = 0 → wr_choose_152 d x1 x2 x3 x5 x6 x8 ((s.2.2.1 13 x2.toNatClampNeg) + ((Int32.ofInt 5) * x8)) s1 Q) ∧ (r1 = 0 → (rf_in (((s.2.2.1 13 x2.toNatClampNeg) + ((Int32.ofInt 5) * x8)) + (Int32.ofInt 1)) 9000 ∧ (((s1.2.2.1 17 (((s.2.2.1 13 x2.toNatClampNeg) + ((Int32.ofInt 5) * x8)) + (Int32.ofInt 1)).toNatClampNeg) = (x3.toInt32) → wr_choose_191 d x1 x2 x3 x5 x6 x8 ((s.2.2.1 13 x2.toNatClampNeg) + ((Int32.ofInt 5) * x8)) s1 Q) ∧ (¬ ((s1.2.2.1 17 (((s.2.2.1 13 x2.toNatClampNeg) + ((Int32.ofInt 5) * x8)) + (Int32.ofInt 1)).toNatClampNeg) = (x3.toInt32)) → wr_choose_152 d x1 x2 x3 x5 x6 x8 ((s.2.2.1 13 x2.toNatClampNeg) + ((Int32.ofInt 5) * x8)) s1 Q)))))))))))))))))
set_option maxRecDepth 20000 in
theorem wr_choose_80_ok {d : Nat} {x1 : Int32} {x2 : Int32} {x3 : Int64} {x5 : Int32} {x6 : Int32} {x7 : Int32} {x8 : Int32} {s : rf_S} {Q : rf_S → Prop} (h : wr_choose_80 d x1 x2 x3 x5 x6 x7 x8 s Q) : rf_R (d + 1) 78 (80, [(0, .ref rf_o), (1, .int x1), (2, .int x2), (3, .long x3), (5, .int x5), (6, .int x6), (7, .int x7), (8, .int x8)], [], s) (rf_qV Q) := by
  unfold wr_choose_80 at h
  refine rf_R_wv rp_78 (rf_bk am_t78 48 6) 80 [(0, .ref rf_o), (1, .int x1), (2, .int x2), (3, .long x3), (5, .int x5), (6, .int x6), (7, .int x7), (8, .int x8)] [] s (by repeat (first | exact trivial | refine ⟨rfl, ?_⟩)) (by decide +kernel) ?_
  refine And.intro h.1 ?_
  replace h := h.2
  refine rf_R_if (b := am_cnd .ge x8 (s.2.2.1 14 x2.toNatClampNeg)) (p := 217) (q := 91) (fun hb => ?_) (fun hb => ?_)
  · replace h := h.1 (of_decide_eq_true hb)
    exact rf_R_le (l := [(0, .ref rf_o), (1, .int x1), (2, .int x2), (3, .long x3), (7, .int x7)]) rfl rfl (⟨rfl, rfl, rfl, rfl, rfl, trivial⟩) (wr_choose_217_ok h)
  · replace h := h.2 (of_decide_eq_false hb)
    refine rf_R_wv rp_78 (rf_bk am_t78 54 2) 91 [(0, .ref rf_o), (1, .int x1), (2, .int x2), (3, .long x3), (5, .int x5), (6, .int x6), (7, .int x7), (8, .int x8)] [] s (by repeat (first | exact trivial | refine ⟨rfl, ?_⟩)) (by decide +kernel) ?_
    refine rf_R_if (b := am_cnd .ge x7 0) (p := 217) (q := 96) (fun hb => ?_) (fun hb => ?_)
    · replace h := h.1 (of_decide_eq_true hb)
      exact rf_R_le (l := [(0, .ref rf_o), (1, .int x1), (2, .int x2), (3, .long x3), (7, .int x7)]) rfl rfl (⟨rfl, rfl, rfl, rfl, rfl, trivial⟩) (wr_choose_217_ok h)
    · replace h := h.2 (of_decide_eq_false hb)
      refine rf_R_wv rp_78 (rf_bk am_t78 56 14) 96 [(0, .ref rf_o), (1, .int x1), (2, .int x2), (3, .long x3), (5, .int x5), (6, .int x6), (7, .int x7), (8, .int x8)] [] s (by repeat (first | exact trivial | refine ⟨rfl, ?_⟩)) (by decide +kernel) ?_
      refine And.intro h.1 ?_
      replace h := h.2
      refine And.intro h.1 ?_
      replace h := h.2
      refine rf_R_wv rp_78 (rf_bk am_t78 70 1) 117 [(9, .int ((s.2.2.1 13 x2.toNatClampNeg) + ((Int32.ofInt 5) * x8))), (0, .ref rf_o), (1, .int x1), (2, .int x2), (3, .long x3), (5, .int x5), (6, .int x6), (7, .int x7), (8, .int x8)] [.int (Int32.ofInt 2), .int (s.2.2.1 17 ((s.2.2.1 13 x2.toNatClampNeg) + ((Int32.ofInt 5) * x8)).toNatClampNeg)] s (by repeat (first | exact trivial | refine ⟨rfl, ?_⟩)) (by decide +kernel) ?_
      refine rf_R_if (b := am_cnd .eq (s.2.2.1 17 ((s.2.2.1 13 x2.toNatClampNeg) + ((Int32.ofInt 5) * x8)).toNatClampNeg) (Int32.ofInt 2)) (p := 191) (q := 120) (fun hb => ?_) (fun hb => ?_)
      · replace h := h.1 (of_decide_eq_true hb)
        exact rf_R_le (l := [(0, .ref rf_o), (1, .int x1), (2, .int x2), (3, .long x3), (5, .int x5), (6, .int x6), (8, .int x8), (9, .int ((s.2.2.1 13 x2.toNatClampNeg) + ((Int32.ofInt 5) * x8)))]) rfl rfl (⟨rfl, rfl, rfl, rfl, rfl, rfl, rfl, rfl, trivial⟩) (wr_choose_191_ok h)
      · replace h := h.2 (of_decide_eq_false hb)
        refine rf_R_wv rp_78 (rf_bk am_t78 71 6) 120 [(9, .int ((s.2.2.1 13 x2.toNatClampNeg) + ((Int32.ofInt 5) * x8))), (0, .ref rf_o), (1, .int x1), (2, .int x2), (3, .long x3), (5, .int x5), (6, .int x6), (7, .int x7), (8, .int x8)] [] s (by repeat (first | exact trivial | refine ⟨rfl, ?_⟩)) (by decide +kernel) ?_
        refine And.intro h.1 ?_
        replace h := h.2
        refine rf_R_if (b := am_cnd .ne (s.2.2.1 17 ((s.2.2.1 13 x2.toNatClampNeg) + ((Int32.ofInt 5) * x8)).toNatClampNeg) (Int32.ofInt 4)) (p := 152) (q := 131) (fun hb => ?_) (fun hb => ?_)
        · replace h := h.1 (of_decide_eq_true hb)
          exact rf_R_le (l := [(0, .ref rf_o), (1, .int x1), (2, .int x2), (3, .long x3), (5, .int x5), (6, .int x6), (8, .int x8), (9, .int ((s.2.2.1 13 x2.toNatClampNeg) + ((Int32.ofInt 5) * x8)))]) rfl rfl (⟨rfl, rfl, rfl, rfl, rfl, rfl, rfl, rfl, trivial⟩) (wr_choose_152_ok h)
        · replace h := h.2 (Decidable.not_not.mp (of_decide_eq_false hb))
          refine rf_R_wv rp_78 (rf_bk am_t78 77 1) 131 [(9, .int ((s.2.2.1 13 x2.toNatClampNeg) + ((Int32.ofInt 5) * x8))), (0, .ref rf_o), (1, .int x1), (2, .int x2), (3, .long x3), (5, .int x5), (6, .int x6), (7, .int x7), (8, .int x8)] [] s (by repeat (first | exact trivial | refine ⟨rfl, ?_⟩)) (by decide +kernel) ?_
          refine rf_R_call (pc := 132) (q := ([.long x3], [])) rp_78 rfl rfl (by decide) rp_45 rfl (Nat.le_of_ble_eq_true rfl) ⟨rfl, Nat.le_of_ble_eq_true rfl⟩ h (fun v s1 h => ?_)
          obtain ⟨r1, rfl, h⟩ := h
          refine rf_R_wv rp_78 (rf_bk am_t78 79 1) 135 [(9, .int ((s.2.2.1 13 x2.toNatClampNeg) + ((Int32.ofInt 5) * x8))), (0, .ref rf_o), (1, .int x1), (2, .int x2), (3, .long x3), (5, .int x5), (6, .int x6), (7, .int x7), (8, .int x8)] [.int r1] s1 (by repeat (first | exact trivial | refine ⟨rfl, ?_⟩)) (by decide +kernel) ?_
          refine rf_R_if (b := am_cnd .ne r1 0) (p := 152) (q := 138) (fun hb => ?_) (fun hb => ?_)
          · replace h := h.1 (of_decide_eq_true hb)
            exact rf_R_le (l := [(0, .ref rf_o), (1, .int x1), (2, .int x2), (3, .long x3), (5, .int x5), (6, .int x6), (8, .int x8), (9, .int ((s.2.2.1 13 x2.toNatClampNeg) + ((Int32.ofInt 5) * x8)))]) rfl rfl (⟨rfl, rfl, rfl, rfl, rfl, rfl, rfl, rfl, trivial⟩) (wr_choose_152_ok h)
          · replace h := h.2 (Decidable.not_not.mp (of_decide_eq_false hb))
            refine rf_R_wv rp_78 (rf_bk am_t78 80 9) 138 [(9, .int ((s.2.2.1 13 x2.toNatClampNeg) + ((Int32.ofInt 5) * x8))), (0, .ref rf_o), (1, .int x1), (2, .int x2), (3, .long x3), (5, .int x5), (6, .int x6), (7, .int x7), (8, .int x8)] [] s1 (by repeat (first | exact trivial | refine ⟨rfl, ?_⟩)) (by decide +kernel) ?_
            refine And.intro h.1 ?_
            replace h := h.2
            refine rf_R_if (b := am_cnd .eq (s1.2.2.1 17 (((s.2.2.1 13 x2.toNatClampNeg) + ((Int32.ofInt 5) * x8)) + (Int32.ofInt 1)).toNatClampNeg) (x3.toInt32)) (p := 191) (q := 152) (fun hb => ?_) (fun hb => ?_)
            · replace h := h.1 (of_decide_eq_true hb)
              exact rf_R_le (l := [(0, .ref rf_o), (1, .int x1), (2, .int x2), (3, .long x3), (5, .int x5), (6, .int x6), (8, .int x8), (9, .int ((s.2.2.1 13 x2.toNatClampNeg) + ((Int32.ofInt 5) * x8)))]) rfl rfl (⟨rfl, rfl, rfl, rfl, rfl, rfl, rfl, rfl, trivial⟩) (wr_choose_191_ok h)
            · replace h := h.2 (of_decide_eq_false hb)
              exact rf_R_le (l := [(0, .ref rf_o), (1, .int x1), (2, .int x2), (3, .long x3), (5, .int x5), (6, .int x6), (8, .int x8), (9, .int ((s.2.2.1 13 x2.toNatClampNeg) + ((Int32.ofInt 5) * x8)))]) rfl rfl (⟨rfl, rfl, rfl, rfl, rfl, rfl, rfl, rfl, trivial⟩) (wr_choose_152_ok h)
/-- choose ()V, from 72 on -/
def wr_choose_72 (d : Nat) (x1 : Int32) (x2 : Int32) (x3 : Int64) (x5 : Int32) (y0 : Int32) (s : rf_S) (Q : rf_S → Prop) : Prop := rf_R (d + 1) 78 (80, [(0, .ref rf_o), (1, .int x1), (2, .int x2), (3, .long x3), (5, .int x5), (6, .int y0), (7, .int (Int32.ofInt (-1))), (8, .int (Int32.ofInt 0))], [], s) (rf_qV Q)
set_option maxRecDepth 20000 in
theorem wr_choose_72_ok {d : Nat} {x1 : Int32} {x2 : Int32} {x3 : Int64} {x5 : Int32} {y0 : Int32} {s : rf_S} {Q : rf_S → Prop} (h : wr_choose_72 d x1 x2 x3 x5 y0 s Q) : rf_R (d + 1) 78 (72, [(0, .ref rf_o), (1, .int x1), (2, .int x2), (3, .long x3), (5, .int x5)], [.int y0], s) (rf_qV Q) := by
  unfold wr_choose_72 at h
  refine rf_R_wv rp_78 (rf_bk am_t78 43 5) 72 [(0, .ref rf_o), (1, .int x1), (2, .int x2), (3, .long x3), (5, .int x5)] [.int y0] s (by repeat (first | exact trivial | refine ⟨rfl, ?_⟩)) (by decide +kernel) ?_
  exact rf_R_le (l := [(0, .ref rf_o), (1, .int x1), (2, .int x2), (3, .long x3), (5, .int x5), (6, .int y0), (7, .int (Int32.ofInt (-1))), (8, .int (Int32.ofInt 0))]) rfl rfl (⟨rfl, rfl, rfl, rfl, rfl, rfl, rfl, rfl, trivial⟩) h
/-- choose ()V, from 38 on -/
def wr_choose_38 (d : Nat) (x1 : Int32) (x2 : Int32) (x3 : Int64) (y0 : Int32) (s : rf_S) (Q : rf_S → Prop) : Prop := rf_I d 77 [(0, .ref rf_o), (1, .long x3)] s (fun r1 s1 => ((r1 = 0 → rf_I d 45 [(0, .long x3)] s1 (fun r2 s2 => ((¬ r2 = (Int32.ofInt 1) → wr_choose_72 d x1 x2 x3 y0 (Int32.ofInt (-1)) s2 Q) ∧ (r2 = (Int32.ofInt 1) → wr_choose_72 d x1 x2 x3 y0 (x3.toInt32) s2 Q)))) ∧ (¬ (r1 = 0) → (rf_in (x3.toInt32) 36000 ∧ wr_choose_72 d x1 x2 x3 y0 (s1.2.2.1 50 (x3.toInt32).toNatClampNeg) s1 Q))))
set_option maxRecDepth 20000 in
theorem wr_choose_38_ok {d : Nat} {x1 : Int32} {x2 : Int32} {x3 : Int64} {y0 : Int32} {s : rf_S} {Q : rf_S → Prop} (h : wr_choose_38 d x1 x2 x3 y0 s Q) : rf_R (d + 1) 78 (38, [(0, .ref rf_o), (1, .int x1), (2, .int x2), (3, .long x3)], [.int y0], s) (rf_qV Q) := by
  unfold wr_choose_38 at h
  refine rf_R_wv rp_78 (rf_bk am_t78 24 3) 38 [(0, .ref rf_o), (1, .int x1), (2, .int x2), (3, .long x3)] [.int y0] s (by repeat (first | exact trivial | refine ⟨rfl, ?_⟩)) (by decide +kernel) ?_
  refine rf_R_call (pc := 42) (q := ([.ref rf_o, .long x3], [])) rp_78 rfl rfl (by decide) rp_77 rfl (Nat.le_of_ble_eq_true rfl) ⟨rfl, Nat.le_of_ble_eq_true rfl⟩ h (fun v s1 h => ?_)
  obtain ⟨r1, rfl, h⟩ := h
  refine rf_R_wv rp_78 (rf_bk am_t78 28 1) 45 [(5, .int y0), (0, .ref rf_o), (1, .int x1), (2, .int x2), (3, .long x3)] [.int r1] s1 (by repeat (first | exact trivial | refine ⟨rfl, ?_⟩)) (by decide +kernel) ?_
  refine rf_R_if (b := am_cnd .eq r1 0) (p := 58) (q := 48) (fun hb => ?_) (fun hb => ?_)
  · replace h := h.1 (of_decide_eq_true hb)
    refine rf_R_wv rp_78 (rf_bk am_t78 35 1) 58 [(5, .int y0), (0, .ref rf_o), (1, .int x1), (2, .int x2), (3, .long x3)] [] s1 (by repeat (first | exact trivial | refine ⟨rfl, ?_⟩)) (by decide +kernel) ?_
    refine rf_R_call (pc := 59) (q := ([.long x3], [])) rp_78 rfl rfl (by decide) rp_45 rfl (Nat.le_of_ble_eq_true rfl) ⟨rfl, Nat.le_of_ble_eq_true rfl⟩ h (fun v s2 h => ?_)
    obtain ⟨r2, rfl, h⟩ := h
    refine rf_R_wv rp_78 (rf_bk am_t78 37 2) 62 [(5, .int y0), (0, .ref rf_o), (1, .int x1), (2, .int x2), (3, .long x3)] [.int r2] s2 (by repeat (first | exact trivial | refine ⟨rfl, ?_⟩)) (by decide +kernel) ?_
    refine rf_R_if (b := am_cnd .ne r2 (Int32.ofInt 1)) (p := 71) (q := 66) (fun hb => ?_) (fun hb => ?_)
    · replace h := h.1 (of_decide_eq_true hb)
      refine rf_R_wv rp_78 (rf_bk am_t78 42 1) 71 [(5, .int y0), (0, .ref rf_o), (1, .int x1), (2, .int x2), (3, .long x3)] [] s2 (by repeat (first | exact trivial | refine ⟨rfl, ?_⟩)) (by decide +kernel) ?_
      exact rf_R_le (l := [(0, .ref rf_o), (1, .int x1), (2, .int x2), (3, .long x3), (5, .int y0)]) rfl rfl (⟨rfl, rfl, rfl, rfl, rfl, trivial⟩) (wr_choose_72_ok h)
    · replace h := h.2 (Decidable.not_not.mp (of_decide_eq_false hb))
      refine rf_R_wv rp_78 (rf_bk am_t78 39 3) 66 [(5, .int y0), (0, .ref rf_o), (1, .int x1), (2, .int x2), (3, .long x3)] [] s2 (by repeat (first | exact trivial | refine ⟨rfl, ?_⟩)) (by decide +kernel) ?_
      exact rf_R_le (l := [(0, .ref rf_o), (1, .int x1), (2, .int x2), (3, .long x3), (5, .int y0)]) rfl rfl (⟨rfl, rfl, rfl, rfl, rfl, trivial⟩) (wr_choose_72_ok h)
  · replace h := h.2 (of_decide_eq_false hb)
    refine rf_R_wv rp_78 (rf_bk am_t78 29 6) 48 [(5, .int y0), (0, .ref rf_o), (1, .int x1), (2, .int x2), (3, .long x3)] [] s1 (by repeat (first | exact trivial | refine ⟨rfl, ?_⟩)) (by decide +kernel) ?_
    refine And.intro h.1 ?_
    replace h := h.2
    exact rf_R_le (l := [(0, .ref rf_o), (1, .int x1), (2, .int x2), (3, .long x3), (5, .int y0)]) rfl rfl (⟨rfl, rfl, rfl, rfl, rfl, trivial⟩) (wr_choose_72_ok h)
/-- choose ()V, from 0 on -/
def wr_choose (d : Nat) (s : rf_S) (Q : rf_S → Prop) : Prop := (rf_in ((s.1 65) - (Int32.ofInt 1)) 1600 ∧ rf_I d 77 [(0, .ref rf_o), (1, .long (s.2.1 77))] s (fun r1 s1 => ((r1 = 0 → wr_choose_38 d ((s.1 65) - (Int32.ofInt 1)) (s.2.2.1 67 ((s.1 65) - (Int32.ofInt 1)).toNatClampNeg) (s.2.1 77) (Int32.ofInt 0) s1 Q) ∧ (¬ (r1 = 0) → (rf_in ((s.2.1 77).toInt32) 36000 ∧ wr_choose_38 d ((s.1 65) - (Int32.ofInt 1)) (s.2.2.1 67 ((s.1 65) - (Int32.ofInt 1)).toNatClampNeg) (s.2.1 77) (s1.2.2.1 52 ((s.2.1 77).toInt32).toNatClampNeg) s1 Q)))))
set_option maxRecDepth 20000 in
theorem wr_choose_ok {d : Nat} {s : rf_S} {Q : rf_S → Prop} (h : wr_choose d s Q) : rf_V (d + 1) 78 [(0, .ref rf_o)] s Q := by
  unfold wr_choose at h
  unfold rf_V
  refine rf_R_wv rp_78 (rf_bk am_t78 0 14) 0 [(0, .ref rf_o)] [] s (by repeat (first | exact trivial | refine ⟨rfl, ?_⟩)) (by decide +kernel) ?_
  refine And.intro h.1 ?_
  replace h := h.2
  refine rf_R_wv rp_78 (rf_bk am_t78 14 1) 20 [(3, .long (s.2.1 77)), (2, .int (s.2.2.1 67 ((s.1 65) - (Int32.ofInt 1)).toNatClampNeg)), (1, .int ((s.1 65) - (Int32.ofInt 1))), (0, .ref rf_o)] [.ref rf_o] s (by repeat (first | exact trivial | refine ⟨rfl, ?_⟩)) (by decide +kernel) ?_
  refine rf_R_call (pc := 21) (q := ([.ref rf_o, .long (s.2.1 77)], [])) rp_78 rfl rfl (by decide) rp_77 rfl (Nat.le_of_ble_eq_true rfl) ⟨rfl, Nat.le_of_ble_eq_true rfl⟩ h (fun v s1 h => ?_)
  obtain ⟨r1, rfl, h⟩ := h
  refine rf_R_wv rp_78 (rf_bk am_t78 16 1) 24 [(3, .long (s.2.1 77)), (2, .int (s.2.2.1 67 ((s.1 65) - (Int32.ofInt 1)).toNatClampNeg)), (1, .int ((s.1 65) - (Int32.ofInt 1))), (0, .ref rf_o)] [.int r1] s1 (by repeat (first | exact trivial | refine ⟨rfl, ?_⟩)) (by decide +kernel) ?_
  refine rf_R_if (b := am_cnd .eq r1 0) (p := 37) (q := 27) (fun hb => ?_) (fun hb => ?_)
  · replace h := h.1 (of_decide_eq_true hb)
    refine rf_R_wv rp_78 (rf_bk am_t78 23 1) 37 [(3, .long (s.2.1 77)), (2, .int (s.2.2.1 67 ((s.1 65) - (Int32.ofInt 1)).toNatClampNeg)), (1, .int ((s.1 65) - (Int32.ofInt 1))), (0, .ref rf_o)] [] s1 (by repeat (first | exact trivial | refine ⟨rfl, ?_⟩)) (by decide +kernel) ?_
    exact rf_R_le (l := [(0, .ref rf_o), (1, .int ((s.1 65) - (Int32.ofInt 1))), (2, .int (s.2.2.1 67 ((s.1 65) - (Int32.ofInt 1)).toNatClampNeg)), (3, .long (s.2.1 77))]) rfl rfl (⟨rfl, rfl, rfl, rfl, trivial⟩) (wr_choose_38_ok h)
  · replace h := h.2 (of_decide_eq_false hb)
    refine rf_R_wv rp_78 (rf_bk am_t78 17 6) 27 [(3, .long (s.2.1 77)), (2, .int (s.2.2.1 67 ((s.1 65) - (Int32.ofInt 1)).toNatClampNeg)), (1, .int ((s.1 65) - (Int32.ofInt 1))), (0, .ref rf_o)] [] s1 (by repeat (first | exact trivial | refine ⟨rfl, ?_⟩)) (by decide +kernel) ?_
    refine And.intro h.1 ?_
    replace h := h.2
    exact rf_R_le (l := [(0, .ref rf_o), (1, .int ((s.1 65) - (Int32.ofInt 1))), (2, .int (s.2.2.1 67 ((s.1 65) - (Int32.ofInt 1)).toNatClampNeg)), (3, .long (s.2.1 77))]) rfl rfl (⟨rfl, rfl, rfl, rfl, trivial⟩) (wr_choose_38_ok h)
/-- giveLeft ()V, from 61 on -/
def wr_giveLeft_61 (d : Nat) (x1 : Int32) (x2 : Int32) (x3 : Int32) (x4 : Int32) (s : rf_S) (Q : rf_S → Prop) : Prop := (rf_in (x3 + (Int32.ofInt 1)) 2101 ∧ (((s.2.2.1 20 (x3 + (Int32.ofInt 1)).toNatClampNeg) ≤ x4 → rf_V d 57 [(0, .ref rf_o)] s (fun s1 => (rf_in x2 2100 ∧ rf_V d 53 [(0, .ref rf_o), (1, .int (Int32.ofInt 3)), (2, .int (s1.2.2.1 13 x2.toNatClampNeg)), (3, .int ((s1.2.1 77).toInt32)), (4, .int (Int32.ofInt 0))] s1 (fun s2 => rf_V d 55 [(0, .ref rf_o)] s2 (fun s3 => rf_V d 69 [(0, .ref rf_o), (1, .int x3)] s3 (fun s4 => Q s4)))))) ∧ (¬ ((s.2.2.1 20 (x3 + (Int32.ofInt 1)).toNatClampNeg) ≤ x4) → (rf_in x4 131072 ∧ rf_in x1 1601 ∧ (rf_in x3 2101 ∧ rf_in (((s.2.2.1 70 x1.toNatClampNeg) + x4) - (s.2.2.1 20 x3.toNatClampNeg)) 6000 ∧ rf_in (s.2.2.1 21 x4.toNatClampNeg) 1100 ∧ rf_R (d + 1) 79 (61, [(0, .ref rf_o), (1, .int x1), (2, .int x2), (3, .int x3), (4, .int (x4 + Int32.ofInt 1))], [], (rf_sL s 78 (s.2.2.1 21 x4.toNatClampNeg).toNatClampNeg (s.2.2.2 71 (((s.2.2.1 70 x1.toNatClampNeg) + x4) - (s.2.2.1 20 x3.toNatClampNeg)).toNatClampNeg))) (rf_qV Q))))))
set_option maxRecDepth 20000 in
theorem wr_giveLeft_61_ok {d : Nat} {x1 : Int32} {x2 : Int32} {x3 : Int32} {x4 : Int32} {s : rf_S} {Q : rf_S → Prop} (h : wr_giveLeft_61 d x1 x2 x3 x4 s Q) : rf_R (d + 1) 79 (61, [(0, .ref rf_o), (1, .int x1), (2, .int x2), (3, .int x3), (4, .int x4)], [], s) (rf_qV Q) := by
  unfold wr_giveLeft_61 at h
  refine rf_R_wv rp_79 (rf_bk am_t79 38 8) 61 [(0, .ref rf_o), (1, .int x1), (2, .int x2), (3, .int x3), (4, .int x4)] [] s (by repeat (first | exact trivial | refine ⟨rfl, ?_⟩)) (by decide +kernel) ?_
  refine And.intro h.1 ?_
  replace h := h.2
  refine rf_R_if (b := am_cnd .ge x4 (s.2.2.1 20 (x3 + (Int32.ofInt 1)).toNatClampNeg)) (p := 113) (q := 74) (fun hb => ?_) (fun hb => ?_)
  · replace h := h.1 (of_decide_eq_true hb)
    refine rf_R_wv rp_79 (rf_bk am_t79 69 1) 113 [(0, .ref rf_o), (1, .int x1), (2, .int x2), (3, .int x3), (4, .int x4)] [] s (by repeat (first | exact trivial | refine ⟨rfl, ?_⟩)) (by decide +kernel) ?_
    refine rf_R_call (pc := 114) (q := ([.ref rf_o], [])) rp_79 rfl rfl (by decide) rp_57 rfl (Nat.le_of_ble_eq_true rfl) ⟨rfl, Nat.le_of_ble_eq_true rfl⟩ h (fun v s1 h => ?_)
    obtain ⟨rfl, h⟩ := h
    refine rf_R_wv rp_79 (rf_bk am_t79 71 10) 117 [(0, .ref rf_o), (1, .int x1), (2, .int x2), (3, .int x3), (4, .int x4)] [] s1 (by repeat (first | exact trivial | refine ⟨rfl, ?_⟩)) (by decide +kernel) ?_
    refine And.intro h.1 ?_
    replace h := h.2
    refine rf_R_call (pc := 131) (q := ([.ref rf_o, .int (Int32.ofInt 3), .int (s1.2.2.1 13 x2.toNatClampNeg), .int ((s1.2.1 77).toInt32), .int (Int32.ofInt 0)], [])) rp_79 rfl rfl (by decide) rp_53 rfl (Nat.le_of_ble_eq_true rfl) ⟨rfl, Nat.le_of_ble_eq_true rfl⟩ h (fun v s2 h => ?_)
    obtain ⟨rfl, h⟩ := h
    refine rf_R_wv rp_79 (rf_bk am_t79 82 1) 134 [(0, .ref rf_o), (1, .int x1), (2, .int x2), (3, .int x3), (4, .int x4)] [] s2 (by repeat (first | exact trivial | refine ⟨rfl, ?_⟩)) (by decide +kernel) ?_
    refine rf_R_call (pc := 135) (q := ([.ref rf_o], [])) rp_79 rfl rfl (by decide) rp_55 rfl (Nat.le_of_ble_eq_true rfl) ⟨rfl, Nat.le_of_ble_eq_true rfl⟩ h (fun v s3 h => ?_)
    obtain ⟨rfl, h⟩ := h
    refine rf_R_wv rp_79 (rf_bk am_t79 84 2) 138 [(0, .ref rf_o), (1, .int x1), (2, .int x2), (3, .int x3), (4, .int x4)] [] s3 (by repeat (first | exact trivial | refine ⟨rfl, ?_⟩)) (by decide +kernel) ?_
    refine rf_R_call (pc := 140) (q := ([.ref rf_o, .int x3], [])) rp_79 rfl rfl (by decide) rp_69 rfl (Nat.le_of_ble_eq_true rfl) ⟨rfl, Nat.le_of_ble_eq_true rfl⟩ h (fun v s4 h => ?_)
    obtain ⟨rfl, h⟩ := h
    exact rf_R_ret (pc := 143) rp_79 rfl rfl rfl ⟨rfl, h⟩
  · replace h := h.2 (of_decide_eq_false hb)
    refine rf_R_wv rp_79 (rf_bk am_t79 46 14) 74 [(0, .ref rf_o), (1, .int x1), (2, .int x2), (3, .int x3), (4, .int x4)] [] s (by repeat (first | exact trivial | refine ⟨rfl, ?_⟩)) (by decide +kernel) ?_
    refine And.intro h.1 ?_
    replace h := h.2
    refine And.intro h.1 ?_
    replace h := h.2
    refine rf_R_wv rp_79 (rf_bk am_t79 60 7) 98 [(0, .ref rf_o), (1, .int x1), (2, .int x2), (3, .int x3), (4, .int x4)] [.int ((s.2.2.1 70 x1.toNatClampNeg) + x4), .ref (rf_ad 71), .int (s.2.2.1 21 x4.toNatClampNeg), .ref (rf_ad 78)] s (by repeat (first | exact trivial | refine ⟨rfl, ?_⟩)) (by decide +kernel) ?_
    refine And.intro h.1 ?_
    replace h := h.2
    refine And.intro h.1 ?_
    replace h := h.2
    refine And.intro h.1 ?_
    replace h := h.2
    refine rf_R_wv rp_79 (rf_bk am_t79 67 2) 107 [(0, .ref rf_o), (1, .int x1), (2, .int x2), (3, .int x3), (4, .int x4)] [] (rf_sL s 78 (s.2.2.1 21 x4.toNatClampNeg).toNatClampNeg (s.2.2.2 71 (((s.2.2.1 70 x1.toNatClampNeg) + x4) - (s.2.2.1 20 x3.toNatClampNeg)).toNatClampNeg)) (by repeat (first | exact trivial | refine ⟨rfl, ?_⟩)) (by decide +kernel) ?_
    exact rf_R_le (l := [(0, .ref rf_o), (1, .int x1), (2, .int x2), (3, .int x3), (4, .int (x4 + Int32.ofInt 1))]) rfl rfl (⟨rfl, rfl, rfl, rfl, rfl, trivial⟩) h
/-- giveLeft ()V, from 0 on -/
def wr_giveLeft (d : Nat) (s : rf_S) (Q : rf_S → Prop) : Prop := (rf_in ((s.1 65) - (Int32.ofInt 1)) 1600 ∧ rf_I d 45 [(0, .long (s.2.1 77))] s (fun r1 s1 => ((r1 = 0 → (rf_in (s.2.2.1 67 ((s.1 65) - (Int32.ofInt 1)).toNatClampNeg) 2100 ∧ rf_I d 52 [(0, .ref rf_o), (1, .int ((s.1 65) - (Int32.ofInt 1)))] s1 (fun r2 s2 => rf_I d 59 [(0, .ref rf_o), (1, .int ((Int32.ofInt 3) - r2)), (2, .int (Int32.ofInt 0))] s2 (fun r3 s3 => ((¬ r3 = 0 → (rf_in (s1.2.2.1 15 (s.2.2.1 67 ((s.1 65) - (Int32.ofInt 1)).toNatClampNeg).toNatClampNeg) 2101 ∧ rf_R (d + 1) 79 (61, [(0, .ref rf_o), (1, .int ((s.1 65) - (Int32.ofInt 1))), (2, .int (s.2.2.1 67 ((s.1 65) - (Int32.ofInt 1)).toNatClampNeg)), (3, .int (s1.2.2.1 15 (s.2.2.1 67 ((s.1 65) - (Int32.ofInt 1)).toNatClampNeg).toNatClampNeg)), (4, .int (s3.2.2.1 20 (s1.2.2.1 15 (s.2.2.1 67 ((s.1 65) - (Int32.ofInt 1)).toNatClampNeg).toNatClampNeg).toNatClampNeg))], [], s3) (rf_qV Q))) ∧ (r3 = 0 → Q s3)))))) ∧ (¬ (r1 = 0) → rf_V d 58 [(0, .ref rf_o), (1, .int (Int32.ofInt 4))] s1 (fun s4 => Q s4)))))
set_option maxRecDepth 20000 in
theorem wr_giveLeft_ok {d : Nat} {s : rf_S} {Q : rf_S → Prop} (h : wr_giveLeft d s Q) : rf_V (d + 1) 79 [(0, .ref rf_o)] s Q := by
  unfold wr_giveLeft at h
  unfold rf_V
  refine rf_R_wv rp_79 (rf_bk am_t79 0 12) 0 [(0, .ref rf_o)] [] s (by repeat (first | exact trivial | refine ⟨rfl, ?_⟩)) (by decide +kernel) ?_
  refine And.intro h.1 ?_
  replace h := h.2
  refine rf_R_call (pc := 18) (q := ([.long (s.2.1 77)], [])) rp_79 rfl rfl (by decide) rp_45 rfl (Nat.le_of_ble_eq_true rfl) ⟨rfl, Nat.le_of_ble_eq_true rfl⟩ h (fun v s1 h => ?_)
  obtain ⟨r1, rfl, h⟩ := h
  refine rf_R_wv rp_79 (rf_bk am_t79 13 1) 21 [(2, .int (s.2.2.1 67 ((s.1 65) - (Int32.ofInt 1)).toNatClampNeg)), (1, .int ((s.1 65) - (Int32.ofInt 1))), (0, .ref rf_o)] [.int r1] s1 (by repeat (first | exact trivial | refine ⟨rfl, ?_⟩)) (by decide +kernel) ?_
  refine rf_R_if (b := am_cnd .eq r1 0) (p := 30) (q := 24) (fun hb => ?_) (fun hb => ?_)
  · replace h := h.1 (of_decide_eq_true hb)
    refine rf_R_wv rp_79 (rf_bk am_t79 18 9) 30 [(2, .int (s.2.2.1 67 ((s.1 65) - (Int32.ofInt 1)).toNatClampNeg)), (1, .int ((s.1 65) - (Int32.ofInt 1))), (0, .ref rf_o)] [] s1 (by repeat (first | exact trivial | refine ⟨rfl, ?_⟩)) (by decide +kernel) ?_
    refine And.intro h.1 ?_
    replace h := h.2
    refine rf_R_call (pc := 41) (q := ([.ref rf_o, .int ((s.1 65) - (Int32.ofInt 1))], [.int (Int32.ofInt 3), .ref rf_o])) rp_79 rfl rfl (by decide) rp_52 rfl (Nat.le_of_ble_eq_true rfl) ⟨rfl, Nat.le_of_ble_eq_true rfl⟩ h (fun v s2 h => ?_)
    obtain ⟨r2, rfl, h⟩ := h
    refine rf_R_wv rp_79 (rf_bk am_t79 28 2) 44 [(3, .int (s1.2.2.1 15 (s.2.2.1 67 ((s.1 65) - (Int32.ofInt 1)).toNatClampNeg).toNatClampNeg)), (2, .int (s.2.2.1 67 ((s.1 65) - (Int32.ofInt 1)).toNatClampNeg)), (1, .int ((s.1 65) - (Int32.ofInt 1))), (0, .ref rf_o)] [.int r2, .int (Int32.ofInt 3), .ref rf_o] s2 (by repeat (first | exact trivial | refine ⟨rfl, ?_⟩)) (by decide +kernel) ?_
    refine rf_R_call (pc := 46) (q := ([.ref rf_o, .int ((Int32.ofInt 3) - r2), .int (Int32.ofInt 0)], [])) rp_79 rfl rfl (by decide) rp_59 rfl (Nat.le_of_ble_eq_true rfl) ⟨rfl, Nat.le_of_ble_eq_true rfl⟩ h (fun v s3 h => ?_)
    obtain ⟨r3, rfl, h⟩ := h
    refine rf_R_wv rp_79 (rf_bk am_t79 31 1) 49 [(3, .int (s1.2.2.1 15 (s.2.2.1 67 ((s.1 65) - (Int32.ofInt 1)).toNatClampNeg).toNatClampNeg)), (2, .int (s.2.2.1 67 ((s.1 65) - (Int32.ofInt 1)).toNatClampNeg)), (1, .int ((s.1 65) - (Int32.ofInt 1))), (0, .ref rf_o)] [.int r3] s3 (by repeat (first | exact trivial | refine ⟨rfl, ?_⟩)) (by decide +kernel) ?_
    refine rf_R_if (b := am_cnd .ne r3 0) (p := 53) (q := 52) (fun hb => ?_) (fun hb => ?_)
    · replace h := h.1 (of_decide_eq_true hb)
      refine rf_R_wv rp_79 (rf_bk am_t79 33 5) 53 [(3, .int (s1.2.2.1 15 (s.2.2.1 67 ((s.1 65) - (Int32.ofInt 1)).toNatClampNeg).toNatClampNeg)), (2, .int (s.2.2.1 67 ((s.1 65) - (Int32.ofInt 1)).toNatClampNeg)), (1, .int ((s.1 65) - (Int32.ofInt 1))), (0, .ref rf_o)] [] s3 (by repeat (first | exact trivial | refine ⟨rfl, ?_⟩)) (by decide +kernel) ?_
      refine And.intro h.1 ?_
      replace h := h.2
      exact rf_R_le (l := [(0, .ref rf_o), (1, .int ((s.1 65) - (Int32.ofInt 1))), (2, .int (s.2.2.1 67 ((s.1 65) - (Int32.ofInt 1)).toNatClampNeg)), (3, .int (s1.2.2.1 15 (s.2.2.1 67 ((s.1 65) - (Int32.ofInt 1)).toNatClampNeg).toNatClampNeg)), (4, .int (s3.2.2.1 20 (s1.2.2.1 15 (s.2.2.1 67 ((s.1 65) - (Int32.ofInt 1)).toNatClampNeg).toNatClampNeg).toNatClampNeg))]) rfl rfl (⟨rfl, rfl, rfl, rfl, rfl, trivial⟩) h
    · replace h := h.2 (Decidable.not_not.mp (of_decide_eq_false hb))
      exact rf_R_ret (pc := 52) rp_79 rfl rfl rfl ⟨rfl, h⟩
  · replace h := h.2 (of_decide_eq_false hb)
    refine rf_R_wv rp_79 (rf_bk am_t79 14 2) 24 [(2, .int (s.2.2.1 67 ((s.1 65) - (Int32.ofInt 1)).toNatClampNeg)), (1, .int ((s.1 65) - (Int32.ofInt 1))), (0, .ref rf_o)] [] s1 (by repeat (first | exact trivial | refine ⟨rfl, ?_⟩)) (by decide +kernel) ?_
    refine rf_R_call (pc := 26) (q := ([.ref rf_o, .int (Int32.ofInt 4)], [])) rp_79 rfl rfl (by decide) rp_58 rfl (Nat.le_of_ble_eq_true rfl) ⟨rfl, Nat.le_of_ble_eq_true rfl⟩ h (fun v s4 h => ?_)
    obtain ⟨rfl, h⟩ := h
    exact rf_R_ret (pc := 29) rp_79 rfl rfl rfl ⟨rfl, h⟩
/-- giveRight ()V, from 174 on -/
def wr_giveRight_174 (d : Nat) (y0 : Int32) (s : rf_S) (Q : rf_S → Prop) : Prop := rf_J d 44 [(0, .int (Int32.ofInt 0)), (1, .int y0)] s (fun r1 s1 => rf_V d 68 [(0, .ref rf_o), (1, .long r1)] s1 (fun s2 => Q s2))
set_option maxRecDepth 20000 in
theorem wr_giveRight_174_ok {d : Nat} {y0 : Int32} {s : rf_S} {Q : rf_S → Prop} (h : wr_giveRight_174 d y0 s Q) : rf_R (d + 1) 80 (174, [(0, .ref rf_o)], [.int y0], s) (rf_qV Q) := by
  unfold wr_giveRight_174 at h
  refine rf_R_wv rp_80 (rf_bk am_t80 96 4) 174 [(0, .ref rf_o)] [.int y0] s (by repeat (first | exact trivial | refine ⟨rfl, ?_⟩)) (by decide +kernel) ?_
  refine rf_R_call (pc := 180) (q := ([.int (Int32.ofInt 0), .int y0], [.ref rf_o])) rp_80 rfl rfl (by decide) rp_44 rfl (Nat.le_of_ble_eq_true rfl) ⟨rfl, Nat.le_of_ble_eq_true rfl⟩ h (fun v s1 h => ?_)
  obtain ⟨r1, rfl, h⟩ := h
  refine rf_R_call (pc := 183) (q := ([.ref rf_o, .long r1], [])) rp_80 rfl rfl (by decide) rp_68 rfl (Nat.le_of_ble_eq_true rfl) ⟨rfl, Nat.le_of_ble_eq_true rfl⟩ h (fun v s2 h => ?_)
  obtain ⟨rfl, h⟩ := h
  exact rf_R_ret (pc := 186) rp_80 rfl rfl rfl ⟨rfl, h⟩
/-- giveRight ()V, from 111 on -/
def wr_giveRight_111 (d : Nat) (y0 : Int32) (y1 : Int32) (s : rf_S) (Q : rf_S → Prop) : Prop := rf_J d 44 [(0, .int y1), (1, .int y0)] s (fun r1 s1 => rf_V d 68 [(0, .ref rf_o), (1, .long r1)] s1 (fun s2 => Q s2))
set_option maxRecDepth 20000 in
theorem wr_giveRight_111_ok {d : Nat} {y0 : Int32} {y1 : Int32} {s : rf_S} {Q : rf_S → Prop} (h : wr_giveRight_111 d y0 y1 s Q) : rf_R (d + 1) 80 (111, [], [.int y0, .int y1, .ref rf_o], s) (rf_qV Q) := by
  unfold wr_giveRight_111 at h
  refine rf_R_call (pc := 111) (q := ([.int y1, .int y0], [.ref rf_o])) rp_80 rfl rfl (by decide) rp_44 rfl (Nat.le_of_ble_eq_true rfl) ⟨rfl, Nat.le_of_ble_eq_true rfl⟩ h (fun v s1 h => ?_)
  obtain ⟨r1, rfl, h⟩ := h
  refine rf_R_call (pc := 114) (q := ([.ref rf_o, .long r1], [])) rp_80 rfl rfl (by decide) rp_68 rfl (Nat.le_of_ble_eq_true rfl) ⟨rfl, Nat.le_of_ble_eq_true rfl⟩ h (fun v s2 h => ?_)
  obtain ⟨rfl, h⟩ := h
  exact rf_R_ret (pc := 117) rp_80 rfl rfl rfl ⟨rfl, h⟩
/-- giveRight ()V, from 110 on -/
def wr_giveRight_110 (d : Nat) (y0 : Int32) (s : rf_S) (Q : rf_S → Prop) : Prop := wr_giveRight_111 d (Int32.ofInt 0) y0 s Q
set_option maxRecDepth 20000 in
theorem wr_giveRight_110_ok {d : Nat} {y0 : Int32} {s : rf_S} {Q : rf_S → Prop} (h : wr_giveRight_110 d y0 s Q) : rf_R (d + 1) 80 (110, [], [.int y0, .ref rf_o], s) (rf_qV Q) := by
  unfold wr_giveRight_110 at h
  refine rf_R_wv rp_80 (rf_bk am_t80 61 1) 110 [] [.int y0, .ref rf_o] s (by repeat (first | exact trivial | refine ⟨rfl, ?_⟩)) (by decide +kernel) ?_
  exact rf_R_le (l := []) rfl rfl trivial (wr_giveRight_111_ok h)
/-- giveRight ()V, from 106 on -/
def wr_giveRight_106 (d : Nat) (y0 : Int32) (s : rf_S) (Q : rf_S → Prop) : Prop := wr_giveRight_111 d (Int32.ofInt 1) y0 s Q
set_option maxRecDepth 20000 in
theorem wr_giveRight_106_ok {d : Nat} {y0 : Int32} {s : rf_S} {Q : rf_S → Prop} (h : wr_giveRight_106 d y0 s Q) : rf_R (d + 1) 80 (106, [], [.int y0, .ref rf_o], s) (rf_qV Q) := by
  unfold wr_giveRight_106 at h
  refine rf_R_wv rp_80 (rf_bk am_t80 59 2) 106 [] [.int y0, .ref rf_o] s (by repeat (first | exact trivial | refine ⟨rfl, ?_⟩)) (by decide +kernel) ?_
  exact rf_R_le (l := []) rfl rfl trivial (wr_giveRight_111_ok h)
/-- giveRight ()V, from 83 on -/
def wr_giveRight_83 (d : Nat) (x2 : Int32) (x3 : Int32) (x4 : Int32) (s : rf_S) (Q : rf_S → Prop) : Prop := ((¬ x2 = ((Int8.ofInt 69).toInt32) → ((x4 ≤ x3 → wr_giveRight_110 d (Int32.ofInt 1) s Q) ∧ (¬ (x4 ≤ x3) → wr_giveRight_106 d (Int32.ofInt 1) s Q))) ∧ (x2 = ((Int8.ofInt 69).toInt32) → ((¬ x3 = x4 → wr_giveRight_110 d (Int32.ofInt 1) s Q) ∧ (x3 = x4 → wr_giveRight_106 d (Int32.ofInt 1) s Q))))
set_option maxRecDepth 20000 in
theorem wr_giveRight_83_ok {d : Nat} {x2 : Int32} {x3 : Int32} {x4 : Int32} {s : rf_S} {Q : rf_S → Prop} (h : wr_giveRight_83 d x2 x3 x4 s Q) : rf_R (d + 1) 80 (83, [(0, .ref rf_o), (2, .int x2), (3, .int x3), (4, .int x4)], [], s) (rf_qV Q) := by
  unfold wr_giveRight_83 at h
  refine rf_R_wv rp_80 (rf_bk am_t80 47 5) 83 [(0, .ref rf_o), (2, .int x2), (3, .int x3), (4, .int x4)] [] s (by repeat (first | exact trivial | refine ⟨rfl, ?_⟩)) (by decide +kernel) ?_
  refine rf_R_if (b := am_cnd .ne x2 ((Int8.ofInt 69).toInt32)) (p := 100) (q := 91) (fun hb => ?_) (fun hb => ?_)
  · replace h := h.1 (of_decide_eq_true hb)
    refine rf_R_wv rp_80 (rf_bk am_t80 56 3) 100 [(0, .ref rf_o), (2, .int x2), (3, .int x3), (4, .int x4)] [.int (Int32.ofInt 1), .ref rf_o] s (by repeat (first | exact trivial | refine ⟨rfl, ?_⟩)) (by decide +kernel) ?_
    refine rf_R_if (b := am_cnd .ge x3 x4) (p := 110) (q := 106) (fun hb => ?_) (fun hb => ?_)
    · replace h := h.1 (of_decide_eq_true hb)
      exact rf_R_le (l := []) rfl rfl trivial (wr_giveRight_110_ok h)
    · replace h := h.2 (of_decide_eq_false hb)
      exact rf_R_le (l := []) rfl rfl trivial (wr_giveRight_106_ok h)
  · replace h := h.2 (Decidable.not_not.mp (of_decide_eq_false hb))
    refine rf_R_wv rp_80 (rf_bk am_t80 52 3) 91 [(0, .ref rf_o), (2, .int x2), (3, .int x3), (4, .int x4)] [.int (Int32.ofInt 1), .ref rf_o] s (by repeat (first | exact trivial | refine ⟨rfl, ?_⟩)) (by decide +kernel) ?_
    refine rf_R_if (b := am_cnd .ne x3 x4) (p := 110) (q := 97) (fun hb => ?_) (fun hb => ?_)
    · replace h := h.1 (of_decide_eq_true hb)
      exact rf_R_le (l := []) rfl rfl trivial (wr_giveRight_110_ok h)
    · replace h := h.2 (Decidable.not_not.mp (of_decide_eq_false hb))
      refine rf_R_wv rp_80 (rf_bk am_t80 55 1) 97 [(0, .ref rf_o), (2, .int x2), (3, .int x3), (4, .int x4)] [.int (Int32.ofInt 1), .ref rf_o] s (by repeat (first | exact trivial | refine ⟨rfl, ?_⟩)) (by decide +kernel) ?_
      exact rf_R_le (l := []) rfl rfl trivial (wr_giveRight_106_ok h)
/-- giveRight ()V, from 67 on -/
def wr_giveRight_67 (d : Nat) (x2 : Int32) (x3 : Int32) (x4 : Int32) (s : rf_S) (Q : rf_S → Prop) : Prop := rf_V d 57 [(0, .ref rf_o)] s (fun s1 => ((x2 = ((Int8.ofInt 69).toInt32) → wr_giveRight_83 d x2 x3 x4 s1 Q) ∧ (¬ (x2 = ((Int8.ofInt 69).toInt32)) → ((¬ x2 = ((Int8.ofInt 60).toInt32) → ((¬ x2 = ((Int8.ofInt 43).toInt32) → ((¬ x2 = ((Int8.ofInt 45).toInt32) → ((¬ x2 = ((Int8.ofInt 42).toInt32) → ((¬ x2 = ((Int8.ofInt 47).toInt32) → (¬ x4 = 0 ∧ wr_giveRight_174 d (x3 - x3 / x4 * x4) s1 Q)) ∧ (x2 = ((Int8.ofInt 47).toInt32) → (¬ x4 = 0 ∧ wr_giveRight_174 d (x3 / x4) s1 Q)))) ∧ (x2 = ((Int8.ofInt 42).toInt32) → wr_giveRight_174 d (x3 * x4) s1 Q))) ∧ (x2 = ((Int8.ofInt 45).toInt32) → wr_giveRight_174 d (x3 - x4) s1 Q))) ∧ (x2 = ((Int8.ofInt 43).toInt32) → wr_giveRight_174 d (x3 + x4) s1 Q))) ∧ (x2 = ((Int8.ofInt 60).toInt32) → wr_giveRight_83 d x2 x3 x4 s1 Q)))))
set_option maxRecDepth 20000 in
theorem wr_giveRight_67_ok {d : Nat} {x2 : Int32} {x3 : Int32} {x4 : Int32} {s : rf_S} {Q : rf_S → Prop} (h : wr_giveRight_67 d x2 x3 x4 s Q) : rf_R (d + 1) 80 (67, [(0, .ref rf_o), (2, .int x2), (3, .int x3), (4, .int x4)], [], s) (rf_qV Q) := by
  unfold wr_giveRight_67 at h
  refine rf_R_wv rp_80 (rf_bk am_t80 39 1) 67 [(0, .ref rf_o), (2, .int x2), (3, .int x3), (4, .int x4)] [] s (by repeat (first | exact trivial | refine ⟨rfl, ?_⟩)) (by decide +kernel) ?_
  refine rf_R_call (pc := 68) (q := ([.ref rf_o], [])) rp_80 rfl rfl (by decide) rp_57 rfl (Nat.le_of_ble_eq_true rfl) ⟨rfl, Nat.le_of_ble_eq_true rfl⟩ h (fun v s1 h => ?_)
  obtain ⟨rfl, h⟩ := h
  refine rf_R_wv rp_80 (rf_bk am_t80 41 3) 71 [(0, .ref rf_o), (2, .int x2), (3, .int x3), (4, .int x4)] [] s1 (by repeat (first | exact trivial | refine ⟨rfl, ?_⟩)) (by decide +kernel) ?_
  refine rf_R_if (b := am_cnd .eq x2 ((Int8.ofInt 69).toInt32)) (p := 83) (q := 77) (fun hb => ?_) (fun hb => ?_)
  · replace h := h.1 (of_decide_eq_true hb)
    exact rf_R_le (l := [(0, .ref rf_o), (2, .int x2), (3, .int x3), (4, .int x4)]) rfl rfl (⟨rfl, rfl, rfl, rfl, trivial⟩) (wr_giveRight_83_ok h)
  · replace h := h.2 (of_decide_eq_false hb)
    refine rf_R_wv rp_80 (rf_bk am_t80 44 3) 77 [(0, .ref rf_o), (2, .int x2), (3, .int x3), (4, .int x4)] [] s1 (by repeat (first | exact trivial | refine ⟨rfl, ?_⟩)) (by decide +kernel) ?_
    refine rf_R_if (b := am_cnd .ne x2 ((Int8.ofInt 60).toInt32)) (p := 118) (q := 83) (fun hb => ?_) (fun hb => ?_)
    · replace h := h.1 (of_decide_eq_true hb)
      refine rf_R_wv rp_80 (rf_bk am_t80 65 3) 118 [(0, .ref rf_o), (2, .int x2), (3, .int x3), (4, .int x4)] [] s1 (by repeat (first | exact trivial | refine ⟨rfl, ?_⟩)) (by decide +kernel) ?_
      refine rf_R_if (b := am_cnd .ne x2 ((Int8.ofInt 43).toInt32)) (p := 131) (q := 124) (fun hb => ?_) (fun hb => ?_)
      · replace h := h.1 (of_decide_eq_true hb)
        refine rf_R_wv rp_80 (rf_bk am_t80 72 3) 131 [(0, .ref rf_o), (2, .int x2), (3, .int x3), (4, .int x4)] [] s1 (by repeat (first | exact trivial | refine ⟨rfl, ?_⟩)) (by decide +kernel) ?_
        refine rf_R_if (b := am_cnd .ne x2 ((Int8.ofInt 45).toInt32)) (p := 144) (q := 137) (fun hb => ?_) (fun hb => ?_)
        · replace h := h.1 (of_decide_eq_true hb)
          refine rf_R_wv rp_80 (rf_bk am_t80 79 3) 144 [(0, .ref rf_o), (2, .int x2), (3, .int x3), (4, .int x4)] [] s1 (by repeat (first | exact trivial | refine ⟨rfl, ?_⟩)) (by decide +kernel) ?_
          refine rf_R_if (b := am_cnd .ne x2 ((Int8.ofInt 42).toInt32)) (p := 157) (q := 150) (fun hb => ?_) (fun hb => ?_)
          · replace h := h.1 (of_decide_eq_true hb)
            refine rf_R_wv rp_80 (rf_bk am_t80 86 3) 157 [(0, .ref rf_o), (2, .int x2), (3, .int x3), (4, .int x4)] [] s1 (by repeat (first | exact trivial | refine ⟨rfl, ?_⟩)) (by decide +kernel) ?_
            refine rf_R_if (b := am_cnd .ne x2 ((Int8.ofInt 47).toInt32)) (p := 170) (q := 163) (fun hb => ?_) (fun hb => ?_)
            · replace h := h.1 (of_decide_eq_true hb)
              refine rf_R_wv rp_80 (rf_bk am_t80 93 2) 170 [(0, .ref rf_o), (2, .int x2), (3, .int x3), (4, .int x4)] [] s1 (by repeat (first | exact trivial | refine ⟨rfl, ?_⟩)) (by decide +kernel) ?_
              refine rf_R_rem (pc := 173) rp_80 rfl h.1 ?_
              replace h := h.2
              exact rf_R_le (l := [(0, .ref rf_o)]) rfl rfl (⟨rfl, trivial⟩) (wr_giveRight_174_ok h)
            · replace h := h.2 (Decidable.not_not.mp (of_decide_eq_false hb))
              refine rf_R_wv rp_80 (rf_bk am_t80 89 2) 163 [(0, .ref rf_o), (2, .int x2), (3, .int x3), (4, .int x4)] [] s1 (by repeat (first | exact trivial | refine ⟨rfl, ?_⟩)) (by decide +kernel) ?_
              refine rf_R_div (pc := 166) rp_80 rfl h.1 ?_
              replace h := h.2
              refine rf_R_wv rp_80 (rf_bk am_t80 92 1) 167 [(0, .ref rf_o), (2, .int x2), (3, .int x3), (4, .int x4)] [.int (x3 / x4)] s1 (by repeat (first | exact trivial | refine ⟨rfl, ?_⟩)) (by decide +kernel) ?_
              exact rf_R_le (l := [(0, .ref rf_o)]) rfl rfl (⟨rfl, trivial⟩) (wr_giveRight_174_ok h)
          · replace h := h.2 (Decidable.not_not.mp (of_decide_eq_false hb))
            refine rf_R_wv rp_80 (rf_bk am_t80 82 4) 150 [(0, .ref rf_o), (2, .int x2), (3, .int x3), (4, .int x4)] [] s1 (by repeat (first | exact trivial | refine ⟨rfl, ?_⟩)) (by decide +kernel) ?_
            exact rf_R_le (l := [(0, .ref rf_o)]) rfl rfl (⟨rfl, trivial⟩) (wr_giveRight_174_ok h)
        · replace h := h.2 (Decidable.not_not.mp (of_decide_eq_false hb))
          refine rf_R_wv rp_80 (rf_bk am_t80 75 4) 137 [(0, .ref rf_o), (2, .int x2), (3, .int x3), (4, .int x4)] [] s1 (by repeat (first | exact trivial | refine ⟨rfl, ?_⟩)) (by decide +kernel) ?_
          exact rf_R_le (l := [(0, .ref rf_o)]) rfl rfl (⟨rfl, trivial⟩) (wr_giveRight_174_ok h)
      · replace h := h.2 (Decidable.not_not.mp (of_decide_eq_false hb))
        refine rf_R_wv rp_80 (rf_bk am_t80 68 4) 124 [(0, .ref rf_o), (2, .int x2), (3, .int x3), (4, .int x4)] [] s1 (by repeat (first | exact trivial | refine ⟨rfl, ?_⟩)) (by decide +kernel) ?_
        exact rf_R_le (l := [(0, .ref rf_o)]) rfl rfl (⟨rfl, trivial⟩) (wr_giveRight_174_ok h)
    · replace h := h.2 (Decidable.not_not.mp (of_decide_eq_false hb))
      exact rf_R_le (l := [(0, .ref rf_o), (2, .int x2), (3, .int x3), (4, .int x4)]) rfl rfl (⟨rfl, rfl, rfl, rfl, trivial⟩) (wr_giveRight_83_ok h)
/-- giveRight ()V, from 61 on -/
def wr_giveRight_61 (d : Nat) (s : rf_S) (Q : rf_S → Prop) : Prop := rf_V d 58 [(0, .ref rf_o), (1, .int (Int32.ofInt 5))] s (fun s1 => Q s1)
set_option maxRecDepth 20000 in
theorem wr_giveRight_61_ok {d : Nat} {s : rf_S} {Q : rf_S → Prop} (h : wr_giveRight_61 d s Q) : rf_R (d + 1) 80 (61, [(0, .ref rf_o)], [], s) (rf_qV Q) := by
  unfold wr_giveRight_61 at h
  refine rf_R_wv rp_80 (rf_bk am_t80 35 2) 61 [(0, .ref rf_o)] [] s (by repeat (first | exact trivial | refine ⟨rfl, ?_⟩)) (by decide +kernel) ?_
  refine rf_R_call (pc := 63) (q := ([.ref rf_o, .int (Int32.ofInt 5)], [])) rp_80 rfl rfl (by decide) rp_58 rfl (Nat.le_of_ble_eq_true rfl) ⟨rfl, Nat.le_of_ble_eq_true rfl⟩ h (fun v s1 h => ?_)
  obtain ⟨rfl, h⟩ := h
  exact rf_R_ret (pc := 66) rp_80 rfl rfl rfl ⟨rfl, h⟩
/-- giveRight ()V, from 0 on -/
def wr_giveRight (d : Nat) (s : rf_S) (Q : rf_S → Prop) : Prop := (rf_in ((s.1 65) - (Int32.ofInt 1)) 1600 ∧ rf_in ((s.1 65) - (Int32.ofInt 1)) 1600 ∧ rf_I d 45 [(0, .long (s.2.1 77))] s (fun r1 s1 => ((r1 = 0 → ((¬ ((s.2.1 77).toInt32) = 0 → wr_giveRight_67 d (s.2.2.1 67 ((s.1 65) - (Int32.ofInt 1)).toNatClampNeg) (s.2.2.1 68 ((s.1 65) - (Int32.ofInt 1)).toNatClampNeg) ((s.2.1 77).toInt32) s1 Q) ∧ (((s.2.1 77).toInt32) = 0 → (((s.2.2.1 67 ((s.1 65) - (Int32.ofInt 1)).toNatClampNeg) = ((Int8.ofInt 47).toInt32) → wr_giveRight_61 d s1 Q) ∧ (¬ ((s.2.2.1 67 ((s.1 65) - (Int32.ofInt 1)).toNatClampNeg) = ((Int8.ofInt 47).toInt32)) → ((¬ (s.2.2.1 67 ((s.1 65) - (Int32.ofInt 1)).toNatClampNeg) = ((Int8.ofInt 37).toInt32) → wr_giveRight_67 d (s.2.2.1 67 ((s.1 65) - (Int32.ofInt 1)).toNatClampNeg) (s.2.2.1 68 ((s.1 65) - (Int32.ofInt 1)).toNatClampNeg) ((s.2.1 77).toInt32) s1 Q) ∧ ((s.2.2.1 67 ((s.1 65) - (Int32.ofInt 1)).toNatClampNeg) = ((Int8.ofInt 37).toInt32) → wr_giveRight_61 d s1 Q))))))) ∧ (¬ (r1 = 0) → rf_V d 58 [(0, .ref rf_o), (1, .int (Int32.ofInt 4))] s1 (fun s2 => Q s2)))))
set_option maxRecDepth 20000 in
theorem wr_giveRight_ok {d : Nat} {s : rf_S} {Q : rf_S → Prop} (h : wr_giveRight d s Q) : rf_V (d + 1) 80 [(0, .ref rf_o)] s Q := by
  unfold wr_giveRight at h
  unfold rf_V
  refine rf_R_wv rp_80 (rf_bk am_t80 0 14) 0 [(0, .ref rf_o)] [] s (by repeat (first | exact trivial | refine ⟨rfl, ?_⟩)) (by decide +kernel) ?_
  refine And.intro h.1 ?_
  replace h := h.2
  refine And.intro h.1 ?_
  replace h := h.2
  refine rf_R_wv rp_80 (rf_bk am_t80 14 7) 20 [(2, .int (s.2.2.1 67 ((s.1 65) - (Int32.ofInt 1)).toNatClampNeg)), (1, .int ((s.1 65) - (Int32.ofInt 1))), (0, .ref rf_o)] [.int (s.2.2.1 68 ((s.1 65) - (Int32.ofInt 1)).toNatClampNeg)] s (by repeat (first | exact trivial | refine ⟨rfl, ?_⟩)) (by decide +kernel) ?_
  refine rf_R_call (pc := 32) (q := ([.long (s.2.1 77)], [])) rp_80 rfl rfl (by decide) rp_45 rfl (Nat.le_of_ble_eq_true rfl) ⟨rfl, Nat.le_of_ble_eq_true rfl⟩ h (fun v s1 h => ?_)
  obtain ⟨r1, rfl, h⟩ := h
  refine rf_R_wv rp_80 (rf_bk am_t80 22 1) 35 [(4, .int ((s.2.1 77).toInt32)), (3, .int (s.2.2.1 68 ((s.1 65) - (Int32.ofInt 1)).toNatClampNeg)), (2, .int (s.2.2.1 67 ((s.1 65) - (Int32.ofInt 1)).toNatClampNeg)), (1, .int ((s.1 65) - (Int32.ofInt 1))), (0, .ref rf_o)] [.int r1] s1 (by repeat (first | exact trivial | refine ⟨rfl, ?_⟩)) (by decide +kernel) ?_
  refine rf_R_if (b := am_cnd .eq r1 0) (p := 44) (q := 38) (fun hb => ?_) (fun hb => ?_)
  · replace h := h.1 (of_decide_eq_true hb)
    refine rf_R_wv rp_80 (rf_bk am_t80 27 2) 44 [(4, .int ((s.2.1 77).toInt32)), (3, .int (s.2.2.1 68 ((s.1 65) - (Int32.ofInt 1)).toNatClampNeg)), (2, .int (s.2.2.1 67 ((s.1 65) - (Int32.ofInt 1)).toNatClampNeg)), (1, .int ((s.1 65) - (Int32.ofInt 1))), (0, .ref rf_o)] [] s1 (by repeat (first | exact trivial | refine ⟨rfl, ?_⟩)) (by decide +kernel) ?_
    refine rf_R_if (b := am_cnd .ne ((s.2.1 77).toInt32) 0) (p := 67) (q := 49) (fun hb => ?_) (fun hb => ?_)
    · replace h := h.1 (of_decide_eq_true hb)
      exact rf_R_le (l := [(0, .ref rf_o), (2, .int (s.2.2.1 67 ((s.1 65) - (Int32.ofInt 1)).toNatClampNeg)), (3, .int (s.2.2.1 68 ((s.1 65) - (Int32.ofInt 1)).toNatClampNeg)), (4, .int ((s.2.1 77).toInt32))]) rfl rfl (⟨rfl, rfl, rfl, rfl, trivial⟩) (wr_giveRight_67_ok h)
    · replace h := h.2 (Decidable.not_not.mp (of_decide_eq_false hb))
      refine rf_R_wv rp_80 (rf_bk am_t80 29 3) 49 [(4, .int ((s.2.1 77).toInt32)), (3, .int (s.2.2.1 68 ((s.1 65) - (Int32.ofInt 1)).toNatClampNeg)), (2, .int (s.2.2.1 67 ((s.1 65) - (Int32.ofInt 1)).toNatClampNeg)), (1, .int ((s.1 65) - (Int32.ofInt 1))), (0, .ref rf_o)] [] s1 (by repeat (first | exact trivial | refine ⟨rfl, ?_⟩)) (by decide +kernel) ?_
      refine rf_R_if (b := am_cnd .eq (s.2.2.1 67 ((s.1 65) - (Int32.ofInt 1)).toNatClampNeg) ((Int8.ofInt 47).toInt32)) (p := 61) (q := 55) (fun hb => ?_) (fun hb => ?_)
      · replace h := h.1 (of_decide_eq_true hb)
        exact rf_R_le (l := [(0, .ref rf_o)]) rfl rfl (⟨rfl, trivial⟩) (wr_giveRight_61_ok h)
      · replace h := h.2 (of_decide_eq_false hb)
        refine rf_R_wv rp_80 (rf_bk am_t80 32 3) 55 [(4, .int ((s.2.1 77).toInt32)), (3, .int (s.2.2.1 68 ((s.1 65) - (Int32.ofInt 1)).toNatClampNeg)), (2, .int (s.2.2.1 67 ((s.1 65) - (Int32.ofInt 1)).toNatClampNeg)), (1, .int ((s.1 65) - (Int32.ofInt 1))), (0, .ref rf_o)] [] s1 (by repeat (first | exact trivial | refine ⟨rfl, ?_⟩)) (by decide +kernel) ?_
        refine rf_R_if (b := am_cnd .ne (s.2.2.1 67 ((s.1 65) - (Int32.ofInt 1)).toNatClampNeg) ((Int8.ofInt 37).toInt32)) (p := 67) (q := 61) (fun hb => ?_) (fun hb => ?_)
        · replace h := h.1 (of_decide_eq_true hb)
          exact rf_R_le (l := [(0, .ref rf_o), (2, .int (s.2.2.1 67 ((s.1 65) - (Int32.ofInt 1)).toNatClampNeg)), (3, .int (s.2.2.1 68 ((s.1 65) - (Int32.ofInt 1)).toNatClampNeg)), (4, .int ((s.2.1 77).toInt32))]) rfl rfl (⟨rfl, rfl, rfl, rfl, trivial⟩) (wr_giveRight_67_ok h)
        · replace h := h.2 (Decidable.not_not.mp (of_decide_eq_false hb))
          exact rf_R_le (l := [(0, .ref rf_o)]) rfl rfl (⟨rfl, trivial⟩) (wr_giveRight_61_ok h)
  · replace h := h.2 (of_decide_eq_false hb)
    refine rf_R_wv rp_80 (rf_bk am_t80 23 2) 38 [(4, .int ((s.2.1 77).toInt32)), (3, .int (s.2.2.1 68 ((s.1 65) - (Int32.ofInt 1)).toNatClampNeg)), (2, .int (s.2.2.1 67 ((s.1 65) - (Int32.ofInt 1)).toNatClampNeg)), (1, .int ((s.1 65) - (Int32.ofInt 1))), (0, .ref rf_o)] [] s1 (by repeat (first | exact trivial | refine ⟨rfl, ?_⟩)) (by decide +kernel) ?_
    refine rf_R_call (pc := 40) (q := ([.ref rf_o, .int (Int32.ofInt 4)], [])) rp_80 rfl rfl (by decide) rp_58 rfl (Nat.le_of_ble_eq_true rfl) ⟨rfl, Nat.le_of_ble_eq_true rfl⟩ h (fun v s2 h => ?_)
    obtain ⟨rfl, h⟩ := h
    exact rf_R_ret (pc := 43) rp_80 rfl rfl rfl ⟨rfl, h⟩
/-- giveCall ()V, from 737 on -/
def wr_giveCall_737 (d : Nat) (x13 : Int32) (s : rf_S) (Q : rf_S → Prop) : Prop := rf_V d 69 [(0, .ref rf_o), (1, .int x13)] s (fun s1 => Q s1)
set_option maxRecDepth 20000 in
theorem wr_giveCall_737_ok {d : Nat} {x13 : Int32} {s : rf_S} {Q : rf_S → Prop} (h : wr_giveCall_737 d x13 s Q) : rf_R (d + 1) 81 (737, [(0, .ref rf_o), (13, .int x13)], [], s) (rf_qV Q) := by
  unfold wr_giveCall_737 at h
  refine rf_R_wv rp_81 (rf_bk am_t81 415 2) 737 [(0, .ref rf_o), (13, .int x13)] [] s (by repeat (first | exact trivial | refine ⟨rfl, ?_⟩)) (by decide +kernel) ?_
  refine rf_R_call (pc := 740) (q := ([.ref rf_o, .int x13], [])) rp_81 rfl rfl (by decide) rp_69 rfl (Nat.le_of_ble_eq_true rfl) ⟨rfl, Nat.le_of_ble_eq_true rfl⟩ h (fun v s1 h => ?_)
  obtain ⟨rfl, h⟩ := h
  exact rf_R_ret (pc := 743) rp_81 rfl rfl rfl ⟨rfl, h⟩
/-- giveCall ()V, from 706 on -/
def wr_giveCall_706 (d : Nat) (x12 : Int32) (x13 : Int32) (x15 : Int32) (x16 : Int32) (s : rf_S) (Q : rf_S → Prop) : Prop := ((x12 ≤ x16 → rf_V d 55 [(0, .ref rf_o)] s (fun s1 => wr_giveCall_737 d x13 s1 Q)) ∧ (¬ (x12 ≤ x16) → (rf_in (x15 + x16) 6000 ∧ rf_V d 54 [(0, .ref rf_o), (1, .long (s.2.2.2 71 (x15 + x16).toNatClampNeg))] s (fun s2 => rf_R (d + 1) 81 (706, [(0, .ref rf_o), (12, .int x12), (13, .int x13), (15, .int x15), (16, .int (x16 + Int32.ofInt 1))], [], s2) (rf_qV Q)))))
set_option maxRecDepth 20000 in
theorem wr_giveCall_706_ok {d : Nat} {x12 : Int32} {x13 : Int32} {x15 : Int32} {x16 : Int32} {s : rf_S} {Q : rf_S → Prop} (h : wr_giveCall_706 d x12 x13 x15 x16 s Q) : rf_R (d + 1) 81 (706, [(0, .ref rf_o), (12, .int x12), (13, .int x13), (15, .int x15), (16, .int x16)], [], s) (rf_qV Q) := by
  unfold wr_giveCall_706 at h
  refine rf_R_wv rp_81 (rf_bk am_t81 400 3) 706 [(0, .ref rf_o), (12, .int x12), (13, .int x13), (15, .int x15), (16, .int x16)] [] s (by repeat (first | exact trivial | refine ⟨rfl, ?_⟩)) (by decide +kernel) ?_
  refine rf_R_if (b := am_cnd .ge x16 x12) (p := 733) (q := 713) (fun hb => ?_) (fun hb => ?_)
  · replace h := h.1 (of_decide_eq_true hb)
    refine rf_R_wv rp_81 (rf_bk am_t81 413 1) 733 [(0, .ref rf_o), (12, .int x12), (13, .int x13), (15, .int x15), (16, .int x16)] [] s (by repeat (first | exact trivial | refine ⟨rfl, ?_⟩)) (by decide +kernel) ?_
    refine rf_R_call (pc := 734) (q := ([.ref rf_o], [])) rp_81 rfl rfl (by decide) rp_55 rfl (Nat.le_of_ble_eq_true rfl) ⟨rfl, Nat.le_of_ble_eq_true rfl⟩ h (fun v s1 h => ?_)
    obtain ⟨rfl, h⟩ := h
    exact rf_R_le (l := [(0, .ref rf_o), (13, .int x13)]) rfl rfl (⟨rfl, rfl, trivial⟩) (wr_giveCall_737_ok h)
  · replace h := h.2 (of_decide_eq_false hb)
    refine rf_R_wv rp_81 (rf_bk am_t81 403 7) 713 [(0, .ref rf_o), (12, .int x12), (13, .int x13), (15, .int x15), (16, .int x16)] [] s (by repeat (first | exact trivial | refine ⟨rfl, ?_⟩)) (by decide +kernel) ?_
    refine And.intro h.1 ?_
    replace h := h.2
    refine rf_R_call (pc := 724) (q := ([.ref rf_o, .long (s.2.2.2 71 (x15 + x16).toNatClampNeg)], [])) rp_81 rfl rfl (by decide) rp_54 rfl (Nat.le_of_ble_eq_true rfl) ⟨rfl, Nat.le_of_ble_eq_true rfl⟩ h (fun v s2 h => ?_)
    obtain ⟨rfl, h⟩ := h
    refine rf_R_wv rp_81 (rf_bk am_t81 411 2) 727 [(0, .ref rf_o), (12, .int x12), (13, .int x13), (15, .int x15), (16, .int x16)] [] s2 (by repeat (first | exact trivial | refine ⟨rfl, ?_⟩)) (by decide +kernel) ?_
    exact rf_R_le (l := [(0, .ref rf_o), (12, .int x12), (13, .int x13), (15, .int x15), (16, .int (x16 + Int32.ofInt 1))]) rfl rfl (⟨rfl, rfl, rfl, rfl, rfl, trivial⟩) h
/-- giveCall ()V, from 666 on -/
def wr_giveCall_666 (d : Nat) (x1 : Int32) (x2 : Int32) (x6 : Int32) (x10 : Int32) (x12 : Int32) (x13 : Int32) (x14 : Int32) (x15 : Int32) (y0 : Int64) (y1 : Int32) (s : rf_S) (Q : rf_S → Prop) : Prop := (rf_in y1 1100 ∧ rf_R (d + 1) 81 (598, [(0, .ref rf_o), (1, .int x1), (2, .int x2), (6, .int x6), (10, .int x10), (12, .int x12), (13, .int x13), (14, .int x14), (15, .int (x15 + Int32.ofInt 1))], [], (rf_sL s 78 y1.toNatClampNeg y0)) (rf_qV Q))
set_option maxRecDepth 20000 in
theorem wr_giveCall_666_ok {d : Nat} {x1 : Int32} {x2 : Int32} {x6 : Int32} {x10 : Int32} {x12 : Int32} {x13 : Int32} {x14 : Int32} {x15 : Int32} {y0 : Int64} {y1 : Int32} {s : rf_S} {Q : rf_S → Prop} (h : wr_giveCall_666 d x1 x2 x6 x10 x12 x13 x14 x15 y0 y1 s Q) : rf_R (d + 1) 81 (666, [(0, .ref rf_o), (1, .int x1), (2, .int x2), (6, .int x6), (10, .int x10), (12, .int x12), (13, .int x13), (14, .int x14), (15, .int x15)], [.long y0, .int y1, .ref (rf_ad 78)], s) (rf_qV Q) := by
  unfold wr_giveCall_666 at h
  refine rf_R_wv rp_81 (rf_bk am_t81 376 1) 666 [(0, .ref rf_o), (1, .int x1), (2, .int x2), (6, .int x6), (10, .int x10), (12, .int x12), (13, .int x13), (14, .int x14), (15, .int x15)] [.long y0, .int y1, .ref (rf_ad 78)] s (by repeat (first | exact trivial | refine ⟨rfl, ?_⟩)) (by decide +kernel) ?_
  refine And.intro h.1 ?_
  replace h := h.2
  refine rf_R_wv rp_81 (rf_bk am_t81 377 2) 667 [(0, .ref rf_o), (1, .int x1), (2, .int x2), (6, .int x6), (10, .int x10), (12, .int x12), (13, .int x13), (14, .int x14), (15, .int x15)] [] (rf_sL s 78 y1.toNatClampNeg y0) (by repeat (first | exact trivial | refine ⟨rfl, ?_⟩)) (by decide +kernel) ?_
  exact rf_R_le (l := [(0, .ref rf_o), (1, .int x1), (2, .int x2), (6, .int x6), (10, .int x10), (12, .int x12), (13, .int x13), (14, .int x14), (15, .int (x15 + Int32.ofInt 1))]) rfl rfl (⟨rfl, rfl, rfl, rfl, rfl, rfl, rfl, rfl, rfl, trivial⟩) h
/-- giveCall ()V, from 598 on -/
def wr_giveCall_598 (d : Nat) (x1 : Int32) (x2 : Int32) (x6 : Int32) (x10 : Int32) (x12 : Int32) (x13 : Int32) (x14 : Int32) (x15 : Int32) (s : rf_S) (Q : rf_S → Prop) : Prop := ((x10 ≤ x15 → (rf_in x1 1601 ∧ rf_V d 57 [(0, .ref rf_o)] s (fun s1 => ((x12 ≤ 0 → wr_giveCall_737 d x13 s1 Q) ∧ (¬ (x12 ≤ 0) → rf_V d 53 [(0, .ref rf_o), (1, .int (Int32.ofInt 4)), (2, .int (Int32.ofInt 0)), (3, .int (Int32.ofInt 0)), (4, .int (Int32.ofInt 0))] s1 (fun s2 => rf_R (d + 1) 81 (706, [(0, .ref rf_o), (12, .int x12), (13, .int x13), (15, .int (((s.2.2.1 70 x1.toNatClampNeg) + x2) - x12)), (16, .int (Int32.ofInt 0))], [], s2) (rf_qV Q))))))) ∧ (¬ (x10 ≤ x15) → (rf_in (x14 + x15) 9000 ∧ ((x6 ≤ x15 → (rf_in x1 1601 ∧ rf_in (((s.2.2.1 70 x1.toNatClampNeg) + x15) - x6) 6000 ∧ wr_giveCall_666 d x1 x2 x6 x10 x12 x13 x14 x15 (s.2.2.2 71 (((s.2.2.1 70 x1.toNatClampNeg) + x15) - x6).toNatClampNeg) (s.2.2.1 17 (x14 + x15).toNatClampNeg) s Q)) ∧ (¬ (x6 ≤ x15) → (rf_in ((s.2.1 77).toInt32) 36001 ∧ rf_in (((s.2.2.1 51 ((s.2.1 77).toInt32).toNatClampNeg) + (Int32.ofInt 1)) + x15) 47000 ∧ wr_giveCall_666 d x1 x2 x6 x10 x12 x13 x14 x15 (s.2.2.2 58 (((s.2.2.1 51 ((s.2.1 77).toInt32).toNatClampNeg) + (Int32.ofInt 1)) + x15).toNatClampNeg) (s.2.2.1 17 (x14 + x15).toNatClampNeg) s Q))))))
set_option maxRecDepth 20000 in
theorem wr_giveCall_598_ok {d : Nat} {x1 : Int32} {x2 : Int32} {x6 : Int32} {x10 : Int32} {x12 : Int32} {x13 : Int32} {x14 : Int32} {x15 : Int32} {s : rf_S} {Q : rf_S → Prop} (h : wr_giveCall_598 d x1 x2 x6 x10 x12 x13 x14 x15 s Q) : rf_R (d + 1) 81 (598, [(0, .ref rf_o), (1, .int x1), (2, .int x2), (6, .int x6), (10, .int x10), (12, .int x12), (13, .int x13), (14, .int x14), (15, .int x15)], [], s) (rf_qV Q) := by
  unfold wr_giveCall_598 at h
  refine rf_R_wv rp_81 (rf_bk am_t81 337 3) 598 [(0, .ref rf_o), (1, .int x1), (2, .int x2), (6, .int x6), (10, .int x10), (12, .int x12), (13, .int x13), (14, .int x14), (15, .int x15)] [] s (by repeat (first | exact trivial | refine ⟨rfl, ?_⟩)) (by decide +kernel) ?_
  refine rf_R_if (b := am_cnd .ge x15 x10) (p := 673) (q := 605) (fun hb => ?_) (fun hb => ?_)
  · replace h := h.1 (of_decide_eq_true hb)
    refine rf_R_wv rp_81 (rf_bk am_t81 379 10) 673 [(0, .ref rf_o), (1, .int x1), (2, .int x2), (6, .int x6), (10, .int x10), (12, .int x12), (13, .int x13), (14, .int x14), (15, .int x15)] [] s (by repeat (first | exact trivial | refine ⟨rfl, ?_⟩)) (by decide +kernel) ?_
    refine And.intro h.1 ?_
    replace h := h.2
    refine rf_R_call (pc := 687) (q := ([.ref rf_o], [])) rp_81 rfl rfl (by decide) rp_57 rfl (Nat.le_of_ble_eq_true rfl) ⟨rfl, Nat.le_of_ble_eq_true rfl⟩ h (fun v s1 h => ?_)
    obtain ⟨rfl, h⟩ := h
    refine rf_R_wv rp_81 (rf_bk am_t81 390 2) 690 [(15, .int (((s.2.2.1 70 x1.toNatClampNeg) + x2) - x12)), (0, .ref rf_o), (1, .int x1), (2, .int x2), (6, .int x6), (10, .int x10), (12, .int x12), (13, .int x13), (14, .int x14)] [] s1 (by repeat (first | exact trivial | refine ⟨rfl, ?_⟩)) (by decide +kernel) ?_
    refine rf_R_if (b := am_cnd .le x12 0) (p := 737) (q := 695) (fun hb => ?_) (fun hb => ?_)
    · replace h := h.1 (of_decide_eq_true hb)
      exact rf_R_le (l := [(0, .ref rf_o), (13, .int x13)]) rfl rfl (⟨rfl, rfl, trivial⟩) (wr_giveCall_737_ok h)
    · replace h := h.2 (of_decide_eq_false hb)
      refine rf_R_wv rp_81 (rf_bk am_t81 392 5) 695 [(15, .int (((s.2.2.1 70 x1.toNatClampNeg) + x2) - x12)), (0, .ref rf_o), (1, .int x1), (2, .int x2), (6, .int x6), (10, .int x10), (12, .int x12), (13, .int x13), (14, .int x14)] [] s1 (by repeat (first | exact trivial | refine ⟨rfl, ?_⟩)) (by decide +kernel) ?_
      refine rf_R_call (pc := 700) (q := ([.ref rf_o, .int (Int32.ofInt 4), .int (Int32.ofInt 0), .int (Int32.ofInt 0), .int (Int32.ofInt 0)], [])) rp_81 rfl rfl (by decide) rp_53 rfl (Nat.le_of_ble_eq_true rfl) ⟨rfl, Nat.le_of_ble_eq_true rfl⟩ h (fun v s2 h => ?_)
      obtain ⟨rfl, h⟩ := h
      refine rf_R_wv rp_81 (rf_bk am_t81 398 2) 703 [(15, .int (((s.2.2.1 70 x1.toNatClampNeg) + x2) - x12)), (0, .ref rf_o), (1, .int x1), (2, .int x2), (6, .int x6), (10, .int x10), (12, .int x12), (13, .int x13), (14, .int x14)] [] s2 (by repeat (first | exact trivial | refine ⟨rfl, ?_⟩)) (by decide +kernel) ?_
      exact rf_R_le (l := [(0, .ref rf_o), (12, .int x12), (13, .int x13), (15, .int (((s.2.2.1 70 x1.toNatClampNeg) + x2) - x12)), (16, .int (Int32.ofInt 0))]) rfl rfl (⟨rfl, rfl, rfl, rfl, rfl, trivial⟩) h
  · replace h := h.2 (of_decide_eq_false hb)
    refine rf_R_wv rp_81 (rf_bk am_t81 340 11) 605 [(0, .ref rf_o), (1, .int x1), (2, .int x2), (6, .int x6), (10, .int x10), (12, .int x12), (13, .int x13), (14, .int x14), (15, .int x15)] [] s (by repeat (first | exact trivial | refine ⟨rfl, ?_⟩)) (by decide +kernel) ?_
    refine And.intro h.1 ?_
    replace h := h.2
    refine rf_R_if (b := am_cnd .ge x15 x6) (p := 649) (q := 626) (fun hb => ?_) (fun hb => ?_)
    · replace h := h.1 (of_decide_eq_true hb)
      refine rf_R_wv rp_81 (rf_bk am_t81 365 11) 649 [(0, .ref rf_o), (1, .int x1), (2, .int x2), (6, .int x6), (10, .int x10), (12, .int x12), (13, .int x13), (14, .int x14), (15, .int x15)] [.int (s.2.2.1 17 (x14 + x15).toNatClampNeg), .ref (rf_ad 78)] s (by repeat (first | exact trivial | refine ⟨rfl, ?_⟩)) (by decide +kernel) ?_
      refine And.intro h.1 ?_
      replace h := h.2
      refine And.intro h.1 ?_
      replace h := h.2
      exact rf_R_le (l := [(0, .ref rf_o), (1, .int x1), (2, .int x2), (6, .int x6), (10, .int x10), (12, .int x12), (13, .int x13), (14, .int x14), (15, .int x15)]) rfl rfl (⟨rfl, rfl, rfl, rfl, rfl, rfl, rfl, rfl, rfl, trivial⟩) (wr_giveCall_666_ok h)
    · replace h := h.2 (of_decide_eq_false hb)
      refine rf_R_wv rp_81 (rf_bk am_t81 351 14) 626 [(0, .ref rf_o), (1, .int x1), (2, .int x2), (6, .int x6), (10, .int x10), (12, .int x12), (13, .int x13), (14, .int x14), (15, .int x15)] [.int (s.2.2.1 17 (x14 + x15).toNatClampNeg), .ref (rf_ad 78)] s (by repeat (first | exact trivial | refine ⟨rfl, ?_⟩)) (by decide +kernel) ?_
      refine And.intro h.1 ?_
      replace h := h.2
      refine And.intro h.1 ?_
      replace h := h.2
      exact rf_R_le (l := [(0, .ref rf_o), (1, .int x1), (2, .int x2), (6, .int x6), (10, .int x10), (12, .int x12), (13, .int x13), (14, .int x14), (15, .int x15)]) rfl rfl (⟨rfl, rfl, rfl, rfl, rfl, rfl, rfl, rfl, rfl, trivial⟩) (wr_giveCall_666_ok h)
/-- giveCall ()V, from 595 on -/
def wr_giveCall_595 (d : Nat) (x1 : Int32) (x2 : Int32) (x6 : Int32) (x10 : Int32) (x12 : Int32) (x13 : Int32) (x14 : Int32) (s : rf_S) (Q : rf_S → Prop) : Prop := rf_R (d + 1) 81 (598, [(0, .ref rf_o), (1, .int x1), (2, .int x2), (6, .int x6), (10, .int x10), (12, .int x12), (13, .int x13), (14, .int x14), (15, .int (Int32.ofInt 0))], [], s) (rf_qV Q)
set_option maxRecDepth 20000 in
theorem wr_giveCall_595_ok {d : Nat} {x1 : Int32} {x2 : Int32} {x6 : Int32} {x10 : Int32} {x12 : Int32} {x13 : Int32} {x14 : Int32} {s : rf_S} {Q : rf_S → Prop} (h : wr_giveCall_595 d x1 x2 x6 x10 x12 x13 x14 s Q) : rf_R (d + 1) 81 (595, [(0, .ref rf_o), (1, .int x1), (2, .int x2), (6, .int x6), (10, .int x10), (12, .int x12), (13, .int x13), (14, .int x14)], [], s) (rf_qV Q) := by
  unfold wr_giveCall_595 at h
  refine rf_R_wv rp_81 (rf_bk am_t81 335 2) 595 [(0, .ref rf_o), (1, .int x1), (2, .int x2), (6, .int x6), (10, .int x10), (12, .int x12), (13, .int x13), (14, .int x14)] [] s (by repeat (first | exact trivial | refine ⟨rfl, ?_⟩)) (by decide +kernel) ?_
  exact rf_R_le (l := [(0, .ref rf_o), (1, .int x1), (2, .int x2), (6, .int x6), (10, .int x10), (12, .int x12), (13, .int x13), (14, .int x14), (15, .int (Int32.ofInt 0))]) rfl rfl (⟨rfl, rfl, rfl, rfl, rfl, rfl, rfl, rfl, rfl, trivial⟩) h
/-- giveCall ()V, from 547 on -/
def wr_giveCall_547 (d : Nat) (x1 : Int32) (x2 : Int32) (x6 : Int32) (x10 : Int32) (x12 : Int32) (x13 : Int32) (x14 : Int32) (x15 : Int32) (x16 : Int32) (x17 : Int32) (s : rf_S) (Q : rf_S → Prop) : Prop := (rf_in x15 36000 ∧ (((s.2.2.1 52 x15.toNatClampNeg) ≤ x17 → wr_giveCall_595 d x1 x2 x6 x10 x12 x13 x14 s Q) ∧ (¬ ((s.2.2.1 52 x15.toNatClampNeg) ≤ x17) → (rf_in (x16 + x17) 131072 ∧ rf_in x15 36001 ∧ (rf_in ((s.2.2.1 51 x15.toNatClampNeg) + x17) 47000 ∧ rf_in (s.2.2.1 21 (x16 + x17).toNatClampNeg) 1100 ∧ rf_R (d + 1) 81 (547, [(0, .ref rf_o), (1, .int x1), (2, .int x2), (6, .int x6), (10, .int x10), (12, .int x12), (13, .int x13), (14, .int x14), (15, .int x15), (16, .int x16), (17, .int (x17 + Int32.ofInt 1))], [], (rf_sL s 78 (s.2.2.1 21 (x16 + x17).toNatClampNeg).toNatClampNeg (s.2.2.2 58 ((s.2.2.1 51 x15.toNatClampNeg) + x17).toNatClampNeg))) (rf_qV Q))))))
set_option maxRecDepth 20000 in
theorem wr_giveCall_547_ok {d : Nat} {x1 : Int32} {x2 : Int32} {x6 : Int32} {x10 : Int32} {x12 : Int32} {x13 : Int32} {x14 : Int32} {x15 : Int32} {x16 : Int32} {x17 : Int32} {s : rf_S} {Q : rf_S → Prop} (h : wr_giveCall_547 d x1 x2 x6 x10 x12 x13 x14 x15 x16 x17 s Q) : rf_R (d + 1) 81 (547, [(0, .ref rf_o), (1, .int x1), (2, .int x2), (6, .int x6), (10, .int x10), (12, .int x12), (13, .int x13), (14, .int x14), (15, .int x15), (16, .int x16), (17, .int x17)], [], s) (rf_qV Q) := by
  unfold wr_giveCall_547 at h
  refine rf_R_wv rp_81 (rf_bk am_t81 309 6) 547 [(0, .ref rf_o), (1, .int x1), (2, .int x2), (6, .int x6), (10, .int x10), (12, .int x12), (13, .int x13), (14, .int x14), (15, .int x15), (16, .int x16), (17, .int x17)] [] s (by repeat (first | exact trivial | refine ⟨rfl, ?_⟩)) (by decide +kernel) ?_
  refine And.intro h.1 ?_
  replace h := h.2
  refine rf_R_if (b := am_cnd .ge x17 (s.2.2.1 52 x15.toNatClampNeg)) (p := 595) (q := 559) (fun hb => ?_) (fun hb => ?_)
  · replace h := h.1 (of_decide_eq_true hb)
    exact rf_R_le (l := [(0, .ref rf_o), (1, .int x1), (2, .int x2), (6, .int x6), (10, .int x10), (12, .int x12), (13, .int x13), (14, .int x14)]) rfl rfl (⟨rfl, rfl, rfl, rfl, rfl, rfl, rfl, rfl, trivial⟩) (wr_giveCall_595_ok h)
  · replace h := h.2 (of_decide_eq_false hb)
    refine rf_R_wv rp_81 (rf_bk am_t81 315 14) 559 [(0, .ref rf_o), (1, .int x1), (2, .int x2), (6, .int x6), (10, .int x10), (12, .int x12), (13, .int x13), (14, .int x14), (15, .int x15), (16, .int x16), (17, .int x17)] [] s (by repeat (first | exact trivial | refine ⟨rfl, ?_⟩)) (by decide +kernel) ?_
    refine And.intro h.1 ?_
    replace h := h.2
    refine And.intro h.1 ?_
    replace h := h.2
    refine rf_R_wv rp_81 (rf_bk am_t81 329 4) 584 [(0, .ref rf_o), (1, .int x1), (2, .int x2), (6, .int x6), (10, .int x10), (12, .int x12), (13, .int x13), (14, .int x14), (15, .int x15), (16, .int x16), (17, .int x17)] [.int (s.2.2.1 51 x15.toNatClampNeg), .ref (rf_ad 58), .int (s.2.2.1 21 (x16 + x17).toNatClampNeg), .ref (rf_ad 78)] s (by repeat (first | exact trivial | refine ⟨rfl, ?_⟩)) (by decide +kernel) ?_
    refine And.intro h.1 ?_
    replace h := h.2
    refine And.intro h.1 ?_
    replace h := h.2
    refine rf_R_wv rp_81 (rf_bk am_t81 333 2) 589 [(0, .ref rf_o), (1, .int x1), (2, .int x2), (6, .int x6), (10, .int x10), (12, .int x12), (13, .int x13), (14, .int x14), (15, .int x15), (16, .int x16), (17, .int x17)] [] (rf_sL s 78 (s.2.2.1 21 (x16 + x17).toNatClampNeg).toNatClampNeg (s.2.2.2 58 ((s.2.2.1 51 x15.toNatClampNeg) + x17).toNatClampNeg)) (by repeat (first | exact trivial | refine ⟨rfl, ?_⟩)) (by decide +kernel) ?_
    exact rf_R_le (l := [(0, .ref rf_o), (1, .int x1), (2, .int x2), (6, .int x6), (10, .int x10), (12, .int x12), (13, .int x13), (14, .int x14), (15, .int x15), (16, .int x16), (17, .int (x17 + Int32.ofInt 1))]) rfl rfl (⟨rfl, rfl, rfl, rfl, rfl, rfl, rfl, rfl, rfl, rfl, rfl, trivial⟩) h
/-- giveCall ()V, from 518 on -/
def wr_giveCall_518 (d : Nat) (x1 : Int32) (x2 : Int32) (x6 : Int32) (x7 : Int64) (x9 : Int32) (x10 : Int32) (x12 : Int32) (x13 : Int32) (y0 : Int32) (s : rf_S) (Q : rf_S → Prop) : Prop := ((¬ x9 = 0 → wr_giveCall_595 d x1 x2 x6 x10 x12 x13 y0 s Q) ∧ (x9 = 0 → (rf_in (x7.toInt32) 36000 ∧ rf_in (s.2.2.1 50 (x7.toInt32).toNatClampNeg) 2101 ∧ rf_R (d + 1) 81 (547, [(0, .ref rf_o), (1, .int x1), (2, .int x2), (6, .int x6), (10, .int x10), (12, .int x12), (13, .int x13), (14, .int y0), (15, .int (x7.toInt32)), (16, .int (s.2.2.1 20 (s.2.2.1 50 (x7.toInt32).toNatClampNeg).toNatClampNeg)), (17, .int (Int32.ofInt 0))], [], s) (rf_qV Q))))
set_option maxRecDepth 20000 in
theorem wr_giveCall_518_ok {d : Nat} {x1 : Int32} {x2 : Int32} {x6 : Int32} {x7 : Int64} {x9 : Int32} {x10 : Int32} {x12 : Int32} {x13 : Int32} {y0 : Int32} {s : rf_S} {Q : rf_S → Prop} (h : wr_giveCall_518 d x1 x2 x6 x7 x9 x10 x12 x13 y0 s Q) : rf_R (d + 1) 81 (518, [(0, .ref rf_o), (1, .int x1), (2, .int x2), (6, .int x6), (7, .long x7), (9, .int x9), (10, .int x10), (12, .int x12), (13, .int x13)], [.int y0], s) (rf_qV Q) := by
  unfold wr_giveCall_518 at h
  refine rf_R_wv rp_81 (rf_bk am_t81 293 3) 518 [(0, .ref rf_o), (1, .int x1), (2, .int x2), (6, .int x6), (7, .long x7), (9, .int x9), (10, .int x10), (12, .int x12), (13, .int x13)] [.int y0] s (by repeat (first | exact trivial | refine ⟨rfl, ?_⟩)) (by decide +kernel) ?_
  refine rf_R_if (b := am_cnd .ne x9 0) (p := 595) (q := 525) (fun hb => ?_) (fun hb => ?_)
  · replace h := h.1 (of_decide_eq_true hb)
    exact rf_R_le (l := [(0, .ref rf_o), (1, .int x1), (2, .int x2), (6, .int x6), (10, .int x10), (12, .int x12), (13, .int x13), (14, .int y0)]) rfl rfl (⟨rfl, rfl, rfl, rfl, rfl, rfl, rfl, rfl, trivial⟩) (wr_giveCall_595_ok h)
  · replace h := h.2 (Decidable.not_not.mp (of_decide_eq_false hb))
    refine rf_R_wv rp_81 (rf_bk am_t81 296 13) 525 [(14, .int y0), (0, .ref rf_o), (1, .int x1), (2, .int x2), (6, .int x6), (7, .long x7), (9, .int x9), (10, .int x10), (12, .int x12), (13, .int x13)] [] s (by repeat (first | exact trivial | refine ⟨rfl, ?_⟩)) (by decide +kernel) ?_
    refine And.intro h.1 ?_
    replace h := h.2
    refine And.intro h.1 ?_
    replace h := h.2
    exact rf_R_le (l := [(0, .ref rf_o), (1, .int x1), (2, .int x2), (6, .int x6), (10, .int x10), (12, .int x12), (13, .int x13), (14, .int y0), (15, .int (x7.toInt32)), (16, .int (s.2.2.1 20 (s.2.2.1 50 (x7.toInt32).toNatClampNeg).toNatClampNeg)), (17, .int (Int32.ofInt 0))]) rfl rfl (⟨rfl, rfl, rfl, rfl, rfl, rfl, rfl, rfl, rfl, rfl, rfl, trivial⟩) h
/-- giveCall ()V, from 487 on -/
def wr_giveCall_487 (d : Nat) (x1 : Int32) (x2 : Int32) (x6 : Int32) (x7 : Int64) (x9 : Int32) (x10 : Int32) (x12 : Int32) (y0 : Int32) (s : rf_S) (Q : rf_S → Prop) : Prop := ((x9 = 0 → (rf_in (x7.toInt32) 36000 ∧ rf_in (s.2.2.1 50 (x7.toInt32).toNatClampNeg) 2100 ∧ wr_giveCall_518 d x1 x2 x6 x7 x9 x10 x12 y0 (s.2.2.1 13 (s.2.2.1 50 (x7.toInt32).toNatClampNeg).toNatClampNeg) s Q)) ∧ (¬ (x9 = 0) → (rf_in (x7.toInt32) 700 ∧ wr_giveCall_518 d x1 x2 x6 x7 x9 x10 x12 y0 (s.2.2.1 44 (x7.toInt32).toNatClampNeg) s Q)))
set_option maxRecDepth 20000 in
theorem wr_giveCall_487_ok {d : Nat} {x1 : Int32} {x2 : Int32} {x6 : Int32} {x7 : Int64} {x9 : Int32} {x10 : Int32} {x12 : Int32} {y0 : Int32} {s : rf_S} {Q : rf_S → Prop} (h : wr_giveCall_487 d x1 x2 x6 x7 x9 x10 x12 y0 s Q) : rf_R (d + 1) 81 (487, [(0, .ref rf_o), (1, .int x1), (2, .int x2), (6, .int x6), (7, .long x7), (9, .int x9), (10, .int x10), (12, .int x12)], [.int y0], s) (rf_qV Q) := by
  unfold wr_giveCall_487 at h
  refine rf_R_wv rp_81 (rf_bk am_t81 276 3) 487 [(0, .ref rf_o), (1, .int x1), (2, .int x2), (6, .int x6), (7, .long x7), (9, .int x9), (10, .int x10), (12, .int x12)] [.int y0] s (by repeat (first | exact trivial | refine ⟨rfl, ?_⟩)) (by decide +kernel) ?_
  refine rf_R_if (b := am_cnd .eq x9 0) (p := 505) (q := 494) (fun hb => ?_) (fun hb => ?_)
  · replace h := h.1 (of_decide_eq_true hb)
    refine rf_R_wv rp_81 (rf_bk am_t81 285 8) 505 [(13, .int y0), (0, .ref rf_o), (1, .int x1), (2, .int x2), (6, .int x6), (7, .long x7), (9, .int x9), (10, .int x10), (12, .int x12)] [] s (by repeat (first | exact trivial | refine ⟨rfl, ?_⟩)) (by decide +kernel) ?_
    refine And.intro h.1 ?_
    replace h := h.2
    refine And.intro h.1 ?_
    replace h := h.2
    exact rf_R_le (l := [(0, .ref rf_o), (1, .int x1), (2, .int x2), (6, .int x6), (7, .long x7), (9, .int x9), (10, .int x10), (12, .int x12), (13, .int y0)]) rfl rfl (⟨rfl, rfl, rfl, rfl, rfl, rfl, rfl, rfl, rfl, trivial⟩) (wr_giveCall_518_ok h)
  · replace h := h.2 (of_decide_eq_false hb)
    refine rf_R_wv rp_81 (rf_bk am_t81 279 6) 494 [(13, .int y0), (0, .ref rf_o), (1, .int x1), (2, .int x2), (6, .int x6), (7, .long x7), (9, .int x9), (10, .int x10), (12, .int x12)] [] s (by repeat (first | exact trivial | refine ⟨rfl, ?_⟩)) (by decide +kernel) ?_
    refine And.intro h.1 ?_
    replace h := h.2
    exact rf_R_le (l := [(0, .ref rf_o), (1, .int x1), (2, .int x2), (6, .int x6), (7, .long x7), (9, .int x9), (10, .int x10), (12, .int x12), (13, .int y0)]) rfl rfl (⟨rfl, rfl, rfl, rfl, rfl, rfl, rfl, rfl, rfl, trivial⟩) (wr_giveCall_518_ok h)
/-- giveCall ()V, from 450 on -/
def wr_giveCall_450 (d : Nat) (x1 : Int32) (x2 : Int32) (x6 : Int32) (x7 : Int64) (x9 : Int32) (x10 : Int32) (x12 : Int32) (y0 : Int32) (s : rf_S) (Q : rf_S → Prop) : Prop := rf_I d 59 [(0, .ref rf_o), (1, .int y0), (2, .int (Int32.ofInt 0))] s (fun r1 s1 => ((¬ r1 = 0 → ((x9 = 0 → (rf_in (x7.toInt32) 36000 ∧ rf_in (s1.2.2.1 50 (x7.toInt32).toNatClampNeg) 2100 ∧ wr_giveCall_487 d x1 x2 x6 x7 x9 x10 x12 (s1.2.2.1 15 (s1.2.2.1 50 (x7.toInt32).toNatClampNeg).toNatClampNeg) s1 Q)) ∧ (¬ (x9 = 0) → (rf_in (x7.toInt32) 700 ∧ wr_giveCall_487 d x1 x2 x6 x7 x9 x10 x12 (s1.2.2.1 46 (x7.toInt32).toNatClampNeg) s1 Q)))) ∧ (r1 = 0 → Q s1)))
set_option maxRecDepth 20000 in
theorem wr_giveCall_450_ok {d : Nat} {x1 : Int32} {x2 : Int32} {x6 : Int32} {x7 : Int64} {x9 : Int32} {x10 : Int32} {x12 : Int32} {y0 : Int32} {s : rf_S} {Q : rf_S → Prop} (h : wr_giveCall_450 d x1 x2 x6 x7 x9 x10 x12 y0 s Q) : rf_R (d + 1) 81 (450, [(0, .ref rf_o), (1, .int x1), (2, .int x2), (6, .int x6), (7, .long x7), (9, .int x9), (10, .int x10), (12, .int x12)], [.int y0, .ref rf_o], s) (rf_qV Q) := by
  unfold wr_giveCall_450 at h
  refine rf_R_wv rp_81 (rf_bk am_t81 256 1) 450 [(0, .ref rf_o), (1, .int x1), (2, .int x2), (6, .int x6), (7, .long x7), (9, .int x9), (10, .int x10), (12, .int x12)] [.int y0, .ref rf_o] s (by repeat (first | exact trivial | refine ⟨rfl, ?_⟩)) (by decide +kernel) ?_
  refine rf_R_call (pc := 451) (q := ([.ref rf_o, .int y0, .int (Int32.ofInt 0)], [])) rp_81 rfl rfl (by decide) rp_59 rfl (Nat.le_of_ble_eq_true rfl) ⟨rfl, Nat.le_of_ble_eq_true rfl⟩ h (fun v s1 h => ?_)
  obtain ⟨r1, rfl, h⟩ := h
  refine rf_R_wv rp_81 (rf_bk am_t81 258 1) 454 [(0, .ref rf_o), (1, .int x1), (2, .int x2), (6, .int x6), (7, .long x7), (9, .int x9), (10, .int x10), (12, .int x12)] [.int r1] s1 (by repeat (first | exact trivial | refine ⟨rfl, ?_⟩)) (by decide +kernel) ?_
  refine rf_R_if (b := am_cnd .ne r1 0) (p := 458) (q := 457) (fun hb => ?_) (fun hb => ?_)
  · replace h := h.1 (of_decide_eq_true hb)
    refine rf_R_wv rp_81 (rf_bk am_t81 260 2) 458 [(0, .ref rf_o), (1, .int x1), (2, .int x2), (6, .int x6), (7, .long x7), (9, .int x9), (10, .int x10), (12, .int x12)] [] s1 (by repeat (first | exact trivial | refine ⟨rfl, ?_⟩)) (by decide +kernel) ?_
    refine rf_R_if (b := am_cnd .eq x9 0) (p := 474) (q := 463) (fun hb => ?_) (fun hb => ?_)
    · replace h := h.1 (of_decide_eq_true hb)
      refine rf_R_wv rp_81 (rf_bk am_t81 268 8) 474 [(0, .ref rf_o), (1, .int x1), (2, .int x2), (6, .int x6), (7, .long x7), (9, .int x9), (10, .int x10), (12, .int x12)] [] s1 (by repeat (first | exact trivial | refine ⟨rfl, ?_⟩)) (by decide +kernel) ?_
      refine And.intro h.1 ?_
      replace h := h.2
      refine And.intro h.1 ?_
      replace h := h.2
      exact rf_R_le (l := [(0, .ref rf_o), (1, .int x1), (2, .int x2), (6, .int x6), (7, .long x7), (9, .int x9), (10, .int x10), (12, .int x12)]) rfl rfl (⟨rfl, rfl, rfl, rfl, rfl, rfl, rfl, rfl, trivial⟩) (wr_giveCall_487_ok h)
    · replace h := h.2 (of_decide_eq_false hb)
      refine rf_R_wv rp_81 (rf_bk am_t81 262 6) 463 [(0, .ref rf_o), (1, .int x1), (2, .int x2), (6, .int x6), (7, .long x7), (9, .int x9), (10, .int x10), (12, .int x12)] [] s1 (by repeat (first | exact trivial | refine ⟨rfl, ?_⟩)) (by decide +kernel) ?_
      refine And.intro h.1 ?_
      replace h := h.2
      exact rf_R_le (l := [(0, .ref rf_o), (1, .int x1), (2, .int x2), (6, .int x6), (7, .long x7), (9, .int x9), (10, .int x10), (12, .int x12)]) rfl rfl (⟨rfl, rfl, rfl, rfl, rfl, rfl, rfl, rfl, trivial⟩) (wr_giveCall_487_ok h)
  · replace h := h.2 (Decidable.not_not.mp (of_decide_eq_false hb))
    exact rf_R_ret (pc := 457) rp_81 rfl rfl rfl ⟨rfl, h⟩
/-- giveCall ()V, from 365 on -/
def wr_giveCall_365 (d : Nat) (x1 : Int32) (x2 : Int32) (x6 : Int32) (x12 : Int32) (x13 : Int32) (s : rf_S) (Q : rf_S → Prop) : Prop := ((x2 ≤ x13 → rf_V d 57 [(0, .ref rf_o)] s (fun s1 => rf_J d 44 [(0, .int (Int32.ofInt 3)), (1, .int x12)] s1 (fun r2 s2 => rf_V d 68 [(0, .ref rf_o), (1, .long r2)] s2 (fun s3 => Q s3)))) ∧ (¬ (x2 ≤ x13) → (rf_in x12 36001 ∧ (rf_in x1 1601 ∧ rf_in ((s.2.2.1 70 x1.toNatClampNeg) + x13) 6000 ∧ rf_in ((((s.2.2.1 51 x12.toNatClampNeg) + (Int32.ofInt 1)) + x6) + x13) 47000 ∧ rf_R (d + 1) 81 (365, [(0, .ref rf_o), (1, .int x1), (2, .int x2), (6, .int x6), (12, .int x12), (13, .int (x13 + Int32.ofInt 1))], [], (rf_sL s 58 ((((s.2.2.1 51 x12.toNatClampNeg) + (Int32.ofInt 1)) + x6) + x13).toNatClampNeg (s.2.2.2 71 ((s.2.2.1 70 x1.toNatClampNeg) + x13).toNatClampNeg))) (rf_qV Q)))))
set_option maxRecDepth 20000 in
theorem wr_giveCall_365_ok {d : Nat} {x1 : Int32} {x2 : Int32} {x6 : Int32} {x12 : Int32} {x13 : Int32} {s : rf_S} {Q : rf_S → Prop} (h : wr_giveCall_365 d x1 x2 x6 x12 x13 s Q) : rf_R (d + 1) 81 (365, [(0, .ref rf_o), (1, .int x1), (2, .int x2), (6, .int x6), (12, .int x12), (13, .int x13)], [], s) (rf_qV Q) := by
  unfold wr_giveCall_365 at h
  refine rf_R_wv rp_81 (rf_bk am_t81 207 3) 365 [(0, .ref rf_o), (1, .int x1), (2, .int x2), (6, .int x6), (12, .int x12), (13, .int x13)] [] s (by repeat (first | exact trivial | refine ⟨rfl, ?_⟩)) (by decide +kernel) ?_
  refine rf_R_if (b := am_cnd .ge x13 x2) (p := 411) (q := 371) (fun hb => ?_) (fun hb => ?_)
  · replace h := h.1 (of_decide_eq_true hb)
    refine rf_R_wv rp_81 (rf_bk am_t81 234 1) 411 [(0, .ref rf_o), (1, .int x1), (2, .int x2), (6, .int x6), (12, .int x12), (13, .int x13)] [] s (by repeat (first | exact trivial | refine ⟨rfl, ?_⟩)) (by decide +kernel) ?_
    refine rf_R_call (pc := 412) (q := ([.ref rf_o], [])) rp_81 rfl rfl (by decide) rp_57 rfl (Nat.le_of_ble_eq_true rfl) ⟨rfl, Nat.le_of_ble_eq_true rfl⟩ h (fun v s1 h => ?_)
    obtain ⟨rfl, h⟩ := h
    refine rf_R_wv rp_81 (rf_bk am_t81 236 3) 415 [(0, .ref rf_o), (1, .int x1), (2, .int x2), (6, .int x6), (12, .int x12), (13, .int x13)] [] s1 (by repeat (first | exact trivial | refine ⟨rfl, ?_⟩)) (by decide +kernel) ?_
    refine rf_R_call (pc := 419) (q := ([.int (Int32.ofInt 3), .int x12], [.ref rf_o])) rp_81 rfl rfl (by decide) rp_44 rfl (Nat.le_of_ble_eq_true rfl) ⟨rfl, Nat.le_of_ble_eq_true rfl⟩ h (fun v s2 h => ?_)
    obtain ⟨r2, rfl, h⟩ := h
    refine rf_R_call (pc := 422) (q := ([.ref rf_o, .long r2], [])) rp_81 rfl rfl (by decide) rp_68 rfl (Nat.le_of_ble_eq_true rfl) ⟨rfl, Nat.le_of_ble_eq_true rfl⟩ h (fun v s3 h => ?_)
    obtain ⟨rfl, h⟩ := h
    exact rf_R_ret (pc := 425) rp_81 rfl rfl rfl ⟨rfl, h⟩
  · replace h := h.2 (of_decide_eq_false hb)
    refine rf_R_wv rp_81 (rf_bk am_t81 210 14) 371 [(0, .ref rf_o), (1, .int x1), (2, .int x2), (6, .int x6), (12, .int x12), (13, .int x13)] [] s (by repeat (first | exact trivial | refine ⟨rfl, ?_⟩)) (by decide +kernel) ?_
    refine And.intro h.1 ?_
    replace h := h.2
    refine rf_R_wv rp_81 (rf_bk am_t81 224 8) 394 [(0, .ref rf_o), (1, .int x1), (2, .int x2), (6, .int x6), (12, .int x12), (13, .int x13)] [.ref (rf_ad 71), .int ((((s.2.2.1 51 x12.toNatClampNeg) + (Int32.ofInt 1)) + x6) + x13), .ref (rf_ad 58)] s (by repeat (first | exact trivial | refine ⟨rfl, ?_⟩)) (by decide +kernel) ?_
    refine And.intro h.1 ?_
    replace h := h.2
    refine And.intro h.1 ?_
    replace h := h.2
    refine And.intro h.1 ?_
    replace h := h.2
    refine rf_R_wv rp_81 (rf_bk am_t81 232 2) 405 [(0, .ref rf_o), (1, .int x1), (2, .int x2), (6, .int x6), (12, .int x12), (13, .int x13)] [] (rf_sL s 58 ((((s.2.2.1 51 x12.toNatClampNeg) + (Int32.ofInt 1)) + x6) + x13).toNatClampNeg (s.2.2.2 71 ((s.2.2.1 70 x1.toNatClampNeg) + x13).toNatClampNeg)) (by repeat (first | exact trivial | refine ⟨rfl, ?_⟩)) (by decide +kernel) ?_
    exact rf_R_le (l := [(0, .ref rf_o), (1, .int x1), (2, .int x2), (6, .int x6), (12, .int x12), (13, .int (x13 + Int32.ofInt 1))]) rfl rfl (⟨rfl, rfl, rfl, rfl, rfl, rfl, trivial⟩) h
/-- giveCall ()V, from 312 on -/
def wr_giveCall_312 (d : Nat) (x1 : Int32) (x2 : Int32) (x6 : Int32) (x12 : Int32) (x13 : Int32) (s : rf_S) (Q : rf_S → Prop) : Prop := ((x6 ≤ x13 → rf_R (d + 1) 81 (365, [(0, .ref rf_o), (1, .int x1), (2, .int x2), (6, .int x6), (12, .int x12), (13, .int (Int32.ofInt 0))], [], s) (rf_qV Q)) ∧ (¬ (x6 ≤ x13) → (rf_in x12 36001 ∧ (rf_in ((s.2.1 77).toInt32) 36001 ∧ rf_in (((s.2.2.1 51 ((s.2.1 77).toInt32).toNatClampNeg) + (Int32.ofInt 1)) + x13) 47000 ∧ rf_in (((s.2.2.1 51 x12.toNatClampNeg) + (Int32.ofInt 1)) + x13) 47000 ∧ rf_R (d + 1) 81 (312, [(0, .ref rf_o), (1, .int x1), (2, .int x2), (6, .int x6), (12, .int x12), (13, .int (x13 + Int32.ofInt 1))], [], (rf_sL s 58 (((s.2.2.1 51 x12.toNatClampNeg) + (Int32.ofInt 1)) + x13).toNatClampNeg (s.2.2.2 58 (((s.2.2.1 51 ((s.2.1 77).toInt32).toNatClampNeg) + (Int32.ofInt 1)) + x13).toNatClampNeg))) (rf_qV Q)))))
set_option maxRecDepth 20000 in
theorem wr_giveCall_312_ok {d : Nat} {x1 : Int32} {x2 : Int32} {x6 : Int32} {x12 : Int32} {x13 : Int32} {s : rf_S} {Q : rf_S → Prop} (h : wr_giveCall_312 d x1 x2 x6 x12 x13 s Q) : rf_R (d + 1) 81 (312, [(0, .ref rf_o), (1, .int x1), (2, .int x2), (6, .int x6), (12, .int x12), (13, .int x13)], [], s) (rf_qV Q) := by
  unfold wr_giveCall_312 at h
  refine rf_R_wv rp_81 (rf_bk am_t81 176 3) 312 [(0, .ref rf_o), (1, .int x1), (2, .int x2), (6, .int x6), (12, .int x12), (13, .int x13)] [] s (by repeat (first | exact trivial | refine ⟨rfl, ?_⟩)) (by decide +kernel) ?_
  refine rf_R_if (b := am_cnd .ge x13 x6) (p := 362) (q := 319) (fun hb => ?_) (fun hb => ?_)
  · replace h := h.1 (of_decide_eq_true hb)
    refine rf_R_wv rp_81 (rf_bk am_t81 205 2) 362 [(0, .ref rf_o), (1, .int x1), (2, .int x2), (6, .int x6), (12, .int x12), (13, .int x13)] [] s (by repeat (first | exact trivial | refine ⟨rfl, ?_⟩)) (by decide +kernel) ?_
    exact rf_R_le (l := [(0, .ref rf_o), (1, .int x1), (2, .int x2), (6, .int x6), (12, .int x12), (13, .int (Int32.ofInt 0))]) rfl rfl (⟨rfl, rfl, rfl, rfl, rfl, rfl, trivial⟩) h
  · replace h := h.2 (of_decide_eq_false hb)
    refine rf_R_wv rp_81 (rf_bk am_t81 179 14) 319 [(0, .ref rf_o), (1, .int x1), (2, .int x2), (6, .int x6), (12, .int x12), (13, .int x13)] [] s (by repeat (first | exact trivial | refine ⟨rfl, ?_⟩)) (by decide +kernel) ?_
    refine And.intro h.1 ?_
    replace h := h.2
    refine rf_R_wv rp_81 (rf_bk am_t81 193 10) 343 [(0, .ref rf_o), (1, .int x1), (2, .int x2), (6, .int x6), (12, .int x12), (13, .int x13)] [.ref (rf_ad 51), .ref (rf_ad 58), .int (((s.2.2.1 51 x12.toNatClampNeg) + (Int32.ofInt 1)) + x13), .ref (rf_ad 58)] s (by repeat (first | exact trivial | refine ⟨rfl, ?_⟩)) (by decide +kernel) ?_
    refine And.intro h.1 ?_
    replace h := h.2
    refine And.intro h.1 ?_
    replace h := h.2
    refine And.intro h.1 ?_
    replace h := h.2
    refine rf_R_wv rp_81 (rf_bk am_t81 203 2) 356 [(0, .ref rf_o), (1, .int x1), (2, .int x2), (6, .int x6), (12, .int x12), (13, .int x13)] [] (rf_sL s 58 (((s.2.2.1 51 x12.toNatClampNeg) + (Int32.ofInt 1)) + x13).toNatClampNeg (s.2.2.2 58 (((s.2.2.1 51 ((s.2.1 77).toInt32).toNatClampNeg) + (Int32.ofInt 1)) + x13).toNatClampNeg)) (by repeat (first | exact trivial | refine ⟨rfl, ?_⟩)) (by decide +kernel) ?_
    exact rf_R_le (l := [(0, .ref rf_o), (1, .int x1), (2, .int x2), (6, .int x6), (12, .int x12), (13, .int (x13 + Int32.ofInt 1))]) rfl rfl (⟨rfl, rfl, rfl, rfl, rfl, rfl, trivial⟩) h
/-- giveCall ()V, from 281 on -/
def wr_giveCall_281 (d : Nat) (x1 : Int32) (x2 : Int32) (x6 : Int32) (x11 : Int32) (y0 : Int64) (s : rf_S) (Q : rf_S → Prop) : Prop := rf_I d 51 [(0, .ref rf_o), (1, .int (Int32.ofInt 5)), (2, .int (Int32.ofInt 0)), (3, .int (x11 + (Int32.ofInt 1)))] s (fun r1 s1 => (rf_in r1 36001 ∧ rf_in (s1.2.2.1 51 r1.toNatClampNeg) 47000 ∧ rf_R (d + 1) 81 (312, [(0, .ref rf_o), (1, .int x1), (2, .int x2), (6, .int x6), (12, .int r1), (13, .int (Int32.ofInt 0))], [], (rf_sL s1 58 (s1.2.2.1 51 r1.toNatClampNeg).toNatClampNeg y0)) (rf_qV Q)))
set_option maxRecDepth 20000 in
theorem wr_giveCall_281_ok {d : Nat} {x1 : Int32} {x2 : Int32} {x6 : Int32} {x11 : Int32} {y0 : Int64} {s : rf_S} {Q : rf_S → Prop} (h : wr_giveCall_281 d x1 x2 x6 x11 y0 s Q) : rf_R (d + 1) 81 (281, [(0, .ref rf_o), (1, .int x1), (2, .int x2), (6, .int x6), (11, .int x11)], [.long y0], s) (rf_qV Q) := by
  unfold wr_giveCall_281 at h
  refine rf_R_wv rp_81 (rf_bk am_t81 157 7) 281 [(0, .ref rf_o), (1, .int x1), (2, .int x2), (6, .int x6), (11, .int x11)] [.long y0] s (by repeat (first | exact trivial | refine ⟨rfl, ?_⟩)) (by decide +kernel) ?_
  refine rf_R_call (pc := 290) (q := ([.ref rf_o, .int (Int32.ofInt 5), .int (Int32.ofInt 0), .int (x11 + (Int32.ofInt 1))], [])) rp_81 rfl rfl (by decide) rp_51 rfl (Nat.le_of_ble_eq_true rfl) ⟨rfl, Nat.le_of_ble_eq_true rfl⟩ h (fun v s1 h => ?_)
  obtain ⟨r1, rfl, h⟩ := h
  refine rf_R_wv rp_81 (rf_bk am_t81 165 9) 293 [(7, .long y0), (0, .ref rf_o), (1, .int x1), (2, .int x2), (6, .int x6), (11, .int x11)] [.int r1] s1 (by repeat (first | exact trivial | refine ⟨rfl, ?_⟩)) (by decide +kernel) ?_
  refine And.intro h.1 ?_
  replace h := h.2
  refine And.intro h.1 ?_
  replace h := h.2
  refine rf_R_wv rp_81 (rf_bk am_t81 174 2) 309 [(12, .int r1), (7, .long y0), (0, .ref rf_o), (1, .int x1), (2, .int x2), (6, .int x6), (11, .int x11)] [] (rf_sL s1 58 (s1.2.2.1 51 r1.toNatClampNeg).toNatClampNeg y0) (by repeat (first | exact trivial | refine ⟨rfl, ?_⟩)) (by decide +kernel) ?_
  exact rf_R_le (l := [(0, .ref rf_o), (1, .int x1), (2, .int x2), (6, .int x6), (12, .int r1), (13, .int (Int32.ofInt 0))]) rfl rfl (⟨rfl, rfl, rfl, rfl, rfl, rfl, trivial⟩) h
/-- giveCall ()V, from 223 on -/
def wr_giveCall_223 (d : Nat) (x1 : Int32) (x2 : Int32) (x4 : Int32) (x6 : Int32) (x7 : Int64) (x9 : Int32) (y0 : Int32) (s : rf_S) (Q : rf_S → Prop) : Prop := ((y0 ≤ (x6 + x2) → ((¬ ((x6 + x2) - y0) = 0 → wr_giveCall_450 d x1 x2 x6 x7 x9 y0 ((x6 + x2) - y0) (((x6 + x2) - y0) - x2) s Q) ∧ (((x6 + x2) - y0) = 0 → wr_giveCall_450 d x1 x2 x6 x7 x9 y0 ((x6 + x2) - y0) (((Int8.ofInt (-2)).toInt32) - x2) s Q))) ∧ (¬ (y0 ≤ (x6 + x2)) → rf_I d 59 [(0, .ref rf_o), (1, .int (((Int8.ofInt (-2)).toInt32) - x2)), (2, .int ((Int32.ofInt 3) + (x6 + x2)))] s (fun r1 s1 => ((¬ r1 = 0 → ((x4 = 0 → wr_giveCall_281 d x1 x2 x6 (x6 + x2) (s1.2.1 77) s1 Q) ∧ (¬ (x4 = 0) → (rf_in ((s1.2.1 77).toInt32) 36001 ∧ rf_in (s1.2.2.1 51 ((s1.2.1 77).toInt32).toNatClampNeg) 47000 ∧ wr_giveCall_281 d x1 x2 x6 (x6 + x2) (s1.2.2.2 58 (s1.2.2.1 51 ((s1.2.1 77).toInt32).toNatClampNeg).toNatClampNeg) s1 Q)))) ∧ (r1 = 0 → Q s1)))))
set_option maxRecDepth 20000 in
theorem wr_giveCall_223_ok {d : Nat} {x1 : Int32} {x2 : Int32} {x4 : Int32} {x6 : Int32} {x7 : Int64} {x9 : Int32} {y0 : Int32} {s : rf_S} {Q : rf_S → Prop} (h : wr_giveCall_223 d x1 x2 x4 x6 x7 x9 y0 s Q) : rf_R (d + 1) 81 (223, [(0, .ref rf_o), (1, .int x1), (2, .int x2), (4, .int x4), (6, .int x6), (7, .long x7), (9, .int x9)], [.int y0], s) (rf_qV Q) := by
  unfold wr_giveCall_223 at h
  refine rf_R_wv rp_81 (rf_bk am_t81 125 8) 223 [(0, .ref rf_o), (1, .int x1), (2, .int x2), (4, .int x4), (6, .int x6), (7, .long x7), (9, .int x9)] [.int y0] s (by repeat (first | exact trivial | refine ⟨rfl, ?_⟩)) (by decide +kernel) ?_
  refine rf_R_if (b := am_cnd .ge (x6 + x2) y0) (p := 426) (q := 238) (fun hb => ?_) (fun hb => ?_)
  · replace h := h.1 (of_decide_eq_true hb)
    refine rf_R_wv rp_81 (rf_bk am_t81 242 7) 426 [(11, .int (x6 + x2)), (10, .int y0), (0, .ref rf_o), (1, .int x1), (2, .int x2), (4, .int x4), (6, .int x6), (7, .long x7), (9, .int x9)] [] s (by repeat (first | exact trivial | refine ⟨rfl, ?_⟩)) (by decide +kernel) ?_
    refine rf_R_if (b := am_cnd .ne ((x6 + x2) - y0) 0) (p := 446) (q := 439) (fun hb => ?_) (fun hb => ?_)
    · replace h := h.1 (of_decide_eq_true hb)
      refine rf_R_wv rp_81 (rf_bk am_t81 253 3) 446 [(12, .int ((x6 + x2) - y0)), (11, .int (x6 + x2)), (10, .int y0), (0, .ref rf_o), (1, .int x1), (2, .int x2), (4, .int x4), (6, .int x6), (7, .long x7), (9, .int x9)] [.ref rf_o] s (by repeat (first | exact trivial | refine ⟨rfl, ?_⟩)) (by decide +kernel) ?_
      exact rf_R_le (l := [(0, .ref rf_o), (1, .int x1), (2, .int x2), (6, .int x6), (7, .long x7), (9, .int x9), (10, .int y0), (12, .int ((x6 + x2) - y0))]) rfl rfl (⟨rfl, rfl, rfl, rfl, rfl, rfl, rfl, rfl, trivial⟩) (wr_giveCall_450_ok h)
    · replace h := h.2 (Decidable.not_not.mp (of_decide_eq_false hb))
      refine rf_R_wv rp_81 (rf_bk am_t81 249 4) 439 [(12, .int ((x6 + x2) - y0)), (11, .int (x6 + x2)), (10, .int y0), (0, .ref rf_o), (1, .int x1), (2, .int x2), (4, .int x4), (6, .int x6), (7, .long x7), (9, .int x9)] [.ref rf_o] s (by repeat (first | exact trivial | refine ⟨rfl, ?_⟩)) (by decide +kernel) ?_
      exact rf_R_le (l := [(0, .ref rf_o), (1, .int x1), (2, .int x2), (6, .int x6), (7, .long x7), (9, .int x9), (10, .int y0), (12, .int ((x6 + x2) - y0))]) rfl rfl (⟨rfl, rfl, rfl, rfl, rfl, rfl, rfl, rfl, trivial⟩) (wr_giveCall_450_ok h)
  · replace h := h.2 (of_decide_eq_false hb)
    refine rf_R_wv rp_81 (rf_bk am_t81 133 7) 238 [(11, .int (x6 + x2)), (10, .int y0), (0, .ref rf_o), (1, .int x1), (2, .int x2), (4, .int x4), (6, .int x6), (7, .long x7), (9, .int x9)] [] s (by repeat (first | exact trivial | refine ⟨rfl, ?_⟩)) (by decide +kernel) ?_
    refine rf_R_call (pc := 247) (q := ([.ref rf_o, .int (((Int8.ofInt (-2)).toInt32) - x2), .int ((Int32.ofInt 3) + (x6 + x2))], [])) rp_81 rfl rfl (by decide) rp_59 rfl (Nat.le_of_ble_eq_true rfl) ⟨rfl, Nat.le_of_ble_eq_true rfl⟩ h (fun v s1 h => ?_)
    obtain ⟨r1, rfl, h⟩ := h
    refine rf_R_wv rp_81 (rf_bk am_t81 141 1) 250 [(11, .int (x6 + x2)), (10, .int y0), (0, .ref rf_o), (1, .int x1), (2, .int x2), (4, .int x4), (6, .int x6), (7, .long x7), (9, .int x9)] [.int r1] s1 (by repeat (first | exact trivial | refine ⟨rfl, ?_⟩)) (by decide +kernel) ?_
    refine rf_R_if (b := am_cnd .ne r1 0) (p := 254) (q := 253) (fun hb => ?_) (fun hb => ?_)
    · replace h := h.1 (of_decide_eq_true hb)
      refine rf_R_wv rp_81 (rf_bk am_t81 143 2) 254 [(11, .int (x6 + x2)), (10, .int y0), (0, .ref rf_o), (1, .int x1), (2, .int x2), (4, .int x4), (6, .int x6), (7, .long x7), (9, .int x9)] [] s1 (by repeat (first | exact trivial | refine ⟨rfl, ?_⟩)) (by decide +kernel) ?_
      refine rf_R_if (b := am_cnd .eq x4 0) (p := 277) (q := 259) (fun hb => ?_) (fun hb => ?_)
      · replace h := h.1 (of_decide_eq_true hb)
        refine rf_R_wv rp_81 (rf_bk am_t81 155 2) 277 [(11, .int (x6 + x2)), (10, .int y0), (0, .ref rf_o), (1, .int x1), (2, .int x2), (4, .int x4), (6, .int x6), (7, .long x7), (9, .int x9)] [] s1 (by repeat (first | exact trivial | refine ⟨rfl, ?_⟩)) (by decide +kernel) ?_
        exact rf_R_le (l := [(0, .ref rf_o), (1, .int x1), (2, .int x2), (6, .int x6), (11, .int (x6 + x2))]) rfl rfl (⟨rfl, rfl, rfl, rfl, rfl, trivial⟩) (wr_giveCall_281_ok h)
      · replace h := h.2 (of_decide_eq_false hb)
        refine rf_R_wv rp_81 (rf_bk am_t81 145 10) 259 [(11, .int (x6 + x2)), (10, .int y0), (0, .ref rf_o), (1, .int x1), (2, .int x2), (4, .int x4), (6, .int x6), (7, .long x7), (9, .int x9)] [] s1 (by repeat (first | exact trivial | refine ⟨rfl, ?_⟩)) (by decide +kernel) ?_
        refine And.intro h.1 ?_
        replace h := h.2
        refine And.intro h.1 ?_
        replace h := h.2
        exact rf_R_le (l := [(0, .ref rf_o), (1, .int x1), (2, .int x2), (6, .int x6), (11, .int (x6 + x2))]) rfl rfl (⟨rfl, rfl, rfl, rfl, rfl, trivial⟩) (wr_giveCall_281_ok h)
    · replace h := h.2 (Decidable.not_not.mp (of_decide_eq_false hb))
      exact rf_R_ret (pc := 253) rp_81 rfl rfl rfl ⟨rfl, h⟩
/-- giveCall ()V, from 192 on -/
def wr_giveCall_192 (d : Nat) (x1 : Int32) (x2 : Int32) (x4 : Int32) (x6 : Int32) (x7 : Int64) (y0 : Int32) (s : rf_S) (Q : rf_S → Prop) : Prop := ((y0 = 0 → (rf_in (x7.toInt32) 36000 ∧ rf_in (s.2.2.1 50 (x7.toInt32).toNatClampNeg) 2100 ∧ wr_giveCall_223 d x1 x2 x4 x6 x7 y0 (s.2.2.1 14 (s.2.2.1 50 (x7.toInt32).toNatClampNeg).toNatClampNeg) s Q)) ∧ (¬ (y0 = 0) → (rf_in (x7.toInt32) 700 ∧ wr_giveCall_223 d x1 x2 x4 x6 x7 y0 (s.2.2.1 45 (x7.toInt32).toNatClampNeg) s Q)))
set_option maxRecDepth 20000 in
theorem wr_giveCall_192_ok {d : Nat} {x1 : Int32} {x2 : Int32} {x4 : Int32} {x6 : Int32} {x7 : Int64} {y0 : Int32} {s : rf_S} {Q : rf_S → Prop} (h : wr_giveCall_192 d x1 x2 x4 x6 x7 y0 s Q) : rf_R (d + 1) 81 (192, [(0, .ref rf_o), (1, .int x1), (2, .int x2), (4, .int x4), (6, .int x6), (7, .long x7)], [.int y0], s) (rf_qV Q) := by
  unfold wr_giveCall_192 at h
  refine rf_R_wv rp_81 (rf_bk am_t81 108 3) 192 [(0, .ref rf_o), (1, .int x1), (2, .int x2), (4, .int x4), (6, .int x6), (7, .long x7)] [.int y0] s (by repeat (first | exact trivial | refine ⟨rfl, ?_⟩)) (by decide +kernel) ?_
  refine rf_R_if (b := am_cnd .eq y0 0) (p := 210) (q := 199) (fun hb => ?_) (fun hb => ?_)
  · replace h := h.1 (of_decide_eq_true hb)
    refine rf_R_wv rp_81 (rf_bk am_t81 117 8) 210 [(9, .int y0), (0, .ref rf_o), (1, .int x1), (2, .int x2), (4, .int x4), (6, .int x6), (7, .long x7)] [] s (by repeat (first | exact trivial | refine ⟨rfl, ?_⟩)) (by decide +kernel) ?_
    refine And.intro h.1 ?_
    replace h := h.2
    refine And.intro h.1 ?_
    replace h := h.2
    exact rf_R_le (l := [(0, .ref rf_o), (1, .int x1), (2, .int x2), (4, .int x4), (6, .int x6), (7, .long x7), (9, .int y0)]) rfl rfl (⟨rfl, rfl, rfl, rfl, rfl, rfl, rfl, trivial⟩) (wr_giveCall_223_ok h)
  · replace h := h.2 (of_decide_eq_false hb)
    refine rf_R_wv rp_81 (rf_bk am_t81 111 6) 199 [(9, .int y0), (0, .ref rf_o), (1, .int x1), (2, .int x2), (4, .int x4), (6, .int x6), (7, .long x7)] [] s (by repeat (first | exact trivial | refine ⟨rfl, ?_⟩)) (by decide +kernel) ?_
    refine And.intro h.1 ?_
    replace h := h.2
    exact rf_R_le (l := [(0, .ref rf_o), (1, .int x1), (2, .int x2), (4, .int x4), (6, .int x6), (7, .long x7), (9, .int y0)]) rfl rfl (⟨rfl, rfl, rfl, rfl, rfl, rfl, rfl, trivial⟩) (wr_giveCall_223_ok h)
/-- giveCall ()V, from 176 on -/
def wr_giveCall_176 (d : Nat) (x1 : Int32) (x2 : Int32) (x4 : Int32) (x6 : Int32) (y0 : Int64) (s : rf_S) (Q : rf_S → Prop) : Prop := rf_I d 45 [(0, .long y0)] s (fun r1 s1 => ((¬ r1 = (Int32.ofInt 2) → wr_giveCall_192 d x1 x2 x4 x6 y0 (Int32.ofInt 0) s1 Q) ∧ (r1 = (Int32.ofInt 2) → wr_giveCall_192 d x1 x2 x4 x6 y0 (Int32.ofInt 1) s1 Q)))
set_option maxRecDepth 20000 in
theorem wr_giveCall_176_ok {d : Nat} {x1 : Int32} {x2 : Int32} {x4 : Int32} {x6 : Int32} {y0 : Int64} {s : rf_S} {Q : rf_S → Prop} (h : wr_giveCall_176 d x1 x2 x4 x6 y0 s Q) : rf_R (d + 1) 81 (176, [(0, .ref rf_o), (1, .int x1), (2, .int x2), (4, .int x4), (6, .int x6)], [.long y0], s) (rf_qV Q) := by
  unfold wr_giveCall_176 at h
  refine rf_R_wv rp_81 (rf_bk am_t81 100 2) 176 [(0, .ref rf_o), (1, .int x1), (2, .int x2), (4, .int x4), (6, .int x6)] [.long y0] s (by repeat (first | exact trivial | refine ⟨rfl, ?_⟩)) (by decide +kernel) ?_
  refine rf_R_call (pc := 180) (q := ([.long y0], [])) rp_81 rfl rfl (by decide) rp_45 rfl (Nat.le_of_ble_eq_true rfl) ⟨rfl, Nat.le_of_ble_eq_true rfl⟩ h (fun v s1 h => ?_)
  obtain ⟨r1, rfl, h⟩ := h
  refine rf_R_wv rp_81 (rf_bk am_t81 103 2) 183 [(7, .long y0), (0, .ref rf_o), (1, .int x1), (2, .int x2), (4, .int x4), (6, .int x6)] [.int r1] s1 (by repeat (first | exact trivial | refine ⟨rfl, ?_⟩)) (by decide +kernel) ?_
  refine rf_R_if (b := am_cnd .ne r1 (Int32.ofInt 2)) (p := 191) (q := 187) (fun hb => ?_) (fun hb => ?_)
  · replace h := h.1 (of_decide_eq_true hb)
    refine rf_R_wv rp_81 (rf_bk am_t81 107 1) 191 [(7, .long y0), (0, .ref rf_o), (1, .int x1), (2, .int x2), (4, .int x4), (6, .int x6)] [] s1 (by repeat (first | exact trivial | refine ⟨rfl, ?_⟩)) (by decide +kernel) ?_
    exact rf_R_le (l := [(0, .ref rf_o), (1, .int x1), (2, .int x2), (4, .int x4), (6, .int x6), (7, .long y0)]) rfl rfl (⟨rfl, rfl, rfl, rfl, rfl, rfl, trivial⟩) (wr_giveCall_192_ok h)
  · replace h := h.2 (Decidable.not_not.mp (of_decide_eq_false hb))
    refine rf_R_wv rp_81 (rf_bk am_t81 105 2) 187 [(7, .long y0), (0, .ref rf_o), (1, .int x1), (2, .int x2), (4, .int x4), (6, .int x6)] [] s1 (by repeat (first | exact trivial | refine ⟨rfl, ?_⟩)) (by decide +kernel) ?_
    exact rf_R_le (l := [(0, .ref rf_o), (1, .int x1), (2, .int x2), (4, .int x4), (6, .int x6), (7, .long y0)]) rfl rfl (⟨rfl, rfl, rfl, rfl, rfl, rfl, trivial⟩) (wr_giveCall_192_ok h)
/-- giveCall ()V, from 147 on -/
def wr_giveCall_147 (d : Nat) (x1 : Int32) (x2 : Int32) (x4 : Int32) (y0 : Int32) (s : rf_S) (Q : rf_S → Prop) : Prop := ((x4 = 0 → wr_giveCall_176 d x1 x2 x4 y0 (s.2.1 77) s Q) ∧ (¬ (x4 = 0) → (rf_in ((s.2.1 77).toInt32) 36001 ∧ rf_in (s.2.2.1 51 ((s.2.1 77).toInt32).toNatClampNeg) 47000 ∧ wr_giveCall_176 d x1 x2 x4 y0 (s.2.2.2 58 (s.2.2.1 51 ((s.2.1 77).toInt32).toNatClampNeg).toNatClampNeg) s Q)))
set_option maxRecDepth 20000 in
theorem wr_giveCall_147_ok {d : Nat} {x1 : Int32} {x2 : Int32} {x4 : Int32} {y0 : Int32} {s : rf_S} {Q : rf_S → Prop} (h : wr_giveCall_147 d x1 x2 x4 y0 s Q) : rf_R (d + 1) 81 (147, [(0, .ref rf_o), (1, .int x1), (2, .int x2), (4, .int x4)], [.int y0], s) (rf_qV Q) := by
  unfold wr_giveCall_147 at h
  refine rf_R_wv rp_81 (rf_bk am_t81 85 3) 147 [(0, .ref rf_o), (1, .int x1), (2, .int x2), (4, .int x4)] [.int y0] s (by repeat (first | exact trivial | refine ⟨rfl, ?_⟩)) (by decide +kernel) ?_
  refine rf_R_if (b := am_cnd .eq x4 0) (p := 172) (q := 154) (fun hb => ?_) (fun hb => ?_)
  · replace h := h.1 (of_decide_eq_true hb)
    refine rf_R_wv rp_81 (rf_bk am_t81 98 2) 172 [(6, .int y0), (0, .ref rf_o), (1, .int x1), (2, .int x2), (4, .int x4)] [] s (by repeat (first | exact trivial | refine ⟨rfl, ?_⟩)) (by decide +kernel) ?_
    exact rf_R_le (l := [(0, .ref rf_o), (1, .int x1), (2, .int x2), (4, .int x4), (6, .int y0)]) rfl rfl (⟨rfl, rfl, rfl, rfl, rfl, trivial⟩) (wr_giveCall_176_ok h)
  · replace h := h.2 (of_decide_eq_false hb)
    refine rf_R_wv rp_81 (rf_bk am_t81 88 10) 154 [(6, .int y0), (0, .ref rf_o), (1, .int x1), (2, .int x2), (4, .int x4)] [] s (by repeat (first | exact trivial | refine ⟨rfl, ?_⟩)) (by decide +kernel) ?_
    refine And.intro h.1 ?_
    replace h := h.2
    refine And.intro h.1 ?_
    replace h := h.2
    exact rf_R_le (l := [(0, .ref rf_o), (1, .int x1), (2, .int x2), (4, .int x4), (6, .int y0)]) rfl rfl (⟨rfl, rfl, rfl, rfl, rfl, trivial⟩) (wr_giveCall_176_ok h)
/-- giveCall ()V, from 126 on -/
def wr_giveCall_126 (d : Nat) (x1 : Int32) (x2 : Int32) (x4 : Int32) (s : rf_S) (Q : rf_S → Prop) : Prop := ((x4 = 0 → wr_giveCall_147 d x1 x2 x4 (Int32.ofInt 0) s Q) ∧ (¬ (x4 = 0) → (rf_in ((s.2.1 77).toInt32) 36000 ∧ wr_giveCall_147 d x1 x2 x4 ((s.2.2.1 52 ((s.2.1 77).toInt32).toNatClampNeg) - (Int32.ofInt 1)) s Q)))
set_option maxRecDepth 20000 in
theorem wr_giveCall_126_ok {d : Nat} {x1 : Int32} {x2 : Int32} {x4 : Int32} {s : rf_S} {Q : rf_S → Prop} (h : wr_giveCall_126 d x1 x2 x4 s Q) : rf_R (d + 1) 81 (126, [(0, .ref rf_o), (1, .int x1), (2, .int x2), (4, .int x4)], [], s) (rf_qV Q) := by
  unfold wr_giveCall_126 at h
  refine rf_R_wv rp_81 (rf_bk am_t81 73 2) 126 [(0, .ref rf_o), (1, .int x1), (2, .int x2), (4, .int x4)] [] s (by repeat (first | exact trivial | refine ⟨rfl, ?_⟩)) (by decide +kernel) ?_
  refine rf_R_if (b := am_cnd .eq x4 0) (p := 146) (q := 131) (fun hb => ?_) (fun hb => ?_)
  · replace h := h.1 (of_decide_eq_true hb)
    refine rf_R_wv rp_81 (rf_bk am_t81 84 1) 146 [(0, .ref rf_o), (1, .int x1), (2, .int x2), (4, .int x4)] [] s (by repeat (first | exact trivial | refine ⟨rfl, ?_⟩)) (by decide +kernel) ?_
    exact rf_R_le (l := [(0, .ref rf_o), (1, .int x1), (2, .int x2), (4, .int x4)]) rfl rfl (⟨rfl, rfl, rfl, rfl, trivial⟩) (wr_giveCall_147_ok h)
  · replace h := h.2 (of_decide_eq_false hb)
    refine rf_R_wv rp_81 (rf_bk am_t81 75 9) 131 [(0, .ref rf_o), (1, .int x1), (2, .int x2), (4, .int x4)] [] s (by repeat (first | exact trivial | refine ⟨rfl, ?_⟩)) (by decide +kernel) ?_
    refine And.intro h.1 ?_
    replace h := h.2
    exact rf_R_le (l := [(0, .ref rf_o), (1, .int x1), (2, .int x2), (4, .int x4)]) rfl rfl (⟨rfl, rfl, rfl, rfl, trivial⟩) (wr_giveCall_147_ok h)
/-- giveCall ()V, from 109 on -/
def wr_giveCall_109 (d : Nat) (x1 : Int32) (x2 : Int32) (x3 : Int32) (x4 : Int32) (y0 : Int32) (s : rf_S) (Q : rf_S → Prop) : Prop := ((¬ x3 = 0 → wr_giveCall_126 d x1 x2 x4 s Q) ∧ (x3 = 0 → ((¬ y0 = 0 → wr_giveCall_126 d x1 x2 x4 s Q) ∧ (y0 = 0 → rf_V d 58 [(0, .ref rf_o), (1, .int (Int32.ofInt 2))] s (fun s1 => Q s1)))))
set_option maxRecDepth 20000 in
theorem wr_giveCall_109_ok {d : Nat} {x1 : Int32} {x2 : Int32} {x3 : Int32} {x4 : Int32} {y0 : Int32} {s : rf_S} {Q : rf_S → Prop} (h : wr_giveCall_109 d x1 x2 x3 x4 y0 s Q) : rf_R (d + 1) 81 (109, [(0, .ref rf_o), (1, .int x1), (2, .int x2), (3, .int x3), (4, .int x4)], [.int y0], s) (rf_qV Q) := by
  unfold wr_giveCall_109 at h
  refine rf_R_wv rp_81 (rf_bk am_t81 64 3) 109 [(0, .ref rf_o), (1, .int x1), (2, .int x2), (3, .int x3), (4, .int x4)] [.int y0] s (by repeat (first | exact trivial | refine ⟨rfl, ?_⟩)) (by decide +kernel) ?_
  refine rf_R_if (b := am_cnd .ne x3 0) (p := 126) (q := 115) (fun hb => ?_) (fun hb => ?_)
  · replace h := h.1 (of_decide_eq_true hb)
    exact rf_R_le (l := [(0, .ref rf_o), (1, .int x1), (2, .int x2), (4, .int x4)]) rfl rfl (⟨rfl, rfl, rfl, rfl, trivial⟩) (wr_giveCall_126_ok h)
  · replace h := h.2 (Decidable.not_not.mp (of_decide_eq_false hb))
    refine rf_R_wv rp_81 (rf_bk am_t81 67 2) 115 [(5, .int y0), (0, .ref rf_o), (1, .int x1), (2, .int x2), (3, .int x3), (4, .int x4)] [] s (by repeat (first | exact trivial | refine ⟨rfl, ?_⟩)) (by decide +kernel) ?_
    refine rf_R_if (b := am_cnd .ne y0 0) (p := 126) (q := 120) (fun hb => ?_) (fun hb => ?_)
    · replace h := h.1 (of_decide_eq_true hb)
      exact rf_R_le (l := [(0, .ref rf_o), (1, .int x1), (2, .int x2), (4, .int x4)]) rfl rfl (⟨rfl, rfl, rfl, rfl, trivial⟩) (wr_giveCall_126_ok h)
    · replace h := h.2 (Decidable.not_not.mp (of_decide_eq_false hb))
      refine rf_R_wv rp_81 (rf_bk am_t81 69 2) 120 [(5, .int y0), (0, .ref rf_o), (1, .int x1), (2, .int x2), (3, .int x3), (4, .int x4)] [] s (by repeat (first | exact trivial | refine ⟨rfl, ?_⟩)) (by decide +kernel) ?_
      refine rf_R_call (pc := 122) (q := ([.ref rf_o, .int (Int32.ofInt 2)], [])) rp_81 rfl rfl (by decide) rp_58 rfl (Nat.le_of_ble_eq_true rfl) ⟨rfl, Nat.le_of_ble_eq_true rfl⟩ h (fun v s1 h => ?_)
      obtain ⟨rfl, h⟩ := h
      exact rf_R_ret (pc := 125) rp_81 rfl rfl rfl ⟨rfl, h⟩
/-- giveCall ()V, from 91 on -/
def wr_giveCall_91 (d : Nat) (x1 : Int32) (x2 : Int32) (x3 : Int32) (y0 : Int32) (s : rf_S) (Q : rf_S → Prop) : Prop := rf_I d 45 [(0, .long (s.2.1 77))] s (fun r1 s1 => ((¬ r1 = (Int32.ofInt 2) → wr_giveCall_109 d x1 x2 x3 y0 (Int32.ofInt 0) s1 Q) ∧ (r1 = (Int32.ofInt 2) → wr_giveCall_109 d x1 x2 x3 y0 (Int32.ofInt 1) s1 Q)))
set_option maxRecDepth 20000 in
theorem wr_giveCall_91_ok {d : Nat} {x1 : Int32} {x2 : Int32} {x3 : Int32} {y0 : Int32} {s : rf_S} {Q : rf_S → Prop} (h : wr_giveCall_91 d x1 x2 x3 y0 s Q) : rf_R (d + 1) 81 (91, [(0, .ref rf_o), (1, .int x1), (2, .int x2), (3, .int x3)], [.int y0], s) (rf_qV Q) := by
  unfold wr_giveCall_91 at h
  refine rf_R_wv rp_81 (rf_bk am_t81 55 3) 91 [(0, .ref rf_o), (1, .int x1), (2, .int x2), (3, .int x3)] [.int y0] s (by repeat (first | exact trivial | refine ⟨rfl, ?_⟩)) (by decide +kernel) ?_
  refine rf_R_call (pc := 97) (q := ([.long (s.2.1 77)], [])) rp_81 rfl rfl (by decide) rp_45 rfl (Nat.le_of_ble_eq_true rfl) ⟨rfl, Nat.le_of_ble_eq_true rfl⟩ h (fun v s1 h => ?_)
  obtain ⟨r1, rfl, h⟩ := h
  refine rf_R_wv rp_81 (rf_bk am_t81 59 2) 100 [(4, .int y0), (0, .ref rf_o), (1, .int x1), (2, .int x2), (3, .int x3)] [.int r1] s1 (by repeat (first | exact trivial | refine ⟨rfl, ?_⟩)) (by decide +kernel) ?_
  refine rf_R_if (b := am_cnd .ne r1 (Int32.ofInt 2)) (p := 108) (q := 104) (fun hb => ?_) (fun hb => ?_)
  · replace h := h.1 (of_decide_eq_true hb)
    refine rf_R_wv rp_81 (rf_bk am_t81 63 1) 108 [(4, .int y0), (0, .ref rf_o), (1, .int x1), (2, .int x2), (3, .int x3)] [] s1 (by repeat (first | exact trivial | refine ⟨rfl, ?_⟩)) (by decide +kernel) ?_
    exact rf_R_le (l := [(0, .ref rf_o), (1, .int x1), (2, .int x2), (3, .int x3), (4, .int y0)]) rfl rfl (⟨rfl, rfl, rfl, rfl, rfl, trivial⟩) (wr_giveCall_109_ok h)
  · replace h := h.2 (Decidable.not_not.mp (of_decide_eq_false hb))
    refine rf_R_wv rp_81 (rf_bk am_t81 61 2) 104 [(4, .int y0), (0, .ref rf_o), (1, .int x1), (2, .int x2), (3, .int x3)] [] s1 (by repeat (first | exact trivial | refine ⟨rfl, ?_⟩)) (by decide +kernel) ?_
    exact rf_R_le (l := [(0, .ref rf_o), (1, .int x1), (2, .int x2), (3, .int x3), (4, .int y0)]) rfl rfl (⟨rfl, rfl, rfl, rfl, rfl, trivial⟩) (wr_giveCall_109_ok h)
/-- giveCall ()V, from 90 on -/
def wr_giveCall_90 (d : Nat) (x1 : Int32) (x2 : Int32) (x3 : Int32) (s : rf_S) (Q : rf_S → Prop) : Prop := wr_giveCall_91 d x1 x2 x3 (Int32.ofInt 0) s Q
set_option maxRecDepth 20000 in
theorem wr_giveCall_90_ok {d : Nat} {x1 : Int32} {x2 : Int32} {x3 : Int32} {s : rf_S} {Q : rf_S → Prop} (h : wr_giveCall_90 d x1 x2 x3 s Q) : rf_R (d + 1) 81 (90, [(0, .ref rf_o), (1, .int x1), (2, .int x2), (3, .int x3)], [], s) (rf_qV Q) := by
  unfold wr_giveCall_90 at h
  refine rf_R_wv rp_81 (rf_bk am_t81 54 1) 90 [(0, .ref rf_o), (1, .int x1), (2, .int x2), (3, .int x3)] [] s (by repeat (first | exact trivial | refine ⟨rfl, ?_⟩)) (by decide +kernel) ?_
  exact rf_R_le (l := [(0, .ref rf_o), (1, .int x1), (2, .int x2), (3, .int x3)]) rfl rfl (⟨rfl, rfl, rfl, rfl, trivial⟩) (wr_giveCall_91_ok h)
/-- giveCall ()V, from 67 on -/
def wr_giveCall_67 (d : Nat) (x1 : Int32) (x2 : Int32) (y0 : Int32) (s : rf_S) (Q : rf_S → Prop) : Prop := ((y0 = 0 → wr_giveCall_90 d x1 x2 y0 s Q) ∧ (¬ (y0 = 0) → (rf_in ((s.2.1 77).toInt32) 36000 ∧ ((¬ (s.2.2.1 49 ((s.2.1 77).toInt32).toNatClampNeg) = (Int32.ofInt 5) → wr_giveCall_90 d x1 x2 y0 s Q) ∧ ((s.2.2.1 49 ((s.2.1 77).toInt32).toNatClampNeg) = (Int32.ofInt 5) → wr_giveCall_91 d x1 x2 y0 (Int32.ofInt 1) s Q)))))
set_option maxRecDepth 20000 in
theorem wr_giveCall_67_ok {d : Nat} {x1 : Int32} {x2 : Int32} {y0 : Int32} {s : rf_S} {Q : rf_S → Prop} (h : wr_giveCall_67 d x1 x2 y0 s Q) : rf_R (d + 1) 81 (67, [(0, .ref rf_o), (1, .int x1), (2, .int x2)], [.int y0], s) (rf_qV Q) := by
  unfold wr_giveCall_67 at h
  refine rf_R_wv rp_81 (rf_bk am_t81 41 3) 67 [(0, .ref rf_o), (1, .int x1), (2, .int x2)] [.int y0] s (by repeat (first | exact trivial | refine ⟨rfl, ?_⟩)) (by decide +kernel) ?_
  refine rf_R_if (b := am_cnd .eq y0 0) (p := 90) (q := 72) (fun hb => ?_) (fun hb => ?_)
  · replace h := h.1 (of_decide_eq_true hb)
    exact rf_R_le (l := [(0, .ref rf_o), (1, .int x1), (2, .int x2), (3, .int y0)]) rfl rfl (⟨rfl, rfl, rfl, rfl, trivial⟩) (wr_giveCall_90_ok h)
  · replace h := h.2 (of_decide_eq_false hb)
    refine rf_R_wv rp_81 (rf_bk am_t81 44 8) 72 [(3, .int y0), (0, .ref rf_o), (1, .int x1), (2, .int x2)] [] s (by repeat (first | exact trivial | refine ⟨rfl, ?_⟩)) (by decide +kernel) ?_
    refine And.intro h.1 ?_
    replace h := h.2
    refine rf_R_if (b := am_cnd .ne (s.2.2.1 49 ((s.2.1 77).toInt32).toNatClampNeg) (Int32.ofInt 5)) (p := 90) (q := 86) (fun hb => ?_) (fun hb => ?_)
    · replace h := h.1 (of_decide_eq_true hb)
      exact rf_R_le (l := [(0, .ref rf_o), (1, .int x1), (2, .int x2), (3, .int y0)]) rfl rfl (⟨rfl, rfl, rfl, rfl, trivial⟩) (wr_giveCall_90_ok h)
    · replace h := h.2 (Decidable.not_not.mp (of_decide_eq_false hb))
      refine rf_R_wv rp_81 (rf_bk am_t81 52 2) 86 [(3, .int y0), (0, .ref rf_o), (1, .int x1), (2, .int x2)] [] s (by repeat (first | exact trivial | refine ⟨rfl, ?_⟩)) (by decide +kernel) ?_
      exact rf_R_le (l := [(0, .ref rf_o), (1, .int x1), (2, .int x2), (3, .int y0)]) rfl rfl (⟨rfl, rfl, rfl, rfl, trivial⟩) (wr_giveCall_91_ok h)
/-- giveCall ()V, from 66 on -/
def wr_giveCall_66 (d : Nat) (x1 : Int32) (x2 : Int32) (s : rf_S) (Q : rf_S → Prop) : Prop := wr_giveCall_67 d x1 x2 (Int32.ofInt 0) s Q
set_option maxRecDepth 20000 in
theorem wr_giveCall_66_ok {d : Nat} {x1 : Int32} {x2 : Int32} {s : rf_S} {Q : rf_S → Prop} (h : wr_giveCall_66 d x1 x2 s Q) : rf_R (d + 1) 81 (66, [(0, .ref rf_o), (1, .int x1), (2, .int x2)], [], s) (rf_qV Q) := by
  unfold wr_giveCall_66 at h
  refine rf_R_wv rp_81 (rf_bk am_t81 40 1) 66 [(0, .ref rf_o), (1, .int x1), (2, .int x2)] [] s (by repeat (first | exact trivial | refine ⟨rfl, ?_⟩)) (by decide +kernel) ?_
  exact rf_R_le (l := [(0, .ref rf_o), (1, .int x1), (2, .int x2)]) rfl rfl (⟨rfl, rfl, rfl, trivial⟩) (wr_giveCall_67_ok h)
/-- giveCall ()V, from 0 on -/
def wr_giveCall (d : Nat) (s : rf_S) (Q : rf_S → Prop) : Prop := (rf_in (((s.1 65) - (Int32.ofInt 1)) + (Int32.ofInt 1)) 1601 ∧ (rf_in ((s.1 65) - (Int32.ofInt 1)) 1601 ∧ rf_I d 45 [(0, .long (s.2.1 77))] s (fun r1 s1 => ((¬ r1 = (Int32.ofInt 3) → wr_giveCall_66 d ((s.1 65) - (Int32.ofInt 1)) ((s.2.2.1 70 (((s.1 65) - (Int32.ofInt 1)) + (Int32.ofInt 1)).toNatClampNeg) - (s.2.2.1 70 ((s.1 65) - (Int32.ofInt 1)).toNatClampNeg)) s1 Q) ∧ (r1 = (Int32.ofInt 3) → (rf_in ((s1.2.1 77).toInt32) 36000 ∧ (((s1.2.2.1 49 ((s1.2.1 77).toInt32).toNatClampNeg) < (Int32.ofInt 3) → wr_giveCall_66 d ((s.1 65) - (Int32.ofInt 1)) ((s.2.2.1 70 (((s.1 65) - (Int32.ofInt 1)) + (Int32.ofInt 1)).toNatClampNeg) - (s.2.2.1 70 ((s.1 65) - (Int32.ofInt 1)).toNatClampNeg)) s1 Q) ∧ (¬ ((s1.2.2.1 49 ((s1.2.1 77).toInt32).toNatClampNeg) < (Int32.ofInt 3)) → (rf_in ((s1.2.1 77).toInt32) 36000 ∧ (((s1.2.2.1 49 ((s1.2.1 77).toInt32).toNatClampNeg) = (Int32.ofInt 4) → wr_giveCall_66 d ((s.1 65) - (Int32.ofInt 1)) ((s.2.2.1 70 (((s.1 65) - (Int32.ofInt 1)) + (Int32.ofInt 1)).toNatClampNeg) - (s.2.2.1 70 ((s.1 65) - (Int32.ofInt 1)).toNatClampNeg)) s1 Q) ∧ (¬ ((s1.2.2.1 49 ((s1.2.1 77).toInt32).toNatClampNeg) = (Int32.ofInt 4)) → wr_giveCall_67 d ((s.1 65) - (Int32.ofInt 1)) ((s.2.2.1 70 (((s.1 65) - (Int32.ofInt 1)) + (Int32.ofInt 1)).toNatClampNeg) - (s.2.2.1 70 ((s.1 65) - (Int32.ofInt 1)).toNatClampNeg)) (Int32.ofInt 1) s1 Q)))))))))))
set_option maxRecDepth 20000 in
theorem wr_giveCall_ok {d : Nat} {s : rf_S} {Q : rf_S → Prop} (h : wr_giveCall d s Q) : rf_V (d + 1) 81 [(0, .ref rf_o)] s Q := by
  unfold wr_giveCall at h
  unfold rf_V
  refine rf_R_wv rp_81 (rf_bk am_t81 0 14) 0 [(0, .ref rf_o)] [] s (by repeat (first | exact trivial | refine ⟨rfl, ?_⟩)) (by decide +kernel) ?_
  refine And.intro h.1 ?_
  replace h := h.2
  refine rf_R_wv rp_81 (rf_bk am_t81 14 5) 20 [(1, .int ((s.1 65) - (Int32.ofInt 1))), (0, .ref rf_o)] [.int ((s.1 65) - (Int32.ofInt 1)), .ref (rf_ad 70), .int (s.2.2.1 70 (((s.1 65) - (Int32.ofInt 1)) + (Int32.ofInt 1)).toNatClampNeg)] s (by repeat (first | exact trivial | refine ⟨rfl, ?_⟩)) (by decide +kernel) ?_
  refine And.intro h.1 ?_
  replace h := h.2
  refine rf_R_call (pc := 27) (q := ([.long (s.2.1 77)], [])) rp_81 rfl rfl (by decide) rp_45 rfl (Nat.le_of_ble_eq_true rfl) ⟨rfl, Nat.le_of_ble_eq_true rfl⟩ h (fun v s1 h => ?_)
  obtain ⟨r1, rfl, h⟩ := h
  refine rf_R_wv rp_81 (rf_bk am_t81 20 2) 30 [(2, .int ((s.2.2.1 70 (((s.1 65) - (Int32.ofInt 1)) + (Int32.ofInt 1)).toNatClampNeg) - (s.2.2.1 70 ((s.1 65) - (Int32.ofInt 1)).toNatClampNeg))), (1, .int ((s.1 65) - (Int32.ofInt 1))), (0, .ref rf_o)] [.int r1] s1 (by repeat (first | exact trivial | refine ⟨rfl, ?_⟩)) (by decide +kernel) ?_
  refine rf_R_if (b := am_cnd .ne r1 (Int32.ofInt 3)) (p := 66) (q := 34) (fun hb => ?_) (fun hb => ?_)
  · replace h := h.1 (of_decide_eq_true hb)
    exact rf_R_le (l := [(0, .ref rf_o), (1, .int ((s.1 65) - (Int32.ofInt 1))), (2, .int ((s.2.2.1 70 (((s.1 65) - (Int32.ofInt 1)) + (Int32.ofInt 1)).toNatClampNeg) - (s.2.2.1 70 ((s.1 65) - (Int32.ofInt 1)).toNatClampNeg)))]) rfl rfl (⟨rfl, rfl, rfl, trivial⟩) (wr_giveCall_66_ok h)
  · replace h := h.2 (Decidable.not_not.mp (of_decide_eq_false hb))
    refine rf_R_wv rp_81 (rf_bk am_t81 22 8) 34 [(2, .int ((s.2.2.1 70 (((s.1 65) - (Int32.ofInt 1)) + (Int32.ofInt 1)).toNatClampNeg) - (s.2.2.1 70 ((s.1 65) - (Int32.ofInt 1)).toNatClampNeg))), (1, .int ((s.1 65) - (Int32.ofInt 1))), (0, .ref rf_o)] [] s1 (by repeat (first | exact trivial | refine ⟨rfl, ?_⟩)) (by decide +kernel) ?_
    refine And.intro h.1 ?_
    replace h := h.2
    refine rf_R_if (b := am_cnd .lt (s1.2.2.1 49 ((s1.2.1 77).toInt32).toNatClampNeg) (Int32.ofInt 3)) (p := 66) (q := 48) (fun hb => ?_) (fun hb => ?_)
    · replace h := h.1 (of_decide_eq_true hb)
      exact rf_R_le (l := [(0, .ref rf_o), (1, .int ((s.1 65) - (Int32.ofInt 1))), (2, .int ((s.2.2.1 70 (((s.1 65) - (Int32.ofInt 1)) + (Int32.ofInt 1)).toNatClampNeg) - (s.2.2.1 70 ((s.1 65) - (Int32.ofInt 1)).toNatClampNeg)))]) rfl rfl (⟨rfl, rfl, rfl, trivial⟩) (wr_giveCall_66_ok h)
    · replace h := h.2 (of_decide_eq_false hb)
      refine rf_R_wv rp_81 (rf_bk am_t81 30 8) 48 [(2, .int ((s.2.2.1 70 (((s.1 65) - (Int32.ofInt 1)) + (Int32.ofInt 1)).toNatClampNeg) - (s.2.2.1 70 ((s.1 65) - (Int32.ofInt 1)).toNatClampNeg))), (1, .int ((s.1 65) - (Int32.ofInt 1))), (0, .ref rf_o)] [] s1 (by repeat (first | exact trivial | refine ⟨rfl, ?_⟩)) (by decide +kernel) ?_
      refine And.intro h.1 ?_
      replace h := h.2
      refine rf_R_if (b := am_cnd .eq (s1.2.2.1 49 ((s1.2.1 77).toInt32).toNatClampNeg) (Int32.ofInt 4)) (p := 66) (q := 62) (fun hb => ?_) (fun hb => ?_)
      · replace h := h.1 (of_decide_eq_true hb)
        exact rf_R_le (l := [(0, .ref rf_o), (1, .int ((s.1 65) - (Int32.ofInt 1))), (2, .int ((s.2.2.1 70 (((s.1 65) - (Int32.ofInt 1)) + (Int32.ofInt 1)).toNatClampNeg) - (s.2.2.1 70 ((s.1 65) - (Int32.ofInt 1)).toNatClampNeg)))]) rfl rfl (⟨rfl, rfl, rfl, trivial⟩) (wr_giveCall_66_ok h)
      · replace h := h.2 (of_decide_eq_false hb)
        refine rf_R_wv rp_81 (rf_bk am_t81 38 2) 62 [(2, .int ((s.2.2.1 70 (((s.1 65) - (Int32.ofInt 1)) + (Int32.ofInt 1)).toNatClampNeg) - (s.2.2.1 70 ((s.1 65) - (Int32.ofInt 1)).toNatClampNeg))), (1, .int ((s.1 65) - (Int32.ofInt 1))), (0, .ref rf_o)] [] s1 (by repeat (first | exact trivial | refine ⟨rfl, ?_⟩)) (by decide +kernel) ?_
        exact rf_R_le (l := [(0, .ref rf_o), (1, .int ((s.1 65) - (Int32.ofInt 1))), (2, .int ((s.2.2.1 70 (((s.1 65) - (Int32.ofInt 1)) + (Int32.ofInt 1)).toNatClampNeg) - (s.2.2.1 70 ((s.1 65) - (Int32.ofInt 1)).toNatClampNeg)))]) rfl rfl (⟨rfl, rfl, rfl, trivial⟩) (wr_giveCall_67_ok h)
/-- tells (I)Z, from 0 on -/
def wr_tells (d : Nat) (x1 : Int32) (s : rf_S) (Q : Int32 → rf_S → Prop) : Prop := ((¬ (s.1 82) = ((Int16.ofInt 1500).toInt32) → (rf_in (s.1 82) 1500 ∧ Q (Int32.ofInt 1) (rf_si (rf_sb s 81 (s.1 82).toNatClampNeg x1) 82 ((s.1 82) + (Int32.ofInt 1))))) ∧ ((s.1 82) = ((Int16.ofInt 1500).toInt32) → Q (Int32.ofInt 0) s))
set_option maxRecDepth 20000 in
theorem wr_tells_ok {d : Nat} {x1 : Int32} {s : rf_S} {Q : Int32 → rf_S → Prop} (h : wr_tells d x1 s Q) : rf_I d 82 [(0, .ref rf_o), (1, .int x1)] s Q := by
  unfold wr_tells at h
  unfold rf_I
  refine rf_R_wv rp_82 (rf_bk am_t82 0 4) 0 [(0, .ref rf_o), (1, .int x1)] [] s (by repeat (first | exact trivial | refine ⟨rfl, ?_⟩)) (by decide +kernel) ?_
  refine rf_R_if (b := am_cnd .ne (s.1 82) ((Int16.ofInt 1500).toInt32)) (p := 12) (q := 10) (fun hb => ?_) (fun hb => ?_)
  · replace h := h.1 (of_decide_eq_true hb)
    refine rf_R_wv rp_82 (rf_bk am_t82 6 6) 12 [(0, .ref rf_o), (1, .int x1)] [] s (by repeat (first | exact trivial | refine ⟨rfl, ?_⟩)) (by decide +kernel) ?_
    refine And.intro h.1 ?_
    replace h := h.2
    refine rf_R_wv rp_82 (rf_bk am_t82 12 6) 22 [(0, .ref rf_o), (1, .int x1)] [] (rf_sb s 81 (s.1 82).toNatClampNeg x1) (by repeat (first | exact trivial | refine ⟨rfl, ?_⟩)) (by decide +kernel) ?_
    refine And.intro rfl ?_
    refine rf_R_wv rp_82 (rf_bk am_t82 18 1) 32 [(0, .ref rf_o), (1, .int x1)] [] (rf_si (rf_sb s 81 (s.1 82).toNatClampNeg x1) 82 ((s.1 82) + (Int32.ofInt 1))) (by repeat (first | exact trivial | refine ⟨rfl, ?_⟩)) (by decide +kernel) ?_
    exact rf_R_ret (pc := 33) (v := some (.int (Int32.ofInt 1))) rp_82 rfl rfl rfl ⟨_, rfl, h⟩
  · replace h := h.2 (Decidable.not_not.mp (of_decide_eq_false hb))
    refine rf_R_wv rp_82 (rf_bk am_t82 4 1) 10 [(0, .ref rf_o), (1, .int x1)] [] s (by repeat (first | exact trivial | refine ⟨rfl, ?_⟩)) (by decide +kernel) ?_
    exact rf_R_ret (pc := 11) (v := some (.int (Int32.ofInt 0))) rp_82 rfl rfl rfl ⟨_, rfl, h⟩
/-- tellsNumber (I)Z, from 104 on -/
def wr_tellsNumber_104 (d : Nat) (x2 : Int32) (x3 : Int32) (x4 : Int32) (x5 : Int32) (s : rf_S) (Q : Int32 → rf_S → Prop) : Prop := rf_R (d + 1) 83 (38, [(0, .ref rf_o), (2, .int x2), (3, .int (x3 / ((Int8.ofInt 10).toInt32))), (4, .int x4), (5, .int x5)], [], s) (rf_qI Q)
set_option maxRecDepth 20000 in
theorem wr_tellsNumber_104_ok {d : Nat} {x2 : Int32} {x3 : Int32} {x4 : Int32} {x5 : Int32} {s : rf_S} {Q : Int32 → rf_S → Prop} (h : wr_tellsNumber_104 d x2 x3 x4 x5 s Q) : rf_R (d + 1) 83 (104, [(0, .ref rf_o), (2, .int x2), (3, .int x3), (4, .int x4), (5, .int x5)], [], s) (rf_qI Q) := by
  unfold wr_tellsNumber_104 at h
  refine rf_R_wv rp_83 (rf_bk am_t83 57 2) 104 [(0, .ref rf_o), (2, .int x2), (3, .int x3), (4, .int x4), (5, .int x5)] [] s (by repeat (first | exact trivial | refine ⟨rfl, ?_⟩)) (by decide +kernel) ?_
  refine rf_R_div (pc := 107) rp_83 rfl (by decide) ?_
  refine rf_R_wv rp_83 (rf_bk am_t83 60 2) 108 [(0, .ref rf_o), (2, .int x2), (3, .int x3), (4, .int x4), (5, .int x5)] [.int (x3 / ((Int8.ofInt 10).toInt32))] s (by repeat (first | exact trivial | refine ⟨rfl, ?_⟩)) (by decide +kernel) ?_
  exact rf_R_le (l := [(0, .ref rf_o), (2, .int x2), (3, .int (x3 / ((Int8.ofInt 10).toInt32))), (4, .int x4), (5, .int x5)]) rfl rfl (⟨rfl, rfl, rfl, rfl, rfl, trivial⟩) h
/-- tellsNumber (I)Z, from 103 on -/
def wr_tellsNumber_103 (d : Nat) (x3 : Int32) (x4 : Int32) (x5 : Int32) (y0 : Int32) (s : rf_S) (Q : Int32 → rf_S → Prop) : Prop := wr_tellsNumber_104 d y0 x3 x4 x5 s Q
set_option maxRecDepth 20000 in
theorem wr_tellsNumber_103_ok {d : Nat} {x3 : Int32} {x4 : Int32} {x5 : Int32} {y0 : Int32} {s : rf_S} {Q : Int32 → rf_S → Prop} (h : wr_tellsNumber_103 d x3 x4 x5 y0 s Q) : rf_R (d + 1) 83 (103, [(0, .ref rf_o), (3, .int x3), (4, .int x4), (5, .int x5)], [.int y0], s) (rf_qI Q) := by
  unfold wr_tellsNumber_103 at h
  refine rf_R_wv rp_83 (rf_bk am_t83 56 1) 103 [(0, .ref rf_o), (3, .int x3), (4, .int x4), (5, .int x5)] [.int y0] s (by repeat (first | exact trivial | refine ⟨rfl, ?_⟩)) (by decide +kernel) ?_
  exact rf_R_le (l := [(0, .ref rf_o), (2, .int y0), (3, .int x3), (4, .int x4), (5, .int x5)]) rfl rfl (⟨rfl, rfl, rfl, rfl, rfl, trivial⟩) (wr_tellsNumber_104_ok h)
/-- tellsNumber (I)Z, from 102 on -/
def wr_tellsNumber_102 (d : Nat) (x3 : Int32) (x4 : Int32) (x5 : Int32) (s : rf_S) (Q : Int32 → rf_S → Prop) : Prop := wr_tellsNumber_103 d x3 x4 x5 (Int32.ofInt 0) s Q
set_option maxRecDepth 20000 in
theorem wr_tellsNumber_102_ok {d : Nat} {x3 : Int32} {x4 : Int32} {x5 : Int32} {s : rf_S} {Q : Int32 → rf_S → Prop} (h : wr_tellsNumber_102 d x3 x4 x5 s Q) : rf_R (d + 1) 83 (102, [(0, .ref rf_o), (3, .int x3), (4, .int x4), (5, .int x5)], [], s) (rf_qI Q) := by
  unfold wr_tellsNumber_102 at h
  refine rf_R_wv rp_83 (rf_bk am_t83 55 1) 102 [(0, .ref rf_o), (3, .int x3), (4, .int x4), (5, .int x5)] [] s (by repeat (first | exact trivial | refine ⟨rfl, ?_⟩)) (by decide +kernel) ?_
  exact rf_R_le (l := [(0, .ref rf_o), (3, .int x3), (4, .int x4), (5, .int x5)]) rfl rfl (⟨rfl, rfl, rfl, rfl, trivial⟩) (wr_tellsNumber_103_ok h)
/-- tellsNumber (I)Z, from 75 on -/
def wr_tellsNumber_75 (d : Nat) (x2 : Int32) (x3 : Int32) (x4 : Int32) (x6 : Int32) (y0 : Int32) (s : rf_S) (Q : Int32 → rf_S → Prop) : Prop := ((y0 = 0 → wr_tellsNumber_104 d x2 x3 x4 y0 s Q) ∧ (¬ (y0 = 0) → ((x2 = 0 → wr_tellsNumber_102 d x3 x4 y0 s Q) ∧ (¬ (x2 = 0) → rf_I d 82 [(0, .ref rf_o), (1, .int (((Int8.ofInt 48).toInt32) + x6))] s (fun r1 s1 => ((r1 = 0 → wr_tellsNumber_102 d x3 x4 y0 s1 Q) ∧ (¬ (r1 = 0) → wr_tellsNumber_103 d x3 x4 y0 (Int32.ofInt 1) s1 Q)))))))
set_option maxRecDepth 20000 in
theorem wr_tellsNumber_75_ok {d : Nat} {x2 : Int32} {x3 : Int32} {x4 : Int32} {x6 : Int32} {y0 : Int32} {s : rf_S} {Q : Int32 → rf_S → Prop} (h : wr_tellsNumber_75 d x2 x3 x4 x6 y0 s Q) : rf_R (d + 1) 83 (75, [(0, .ref rf_o), (2, .int x2), (3, .int x3), (4, .int x4), (6, .int x6)], [.int y0], s) (rf_qI Q) := by
  unfold wr_tellsNumber_75 at h
  refine rf_R_wv rp_83 (rf_bk am_t83 42 3) 75 [(0, .ref rf_o), (2, .int x2), (3, .int x3), (4, .int x4), (6, .int x6)] [.int y0] s (by repeat (first | exact trivial | refine ⟨rfl, ?_⟩)) (by decide +kernel) ?_
  refine rf_R_if (b := am_cnd .eq y0 0) (p := 104) (q := 82) (fun hb => ?_) (fun hb => ?_)
  · replace h := h.1 (of_decide_eq_true hb)
    exact rf_R_le (l := [(0, .ref rf_o), (2, .int x2), (3, .int x3), (4, .int x4), (5, .int y0)]) rfl rfl (⟨rfl, rfl, rfl, rfl, rfl, trivial⟩) (wr_tellsNumber_104_ok h)
  · replace h := h.2 (of_decide_eq_false hb)
    refine rf_R_wv rp_83 (rf_bk am_t83 45 2) 82 [(5, .int y0), (0, .ref rf_o), (2, .int x2), (3, .int x3), (4, .int x4), (6, .int x6)] [] s (by repeat (first | exact trivial | refine ⟨rfl, ?_⟩)) (by decide +kernel) ?_
    refine rf_R_if (b := am_cnd .eq x2 0) (p := 102) (q := 86) (fun hb => ?_) (fun hb => ?_)
    · replace h := h.1 (of_decide_eq_true hb)
      exact rf_R_le (l := [(0, .ref rf_o), (3, .int x3), (4, .int x4), (5, .int y0)]) rfl rfl (⟨rfl, rfl, rfl, rfl, trivial⟩) (wr_tellsNumber_102_ok h)
    · replace h := h.2 (of_decide_eq_false hb)
      refine rf_R_wv rp_83 (rf_bk am_t83 47 4) 86 [(5, .int y0), (0, .ref rf_o), (2, .int x2), (3, .int x3), (4, .int x4), (6, .int x6)] [] s (by repeat (first | exact trivial | refine ⟨rfl, ?_⟩)) (by decide +kernel) ?_
      refine rf_R_call (pc := 92) (q := ([.ref rf_o, .int (((Int8.ofInt 48).toInt32) + x6)], [])) rp_83 rfl rfl (by decide) rp_82 rfl (Nat.le_of_ble_eq_true rfl) ⟨rfl, Nat.le_of_ble_eq_true rfl⟩ h (fun v s1 h => ?_)
      obtain ⟨r1, rfl, h⟩ := h
      refine rf_R_wv rp_83 (rf_bk am_t83 52 1) 95 [(5, .int y0), (0, .ref rf_o), (2, .int x2), (3, .int x3), (4, .int x4), (6, .int x6)] [.int r1] s1 (by repeat (first | exact trivial | refine ⟨rfl, ?_⟩)) (by decide +kernel) ?_
      refine rf_R_if (b := am_cnd .eq r1 0) (p := 102) (q := 98) (fun hb => ?_) (fun hb => ?_)
      · replace h := h.1 (of_decide_eq_true hb)
        exact rf_R_le (l := [(0, .ref rf_o), (3, .int x3), (4, .int x4), (5, .int y0)]) rfl rfl (⟨rfl, rfl, rfl, rfl, trivial⟩) (wr_tellsNumber_102_ok h)
      · replace h := h.2 (of_decide_eq_false hb)
        refine rf_R_wv rp_83 (rf_bk am_t83 53 2) 98 [(5, .int y0), (0, .ref rf_o), (2, .int x2), (3, .int x3), (4, .int x4), (6, .int x6)] [] s1 (by repeat (first | exact trivial | refine ⟨rfl, ?_⟩)) (by decide +kernel) ?_
        exact rf_R_le (l := [(0, .ref rf_o), (3, .int x3), (4, .int x4), (5, .int y0)]) rfl rfl (⟨rfl, rfl, rfl, rfl, trivial⟩) (wr_tellsNumber_103_ok h)
/-- tellsNumber (I)Z, from 70 on -/
def wr_tellsNumber_70 (d : Nat) (x2 : Int32) (x3 : Int32) (x4 : Int32) (x6 : Int32) (s : rf_S) (Q : Int32 → rf_S → Prop) : Prop := wr_tellsNumber_75 d x2 x3 x4 x6 (Int32.ofInt 1) s Q
set_option maxRecDepth 20000 in
theorem wr_tellsNumber_70_ok {d : Nat} {x2 : Int32} {x3 : Int32} {x4 : Int32} {x6 : Int32} {s : rf_S} {Q : Int32 → rf_S → Prop} (h : wr_tellsNumber_70 d x2 x3 x4 x6 s Q) : rf_R (d + 1) 83 (70, [(0, .ref rf_o), (2, .int x2), (3, .int x3), (4, .int x4), (6, .int x6)], [], s) (rf_qI Q) := by
  unfold wr_tellsNumber_70 at h
  refine rf_R_wv rp_83 (rf_bk am_t83 39 2) 70 [(0, .ref rf_o), (2, .int x2), (3, .int x3), (4, .int x4), (6, .int x6)] [] s (by repeat (first | exact trivial | refine ⟨rfl, ?_⟩)) (by decide +kernel) ?_
  exact rf_R_le (l := [(0, .ref rf_o), (2, .int x2), (3, .int x3), (4, .int x4), (6, .int x6)]) rfl rfl (⟨rfl, rfl, rfl, rfl, rfl, trivial⟩) (wr_tellsNumber_75_ok h)
/-- tellsNumber (I)Z, from 38 on -/
def wr_tellsNumber_38 (d : Nat) (x2 : Int32) (x3 : Int32) (x4 : Int32) (x5 : Int32) (s : rf_S) (Q : Int32 → rf_S → Prop) : Prop := ((x3 ≤ 0 → (am_fit .boolean (.int x2) = true ∧ Q x2 s)) ∧ (¬ (x3 ≤ 0) → (¬ x3 = 0 ∧ (¬ x3 = 0 ∧ ((¬ x5 = 0 → wr_tellsNumber_70 d x2 x3 (x4 - x4 / x3 * x3) (-(x4 / x3)) s Q) ∧ (x5 = 0 → ((0 < (-(x4 / x3)) → wr_tellsNumber_70 d x2 x3 (x4 - x4 / x3 * x3) (-(x4 / x3)) s Q) ∧ (¬ (0 < (-(x4 / x3))) → ((¬ x3 = (Int32.ofInt 1) → wr_tellsNumber_75 d x2 x3 (x4 - x4 / x3 * x3) (-(x4 / x3)) (Int32.ofInt 0) s Q) ∧ (x3 = (Int32.ofInt 1) → wr_tellsNumber_70 d x2 x3 (x4 - x4 / x3 * x3) (-(x4 / x3)) s Q))))))))))
set_option maxRecDepth 20000 in
theorem wr_tellsNumber_38_ok {d : Nat} {x2 : Int32} {x3 : Int32} {x4 : Int32} {x5 : Int32} {s : rf_S} {Q : Int32 → rf_S → Prop} (h : wr_tellsNumber_38 d x2 x3 x4 x5 s Q) : rf_R (d + 1) 83 (38, [(0, .ref rf_o), (2, .int x2), (3, .int x3), (4, .int x4), (5, .int x5)], [], s) (rf_qI Q) := by
  unfold wr_tellsNumber_38 at h
  refine rf_R_wv rp_83 (rf_bk am_t83 21 2) 38 [(0, .ref rf_o), (2, .int x2), (3, .int x3), (4, .int x4), (5, .int x5)] [] s (by repeat (first | exact trivial | refine ⟨rfl, ?_⟩)) (by decide +kernel) ?_
  refine rf_R_if (b := am_cnd .le x3 0) (p := 112) (q := 42) (fun hb => ?_) (fun hb => ?_)
  · replace h := h.1 (of_decide_eq_true hb)
    refine rf_R_wv rp_83 (rf_bk am_t83 62 1) 112 [(0, .ref rf_o), (2, .int x2), (3, .int x3), (4, .int x4), (5, .int x5)] [] s (by repeat (first | exact trivial | refine ⟨rfl, ?_⟩)) (by decide +kernel) ?_
    exact rf_R_retF (pc := 113) rp_83 rfl rfl h.1 ⟨_, rfl, h.2⟩
  · replace h := h.2 (of_decide_eq_false hb)
    refine rf_R_wv rp_83 (rf_bk am_t83 23 2) 42 [(0, .ref rf_o), (2, .int x2), (3, .int x3), (4, .int x4), (5, .int x5)] [] s (by repeat (first | exact trivial | refine ⟨rfl, ?_⟩)) (by decide +kernel) ?_
    refine rf_R_div (pc := 45) rp_83 rfl h.1 ?_
    replace h := h.2
    refine rf_R_wv rp_83 (rf_bk am_t83 26 4) 46 [(0, .ref rf_o), (2, .int x2), (3, .int x3), (4, .int x4), (5, .int x5)] [.int (x4 / x3)] s (by repeat (first | exact trivial | refine ⟨rfl, ?_⟩)) (by decide +kernel) ?_
    refine rf_R_rem (pc := 52) rp_83 rfl h.1 ?_
    replace h := h.2
    refine rf_R_wv rp_83 (rf_bk am_t83 31 3) 53 [(6, .int (-(x4 / x3))), (0, .ref rf_o), (2, .int x2), (3, .int x3), (4, .int x4), (5, .int x5)] [.int (x4 - x4 / x3 * x3)] s (by repeat (first | exact trivial | refine ⟨rfl, ?_⟩)) (by decide +kernel) ?_
    refine rf_R_if (b := am_cnd .ne x5 0) (p := 70) (q := 60) (fun hb => ?_) (fun hb => ?_)
    · replace h := h.1 (of_decide_eq_true hb)
      exact rf_R_le (l := [(0, .ref rf_o), (2, .int x2), (3, .int x3), (4, .int (x4 - x4 / x3 * x3)), (6, .int (-(x4 / x3)))]) rfl rfl (⟨rfl, rfl, rfl, rfl, rfl, trivial⟩) (wr_tellsNumber_70_ok h)
    · replace h := h.2 (Decidable.not_not.mp (of_decide_eq_false hb))
      refine rf_R_wv rp_83 (rf_bk am_t83 34 2) 60 [(4, .int (x4 - x4 / x3 * x3)), (6, .int (-(x4 / x3))), (0, .ref rf_o), (2, .int x2), (3, .int x3), (5, .int x5)] [] s (by repeat (first | exact trivial | refine ⟨rfl, ?_⟩)) (by decide +kernel) ?_
      refine rf_R_if (b := am_cnd .gt (-(x4 / x3)) 0) (p := 70) (q := 65) (fun hb => ?_) (fun hb => ?_)
      · replace h := h.1 (of_decide_eq_true hb)
        exact rf_R_le (l := [(0, .ref rf_o), (2, .int x2), (3, .int x3), (4, .int (x4 - x4 / x3 * x3)), (6, .int (-(x4 / x3)))]) rfl rfl (⟨rfl, rfl, rfl, rfl, rfl, trivial⟩) (wr_tellsNumber_70_ok h)
      · replace h := h.2 (of_decide_eq_false hb)
        refine rf_R_wv rp_83 (rf_bk am_t83 36 3) 65 [(4, .int (x4 - x4 / x3 * x3)), (6, .int (-(x4 / x3))), (0, .ref rf_o), (2, .int x2), (3, .int x3), (5, .int x5)] [] s (by repeat (first | exact trivial | refine ⟨rfl, ?_⟩)) (by decide +kernel) ?_
        refine rf_R_if (b := am_cnd .ne x3 (Int32.ofInt 1)) (p := 74) (q := 70) (fun hb => ?_) (fun hb => ?_)
        · replace h := h.1 (of_decide_eq_true hb)
          refine rf_R_wv rp_83 (rf_bk am_t83 41 1) 74 [(4, .int (x4 - x4 / x3 * x3)), (6, .int (-(x4 / x3))), (0, .ref rf_o), (2, .int x2), (3, .int x3), (5, .int x5)] [] s (by repeat (first | exact trivial | refine ⟨rfl, ?_⟩)) (by decide +kernel) ?_
          exact rf_R_le (l := [(0, .ref rf_o), (2, .int x2), (3, .int x3), (4, .int (x4 - x4 / x3 * x3)), (6, .int (-(x4 / x3)))]) rfl rfl (⟨rfl, rfl, rfl, rfl, rfl, trivial⟩) (wr_tellsNumber_75_ok h)
        · replace h := h.2 (Decidable.not_not.mp (of_decide_eq_false hb))
          exact rf_R_le (l := [(0, .ref rf_o), (2, .int x2), (3, .int x3), (4, .int (x4 - x4 / x3 * x3)), (6, .int (-(x4 / x3)))]) rfl rfl (⟨rfl, rfl, rfl, rfl, rfl, trivial⟩) (wr_tellsNumber_70_ok h)
/-- tellsNumber (I)Z, from 33 on -/
def wr_tellsNumber_33 (d : Nat) (x2 : Int32) (x3 : Int32) (y0 : Int32) (s : rf_S) (Q : Int32 → rf_S → Prop) : Prop := rf_R (d + 1) 83 (38, [(0, .ref rf_o), (2, .int x2), (3, .int x3), (4, .int y0), (5, .int (Int32.ofInt 0))], [], s) (rf_qI Q)
set_option maxRecDepth 20000 in
theorem wr_tellsNumber_33_ok {d : Nat} {x2 : Int32} {x3 : Int32} {y0 : Int32} {s : rf_S} {Q : Int32 → rf_S → Prop} (h : wr_tellsNumber_33 d x2 x3 y0 s Q) : rf_R (d + 1) 83 (33, [(0, .ref rf_o), (2, .int x2), (3, .int x3)], [.int y0], s) (rf_qI Q) := by
  unfold wr_tellsNumber_33 at h
  refine rf_R_wv rp_83 (rf_bk am_t83 18 3) 33 [(0, .ref rf_o), (2, .int x2), (3, .int x3)] [.int y0] s (by repeat (first | exact trivial | refine ⟨rfl, ?_⟩)) (by decide +kernel) ?_
  exact rf_R_le (l := [(0, .ref rf_o), (2, .int x2), (3, .int x3), (4, .int y0), (5, .int (Int32.ofInt 0))]) rfl rfl (⟨rfl, rfl, rfl, rfl, rfl, trivial⟩) h
/-- tellsNumber (I)Z, from 18 on -/
def wr_tellsNumber_18 (d : Nat) (x1 : Int32) (y0 : Int32) (s : rf_S) (Q : Int32 → rf_S → Prop) : Prop := ((0 ≤ x1 → wr_tellsNumber_33 d y0 (Int32.ofNat 1000000000) (-x1) s Q) ∧ (¬ (0 ≤ x1) → wr_tellsNumber_33 d y0 (Int32.ofNat 1000000000) x1 s Q))
set_option maxRecDepth 20000 in
theorem wr_tellsNumber_18_ok {d : Nat} {x1 : Int32} {y0 : Int32} {s : rf_S} {Q : Int32 → rf_S → Prop} (h : wr_tellsNumber_18 d x1 y0 s Q) : rf_R (d + 1) 83 (18, [(0, .ref rf_o), (1, .int x1)], [.int y0], s) (rf_qI Q) := by
  unfold wr_tellsNumber_18 at h
  refine rf_R_wv rp_83 (rf_bk am_t83 9 5) 18 [(0, .ref rf_o), (1, .int x1)] [.int y0] s (by repeat (first | exact trivial | refine ⟨rfl, ?_⟩)) (by decide +kernel) ?_
  refine rf_R_if (b := am_cnd .ge x1 0) (p := 31) (q := 27) (fun hb => ?_) (fun hb => ?_)
  · replace h := h.1 (of_decide_eq_true hb)
    refine rf_R_wv rp_83 (rf_bk am_t83 16 2) 31 [(3, .int (Int32.ofNat 1000000000)), (2, .int y0), (0, .ref rf_o), (1, .int x1)] [] s (by repeat (first | exact trivial | refine ⟨rfl, ?_⟩)) (by decide +kernel) ?_
    exact rf_R_le (l := [(0, .ref rf_o), (2, .int y0), (3, .int (Int32.ofNat 1000000000))]) rfl rfl (⟨rfl, rfl, rfl, trivial⟩) (wr_tellsNumber_33_ok h)
  · replace h := h.2 (of_decide_eq_false hb)
    refine rf_R_wv rp_83 (rf_bk am_t83 14 2) 27 [(3, .int (Int32.ofNat 1000000000)), (2, .int y0), (0, .ref rf_o), (1, .int x1)] [] s (by repeat (first | exact trivial | refine ⟨rfl, ?_⟩)) (by decide +kernel) ?_
    exact rf_R_le (l := [(0, .ref rf_o), (2, .int y0), (3, .int (Int32.ofNat 1000000000))]) rfl rfl (⟨rfl, rfl, rfl, trivial⟩) (wr_tellsNumber_33_ok h)
/-- tellsNumber (I)Z, from 13 on -/
def wr_tellsNumber_13 (d : Nat) (x1 : Int32) (s : rf_S) (Q : Int32 → rf_S → Prop) : Prop := wr_tellsNumber_18 d x1 (Int32.ofInt 1) s Q
set_option maxRecDepth 20000 in
theorem wr_tellsNumber_13_ok {d : Nat} {x1 : Int32} {s : rf_S} {Q : Int32 → rf_S → Prop} (h : wr_tellsNumber_13 d x1 s Q) : rf_R (d + 1) 83 (13, [(0, .ref rf_o), (1, .int x1)], [], s) (rf_qI Q) := by
  unfold wr_tellsNumber_13 at h
  refine rf_R_wv rp_83 (rf_bk am_t83 6 2) 13 [(0, .ref rf_o), (1, .int x1)] [] s (by repeat (first | exact trivial | refine ⟨rfl, ?_⟩)) (by decide +kernel) ?_
  exact rf_R_le (l := [(0, .ref rf_o), (1, .int x1)]) rfl rfl (⟨rfl, rfl, trivial⟩) (wr_tellsNumber_18_ok h)
/-- tellsNumber (I)Z, from 0 on -/
def wr_tellsNumber (d : Nat) (x1 : Int32) (s : rf_S) (Q : Int32 → rf_S → Prop) : Prop := ((0 ≤ x1 → wr_tellsNumber_13 d x1 s Q) ∧ (¬ (0 ≤ x1) → rf_I d 82 [(0, .ref rf_o), (1, .int ((Int8.ofInt 45).toInt32))] s (fun r1 s1 => ((r1 = 0 → wr_tellsNumber_18 d x1 (Int32.ofInt 0) s1 Q) ∧ (¬ (r1 = 0) → wr_tellsNumber_13 d x1 s1 Q)))))
set_option maxRecDepth 20000 in
theorem wr_tellsNumber_ok {d : Nat} {x1 : Int32} {s : rf_S} {Q : Int32 → rf_S → Prop} (h : wr_tellsNumber d x1 s Q) : rf_I (d + 1) 83 [(0, .ref rf_o), (1, .int x1)] s Q := by
  unfold wr_tellsNumber at h
  unfold rf_I
  refine rf_R_wv rp_83 (rf_bk am_t83 0 2) 0 [(0, .ref rf_o), (1, .int x1)] [] s (by repeat (first | exact trivial | refine ⟨rfl, ?_⟩)) (by decide +kernel) ?_
  refine rf_R_if (b := am_cnd .ge x1 0) (p := 13) (q := 4) (fun hb => ?_) (fun hb => ?_)
  · replace h := h.1 (of_decide_eq_true hb)
    exact rf_R_le (l := [(0, .ref rf_o), (1, .int x1)]) rfl rfl (⟨rfl, rfl, trivial⟩) (wr_tellsNumber_13_ok h)
  · replace h := h.2 (of_decide_eq_false hb)
    refine rf_R_wv rp_83 (rf_bk am_t83 2 2) 4 [(0, .ref rf_o), (1, .int x1)] [] s (by repeat (first | exact trivial | refine ⟨rfl, ?_⟩)) (by decide +kernel) ?_
    refine rf_R_call (pc := 7) (q := ([.ref rf_o, .int ((Int8.ofInt 45).toInt32)], [])) rp_83 rfl rfl (by decide) rp_82 rfl (Nat.le_of_ble_eq_true rfl) ⟨rfl, Nat.le_of_ble_eq_true rfl⟩ h (fun v s1 h => ?_)
    obtain ⟨r1, rfl, h⟩ := h
    refine rf_R_wv rp_83 (rf_bk am_t83 5 1) 10 [(0, .ref rf_o), (1, .int x1)] [.int r1] s1 (by repeat (first | exact trivial | refine ⟨rfl, ?_⟩)) (by decide +kernel) ?_
    refine rf_R_if (b := am_cnd .eq r1 0) (p := 17) (q := 13) (fun hb => ?_) (fun hb => ?_)
    · replace h := h.1 (of_decide_eq_true hb)
      refine rf_R_wv rp_83 (rf_bk am_t83 8 1) 17 [(0, .ref rf_o), (1, .int x1)] [] s1 (by repeat (first | exact trivial | refine ⟨rfl, ?_⟩)) (by decide +kernel) ?_
      exact rf_R_le (l := [(0, .ref rf_o), (1, .int x1)]) rfl rfl (⟨rfl, rfl, trivial⟩) (wr_tellsNumber_18_ok h)
    · replace h := h.2 (of_decide_eq_false hb)
      exact rf_R_le (l := [(0, .ref rf_o), (1, .int x1)]) rfl rfl (⟨rfl, rfl, trivial⟩) (wr_tellsNumber_13_ok h)
