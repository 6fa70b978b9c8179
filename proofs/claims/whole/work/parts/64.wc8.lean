/-! PART 64: the class, decompiled: Program.gather, Program.forget, Program.mainDefinition, Program.hasParameters, Reader.rewind, Reader.kind, Reader.place, Reader.value, Reader.refused, Reader.refuse, Reader.advance, Reader.readNumber, Reader.skipLetters, Reader.readSign, Reader.isSign, Reader.isBlank, Reader.isDigit, Reader.isCapital, Reader.isSmall, Reader.isLetterOrDigit, Stack.clear, Stack.used, Stack.frames, Stack.push, Stack.kind, Stack.about, Stack.slots, Stack.slot, Stack.setSlot, Stack.pop -/
/-- LazyHouse$Program.gather (I)V, from 172 on -/
def wc_Program_gather_172 (d : Nat) (x1 : Int32) (x2 : Int32) (x3 : Int32) (x4 : Int32) (x5 : Int32) (s : cf_S) (Q : cf_S → Prop) : Prop := cf_R (d + 10) 235 (67, [(0, .ref 3), (1, .int x1), (2, .int x2), (3, .int x3), (4, .int x4), (5, .int (x5 + Int32.ofInt 1))], [], s) (cf_qV Q)
set_option maxRecDepth 20000 in
theorem wc_Program_gather_172_ok {d : Nat} {x1 : Int32} {x2 : Int32} {x3 : Int32} {x4 : Int32} {x5 : Int32} {s : cf_S} {Q : cf_S → Prop} (h : wc_Program_gather_172 d x1 x2 x3 x4 x5 s Q) : cf_R (d + 10) 235 (172, [(0, .ref 3), (1, .int x1), (2, .int x2), (3, .int x3), (4, .int x4), (5, .int x5)], [], s) (cf_qV Q) := by
  unfold wc_Program_gather_172 at h
  refine cf_R_w rp_235 (rf_bk am_t235 85 2) 172 [(0, .ref 3), (1, .int x1), (2, .int x2), (3, .int x3), (4, .int x4), (5, .int x5)] [] s (by repeat (first | exact trivial | refine ⟨rfl, ?_⟩)) (by decide +kernel) ?_
  exact cf_R_le (l := [(0, .ref 3), (1, .int x1), (2, .int x2), (3, .int x3), (4, .int x4), (5, .int (x5 + Int32.ofInt 1))]) rfl rfl (⟨rfl, rfl, rfl, rfl, rfl, rfl, trivial⟩) h
/-- LazyHouse$Program.gather (I)V, from 117 on -/
def wc_Program_gather_117 (d : Nat) (x1 : Int32) (x2 : Int32) (x3 : Int32) (x4 : Int32) (x5 : Int32) (x6 : Int32) (y0 : Int32) (s : cf_S) (Q : cf_S → Prop) : Prop := ((y0 = 0 → wc_Program_gather_172 d x1 x2 x3 x4 x5 s Q) ∧ (¬ (y0 = 0) → (((tb_get s 14 x6 (Int32.ofInt 2)) = (s.1 3 10) → wc_Program_gather_172 d x1 x2 x3 x4 x5 s Q) ∧ (¬ ((tb_get s 14 x6 (Int32.ofInt 2)) = (s.1 3 10)) → (cf_N (tb_set s 14 x6 (Int32.ofInt 2) (s.1 3 10)) + 1 < 1000000000 ∧ wc_Program_gather_172 d x1 x2 x3 x4 x5 (tb_set (tb_add (tb_set s 14 x6 (Int32.ofInt 2) (s.1 3 10)) 20) 20 (tb_new (tb_set s 14 x6 (Int32.ofInt 2) (s.1 3 10)) 20) (Int32.ofInt 0) x6) Q)))))
set_option maxRecDepth 20000 in
theorem wc_Program_gather_117_ok {d : Nat} {x1 : Int32} {x2 : Int32} {x3 : Int32} {x4 : Int32} {x5 : Int32} {x6 : Int32} {y0 : Int32} {s : cf_S} {Q : cf_S → Prop} (h : wc_Program_gather_117 d x1 x2 x3 x4 x5 x6 y0 s Q) : cf_R (d + 10) 235 (117, [(0, .ref 3), (1, .int x1), (2, .int x2), (3, .int x3), (4, .int x4), (5, .int x5), (6, .int x6)], [.int y0], s) (cf_qV Q) := by
  unfold wc_Program_gather_117 at h
  refine cf_R_w rp_235 (rf_bk am_t235 59 3) 117 [(0, .ref 3), (1, .int x1), (2, .int x2), (3, .int x3), (4, .int x4), (5, .int x5), (6, .int x6)] [.int y0] s (by repeat (first | exact trivial | refine ⟨rfl, ?_⟩)) (by decide +kernel) ?_
  refine cf_R_if (b := am_cnd .eq y0 0) (p := 172) (q := 124) (fun hb => ?_) (fun hb => ?_)
  · replace h := h.1 (of_decide_eq_true hb)
    exact cf_R_le (l := [(0, .ref 3), (1, .int x1), (2, .int x2), (3, .int x3), (4, .int x4), (5, .int x5)]) rfl rfl (⟨rfl, rfl, rfl, rfl, rfl, rfl, trivial⟩) (wc_Program_gather_172_ok h)
  · replace h := h.2 (of_decide_eq_false hb)
    refine cf_R_w rp_235 (rf_bk am_t235 62 4) 124 [(7, .int y0), (0, .ref 3), (1, .int x1), (2, .int x2), (3, .int x3), (4, .int x4), (5, .int x5), (6, .int x6)] [] s (by repeat (first | exact trivial | refine ⟨rfl, ?_⟩)) (by decide +kernel) ?_
    refine cf_R_prim (pc := 131) (q := ([.ref 14, .int x6, .int (Int32.ofInt 2)], [])) rp_235 rfl rfl (by decide) (by decide) rp_273 rfl (Nat.le_of_ble_eq_true rfl) ⟨rfl, Nat.le_of_ble_eq_true rfl⟩ (cq_get rfl) ?_
    refine cf_R_w rp_235 (rf_bk am_t235 67 3) 134 [(7, .int y0), (0, .ref 3), (1, .int x1), (2, .int x2), (3, .int x3), (4, .int x4), (5, .int x5), (6, .int x6)] [.int (tb_get s 14 x6 (Int32.ofInt 2))] s (by repeat (first | exact trivial | refine ⟨rfl, ?_⟩)) (by decide +kernel) ?_
    refine cf_R_if (b := am_cnd .eq (tb_get s 14 x6 (Int32.ofInt 2)) (s.1 3 10)) (p := 172) (q := 141) (fun hb => ?_) (fun hb => ?_)
    · replace h := h.1 (of_decide_eq_true hb)
      exact cf_R_le (l := [(0, .ref 3), (1, .int x1), (2, .int x2), (3, .int x3), (4, .int x4), (5, .int x5)]) rfl rfl (⟨rfl, rfl, rfl, rfl, rfl, rfl, trivial⟩) (wc_Program_gather_172_ok h)
    · replace h := h.2 (of_decide_eq_false hb)
      refine cf_R_w rp_235 (rf_bk am_t235 70 6) 141 [(7, .int y0), (0, .ref 3), (1, .int x1), (2, .int x2), (3, .int x3), (4, .int x4), (5, .int x5), (6, .int x6)] [] s (by repeat (first | exact trivial | refine ⟨rfl, ?_⟩)) (by decide +kernel) ?_
      refine cf_R_prim (pc := 152) (q := ([.ref 14, .int x6, .int (Int32.ofInt 2), .int (s.1 3 10)], [])) rp_235 rfl rfl (by decide) (by decide) rp_274 rfl (Nat.le_of_ble_eq_true rfl) ⟨rfl, Nat.le_of_ble_eq_true rfl⟩ (cq_set rfl) ?_
      refine cf_R_w rp_235 (rf_bk am_t235 77 4) 155 [(7, .int y0), (0, .ref 3), (1, .int x1), (2, .int x2), (3, .int x3), (4, .int x4), (5, .int x5), (6, .int x6)] [] (tb_set s 14 x6 (Int32.ofInt 2) (s.1 3 10)) (by repeat (first | exact trivial | refine ⟨rfl, ?_⟩)) (by decide +kernel) ?_
      have hr := h.1
      replace h := h.2
      refine cf_R_prim (pc := 163) (q := ([.ref 20], [.ref 20])) rp_235 rfl rfl (by decide) (by decide) rp_272 rfl (Nat.le_of_ble_eq_true rfl) ⟨rfl, Nat.le_of_ble_eq_true rfl⟩ (cq_tadd rfl hr) ?_
      refine cf_R_w rp_235 (rf_bk am_t235 82 2) 166 [(7, .int y0), (0, .ref 3), (1, .int x1), (2, .int x2), (3, .int x3), (4, .int x4), (5, .int x5), (6, .int x6)] [.int (tb_new (tb_set s 14 x6 (Int32.ofInt 2) (s.1 3 10)) 20), .ref 20] (tb_add (tb_set s 14 x6 (Int32.ofInt 2) (s.1 3 10)) 20) (by repeat (first | exact trivial | refine ⟨rfl, ?_⟩)) (by decide +kernel) ?_
      refine cf_R_prim (pc := 169) (q := ([.ref 20, .int (tb_new (tb_set s 14 x6 (Int32.ofInt 2) (s.1 3 10)) 20), .int (Int32.ofInt 0), .int x6], [])) rp_235 rfl rfl (by decide) (by decide) rp_274 rfl (Nat.le_of_ble_eq_true rfl) ⟨rfl, Nat.le_of_ble_eq_true rfl⟩ (cq_set rfl) ?_
      exact cf_R_le (l := [(0, .ref 3), (1, .int x1), (2, .int x2), (3, .int x3), (4, .int x4), (5, .int x5)]) rfl rfl (⟨rfl, rfl, rfl, rfl, rfl, rfl, trivial⟩) (wc_Program_gather_172_ok h)
/-- LazyHouse$Program.gather (I)V, from 116 on -/
def wc_Program_gather_116 (d : Nat) (x1 : Int32) (x2 : Int32) (x3 : Int32) (x4 : Int32) (x5 : Int32) (x6 : Int32) (s : cf_S) (Q : cf_S → Prop) : Prop := wc_Program_gather_117 d x1 x2 x3 x4 x5 x6 (Int32.ofInt 0) s Q
set_option maxRecDepth 20000 in
theorem wc_Program_gather_116_ok {d : Nat} {x1 : Int32} {x2 : Int32} {x3 : Int32} {x4 : Int32} {x5 : Int32} {x6 : Int32} {s : cf_S} {Q : cf_S → Prop} (h : wc_Program_gather_116 d x1 x2 x3 x4 x5 x6 s Q) : cf_R (d + 10) 235 (116, [(0, .ref 3), (1, .int x1), (2, .int x2), (3, .int x3), (4, .int x4), (5, .int x5), (6, .int x6)], [], s) (cf_qV Q) := by
  unfold wc_Program_gather_116 at h
  refine cf_R_w rp_235 (rf_bk am_t235 58 1) 116 [(0, .ref 3), (1, .int x1), (2, .int x2), (3, .int x3), (4, .int x4), (5, .int x5), (6, .int x6)] [] s (by repeat (first | exact trivial | refine ⟨rfl, ?_⟩)) (by decide +kernel) ?_
  exact cf_R_le (l := [(0, .ref 3), (1, .int x1), (2, .int x2), (3, .int x3), (4, .int x4), (5, .int x5), (6, .int x6)]) rfl rfl (⟨rfl, rfl, rfl, rfl, rfl, rfl, rfl, trivial⟩) (wc_Program_gather_117_ok h)
/-- LazyHouse$Program.gather (I)V, from 112 on -/
def wc_Program_gather_112 (d : Nat) (x1 : Int32) (x2 : Int32) (x3 : Int32) (x4 : Int32) (x5 : Int32) (x6 : Int32) (s : cf_S) (Q : cf_S → Prop) : Prop := wc_Program_gather_117 d x1 x2 x3 x4 x5 x6 (Int32.ofInt 1) s Q
set_option maxRecDepth 20000 in
theorem wc_Program_gather_112_ok {d : Nat} {x1 : Int32} {x2 : Int32} {x3 : Int32} {x4 : Int32} {x5 : Int32} {x6 : Int32} {s : cf_S} {Q : cf_S → Prop} (h : wc_Program_gather_112 d x1 x2 x3 x4 x5 x6 s Q) : cf_R (d + 10) 235 (112, [(0, .ref 3), (1, .int x1), (2, .int x2), (3, .int x3), (4, .int x4), (5, .int x5), (6, .int x6)], [], s) (cf_qV Q) := by
  unfold wc_Program_gather_112 at h
  refine cf_R_w rp_235 (rf_bk am_t235 56 2) 112 [(0, .ref 3), (1, .int x1), (2, .int x2), (3, .int x3), (4, .int x4), (5, .int x5), (6, .int x6)] [] s (by repeat (first | exact trivial | refine ⟨rfl, ?_⟩)) (by decide +kernel) ?_
  exact cf_R_le (l := [(0, .ref 3), (1, .int x1), (2, .int x2), (3, .int x3), (4, .int x4), (5, .int x5), (6, .int x6)]) rfl rfl (⟨rfl, rfl, rfl, rfl, rfl, rfl, rfl, trivial⟩) (wc_Program_gather_117_ok h)
/-- LazyHouse$Program.gather (I)V, from 67 on -/
def wc_Program_gather_67 (d : Nat) (x1 : Int32) (x2 : Int32) (x3 : Int32) (x4 : Int32) (x5 : Int32) (s : cf_S) (Q : cf_S → Prop) : Prop := (((tb_get s 18 x1 ((Int8.ofInt 8).toInt32)) ≤ x5 → Q (tb_set (tb_set s 18 x1 ((Int8.ofInt 11).toInt32) x2) 18 x1 ((Int8.ofInt 12).toInt32) ((s.1 20 2) - x2))) ∧ (¬ ((tb_get s 18 x1 ((Int8.ofInt 8).toInt32)) ≤ x5) → (((tb_get s 16 x5 (Int32.ofInt 3)) = 0 → wc_Program_gather_116 d x1 x2 x3 x4 x5 (tb_get s 16 x5 (Int32.ofInt 3)) s Q) ∧ (¬ ((tb_get s 16 x5 (Int32.ofInt 3)) = 0) → (((tb_get s 16 x5 (Int32.ofInt 3)) < x3 → wc_Program_gather_112 d x1 x2 x3 x4 x5 (tb_get s 16 x5 (Int32.ofInt 3)) s Q) ∧ (¬ ((tb_get s 16 x5 (Int32.ofInt 3)) < x3) → (((tb_get s 16 x5 (Int32.ofInt 3)) < x4 → wc_Program_gather_116 d x1 x2 x3 x4 x5 (tb_get s 16 x5 (Int32.ofInt 3)) s Q) ∧ (¬ ((tb_get s 16 x5 (Int32.ofInt 3)) < x4) → wc_Program_gather_112 d x1 x2 x3 x4 x5 (tb_get s 16 x5 (Int32.ofInt 3)) s Q))))))))
set_option maxRecDepth 20000 in
theorem wc_Program_gather_67_ok {d : Nat} {x1 : Int32} {x2 : Int32} {x3 : Int32} {x4 : Int32} {x5 : Int32} {s : cf_S} {Q : cf_S → Prop} (h : wc_Program_gather_67 d x1 x2 x3 x4 x5 s Q) : cf_R (d + 10) 235 (67, [(0, .ref 3), (1, .int x1), (2, .int x2), (3, .int x3), (4, .int x4), (5, .int x5)], [], s) (cf_qV Q) := by
  unfold wc_Program_gather_67 at h
  refine cf_R_w rp_235 (rf_bk am_t235 35 5) 67 [(0, .ref 3), (1, .int x1), (2, .int x2), (3, .int x3), (4, .int x4), (5, .int x5)] [] s (by repeat (first | exact trivial | refine ⟨rfl, ?_⟩)) (by decide +kernel) ?_
  refine cf_R_prim (pc := 76) (q := ([.ref 18, .int x1, .int ((Int8.ofInt 8).toInt32)], [.int x5])) rp_235 rfl rfl (by decide) (by decide) rp_273 rfl (Nat.le_of_ble_eq_true rfl) ⟨rfl, Nat.le_of_ble_eq_true rfl⟩ (cq_get rfl) ?_
  refine cf_R_w rp_235 (rf_bk am_t235 41 1) 79 [(0, .ref 3), (1, .int x1), (2, .int x2), (3, .int x3), (4, .int x4), (5, .int x5)] [.int (tb_get s 18 x1 ((Int8.ofInt 8).toInt32)), .int x5] s (by repeat (first | exact trivial | refine ⟨rfl, ?_⟩)) (by decide +kernel) ?_
  refine cf_R_if (b := am_cnd .ge x5 (tb_get s 18 x1 ((Int8.ofInt 8).toInt32))) (p := 178) (q := 82) (fun hb => ?_) (fun hb => ?_)
  · replace h := h.1 (of_decide_eq_true hb)
    refine cf_R_w rp_235 (rf_bk am_t235 87 5) 178 [(0, .ref 3), (1, .int x1), (2, .int x2), (3, .int x3), (4, .int x4), (5, .int x5)] [] s (by repeat (first | exact trivial | refine ⟨rfl, ?_⟩)) (by decide +kernel) ?_
    refine cf_R_prim (pc := 186) (q := ([.ref 18, .int x1, .int ((Int8.ofInt 11).toInt32), .int x2], [])) rp_235 rfl rfl (by decide) (by decide) rp_274 rfl (Nat.le_of_ble_eq_true rfl) ⟨rfl, Nat.le_of_ble_eq_true rfl⟩ (cq_set rfl) ?_
    refine cf_R_w rp_235 (rf_bk am_t235 93 6) 189 [(0, .ref 3), (1, .int x1), (2, .int x2), (3, .int x3), (4, .int x4), (5, .int x5)] [] (tb_set s 18 x1 ((Int8.ofInt 11).toInt32) x2) (by repeat (first | exact trivial | refine ⟨rfl, ?_⟩)) (by decide +kernel) ?_
    refine cf_R_prim (pc := 200) (q := ([.ref 20], [.int ((Int8.ofInt 12).toInt32), .int x1, .ref 18])) rp_235 rfl rfl (by decide) (by decide) rp_270 rfl (Nat.le_of_ble_eq_true rfl) ⟨rfl, Nat.le_of_ble_eq_true rfl⟩ (cq_rows rfl) ?_
    refine cf_R_w rp_235 (rf_bk am_t235 100 2) 203 [(0, .ref 3), (1, .int x1), (2, .int x2), (3, .int x3), (4, .int x4), (5, .int x5)] [.int (s.1 20 2), .int ((Int8.ofInt 12).toInt32), .int x1, .ref 18] (tb_set s 18 x1 ((Int8.ofInt 11).toInt32) x2) (by repeat (first | exact trivial | refine ⟨rfl, ?_⟩)) (by decide +kernel) ?_
    refine cf_R_prim (pc := 205) (q := ([.ref 18, .int x1, .int ((Int8.ofInt 12).toInt32), .int ((s.1 20 2) - x2)], [])) rp_235 rfl rfl (by decide) (by decide) rp_274 rfl (Nat.le_of_ble_eq_true rfl) ⟨rfl, Nat.le_of_ble_eq_true rfl⟩ (cq_set rfl) ?_
    exact cf_R_ret (pc := 208) rp_235 rfl rfl rfl ⟨rfl, h⟩
  · replace h := h.2 (of_decide_eq_false hb)
    refine cf_R_w rp_235 (rf_bk am_t235 42 4) 82 [(0, .ref 3), (1, .int x1), (2, .int x2), (3, .int x3), (4, .int x4), (5, .int x5)] [] s (by repeat (first | exact trivial | refine ⟨rfl, ?_⟩)) (by decide +kernel) ?_
    refine cf_R_prim (pc := 89) (q := ([.ref 16, .int x5, .int (Int32.ofInt 3)], [])) rp_235 rfl rfl (by decide) (by decide) rp_273 rfl (Nat.le_of_ble_eq_true rfl) ⟨rfl, Nat.le_of_ble_eq_true rfl⟩ (cq_get rfl) ?_
    refine cf_R_w rp_235 (rf_bk am_t235 47 3) 92 [(0, .ref 3), (1, .int x1), (2, .int x2), (3, .int x3), (4, .int x4), (5, .int x5)] [.int (tb_get s 16 x5 (Int32.ofInt 3))] s (by repeat (first | exact trivial | refine ⟨rfl, ?_⟩)) (by decide +kernel) ?_
    refine cf_R_if (b := am_cnd .eq (tb_get s 16 x5 (Int32.ofInt 3)) 0) (p := 116) (q := 99) (fun hb => ?_) (fun hb => ?_)
    · replace h := h.1 (of_decide_eq_true hb)
      exact cf_R_le (l := [(0, .ref 3), (1, .int x1), (2, .int x2), (3, .int x3), (4, .int x4), (5, .int x5), (6, .int (tb_get s 16 x5 (Int32.ofInt 3)))]) rfl rfl (⟨rfl, rfl, rfl, rfl, rfl, rfl, rfl, trivial⟩) (wc_Program_gather_116_ok h)
    · replace h := h.2 (of_decide_eq_false hb)
      refine cf_R_w rp_235 (rf_bk am_t235 50 3) 99 [(6, .int (tb_get s 16 x5 (Int32.ofInt 3))), (0, .ref 3), (1, .int x1), (2, .int x2), (3, .int x3), (4, .int x4), (5, .int x5)] [] s (by repeat (first | exact trivial | refine ⟨rfl, ?_⟩)) (by decide +kernel) ?_
      refine cf_R_if (b := am_cnd .lt (tb_get s 16 x5 (Int32.ofInt 3)) x3) (p := 112) (q := 105) (fun hb => ?_) (fun hb => ?_)
      · replace h := h.1 (of_decide_eq_true hb)
        exact cf_R_le (l := [(0, .ref 3), (1, .int x1), (2, .int x2), (3, .int x3), (4, .int x4), (5, .int x5), (6, .int (tb_get s 16 x5 (Int32.ofInt 3)))]) rfl rfl (⟨rfl, rfl, rfl, rfl, rfl, rfl, rfl, trivial⟩) (wc_Program_gather_112_ok h)
      · replace h := h.2 (of_decide_eq_false hb)
        refine cf_R_w rp_235 (rf_bk am_t235 53 3) 105 [(6, .int (tb_get s 16 x5 (Int32.ofInt 3))), (0, .ref 3), (1, .int x1), (2, .int x2), (3, .int x3), (4, .int x4), (5, .int x5)] [] s (by repeat (first | exact trivial | refine ⟨rfl, ?_⟩)) (by decide +kernel) ?_
        refine cf_R_if (b := am_cnd .lt (tb_get s 16 x5 (Int32.ofInt 3)) x4) (p := 116) (q := 112) (fun hb => ?_) (fun hb => ?_)
        · replace h := h.1 (of_decide_eq_true hb)
          exact cf_R_le (l := [(0, .ref 3), (1, .int x1), (2, .int x2), (3, .int x3), (4, .int x4), (5, .int x5), (6, .int (tb_get s 16 x5 (Int32.ofInt 3)))]) rfl rfl (⟨rfl, rfl, rfl, rfl, rfl, rfl, rfl, trivial⟩) (wc_Program_gather_116_ok h)
        · replace h := h.2 (of_decide_eq_false hb)
          exact cf_R_le (l := [(0, .ref 3), (1, .int x1), (2, .int x2), (3, .int x3), (4, .int x4), (5, .int x5), (6, .int (tb_get s 16 x5 (Int32.ofInt 3)))]) rfl rfl (⟨rfl, rfl, rfl, rfl, rfl, rfl, rfl, trivial⟩) (wc_Program_gather_112_ok h)
/-- LazyHouse$Program.gather (I)V, from 0 on -/
def wc_Program_gather (d : Nat) (x1 : Int32) (s : cf_S) (Q : cf_S → Prop) : Prop := (((tb_get s 18 x1 ((Int8.ofInt 11).toInt32)) = 0 → cf_R (d + 10) 235 (67, [(0, .ref 3), (1, .int x1), (2, .int (s.1 20 2)), (3, .int (tb_get (cf_si s 3 10 ((s.1 3 10) + (Int32.ofInt 1))) 18 x1 ((Int8.ofInt 9).toInt32))), (4, .int (tb_get (cf_si s 3 10 ((s.1 3 10) + (Int32.ofInt 1))) 18 x1 ((Int8.ofInt 10).toInt32))), (5, .int (tb_get (cf_si s 3 10 ((s.1 3 10) + (Int32.ofInt 1))) 18 x1 ((Int8.ofInt 7).toInt32)))], [], (cf_si s 3 10 ((s.1 3 10) + (Int32.ofInt 1)))) (cf_qV Q)) ∧ (¬ ((tb_get s 18 x1 ((Int8.ofInt 11).toInt32)) = 0) → Q s))
set_option maxRecDepth 20000 in
theorem wc_Program_gather_ok {d : Nat} {x1 : Int32} {s : cf_S} {Q : cf_S → Prop} (h : wc_Program_gather d x1 s Q) : cf_V (d + 10) 235 [(0, .ref 3), (1, .int x1)] s Q := by
  unfold wc_Program_gather at h
  unfold cf_V
  refine cf_R_w rp_235 (rf_bk am_t235 0 4) 0 [(0, .ref 3), (1, .int x1)] [] s (by repeat (first | exact trivial | refine ⟨rfl, ?_⟩)) (by decide +kernel) ?_
  refine cf_R_prim (pc := 7) (q := ([.ref 18, .int x1, .int ((Int8.ofInt 11).toInt32)], [])) rp_235 rfl rfl (by decide) (by decide) rp_273 rfl (Nat.le_of_ble_eq_true rfl) ⟨rfl, Nat.le_of_ble_eq_true rfl⟩ (cq_get rfl) ?_
  refine cf_R_w rp_235 (rf_bk am_t235 5 1) 10 [(0, .ref 3), (1, .int x1)] [.int (tb_get s 18 x1 ((Int8.ofInt 11).toInt32))] s (by repeat (first | exact trivial | refine ⟨rfl, ?_⟩)) (by decide +kernel) ?_
  refine cf_R_if (b := am_cnd .eq (tb_get s 18 x1 ((Int8.ofInt 11).toInt32)) 0) (p := 14) (q := 13) (fun hb => ?_) (fun hb => ?_)
  · replace h := h.1 (of_decide_eq_true hb)
    refine cf_R_w rp_235 (rf_bk am_t235 7 6) 14 [(0, .ref 3), (1, .int x1)] [] s (by repeat (first | exact trivial | refine ⟨rfl, ?_⟩)) (by decide +kernel) ?_
    refine And.intro rfl ?_
    refine cf_R_w rp_235 (rf_bk am_t235 13 2) 24 [(0, .ref 3), (1, .int x1)] [] (cf_si s 3 10 ((s.1 3 10) + (Int32.ofInt 1))) (by repeat (first | exact trivial | refine ⟨rfl, ?_⟩)) (by decide +kernel) ?_
    refine cf_R_prim (pc := 28) (q := ([.ref 20], [])) rp_235 rfl rfl (by decide) (by decide) rp_270 rfl (Nat.le_of_ble_eq_true rfl) ⟨rfl, Nat.le_of_ble_eq_true rfl⟩ (cq_rows rfl) ?_
    refine cf_R_w rp_235 (rf_bk am_t235 16 5) 31 [(0, .ref 3), (1, .int x1)] [.int (s.1 20 2)] (cf_si s 3 10 ((s.1 3 10) + (Int32.ofInt 1))) (by repeat (first | exact trivial | refine ⟨rfl, ?_⟩)) (by decide +kernel) ?_
    refine cf_R_prim (pc := 39) (q := ([.ref 18, .int x1, .int ((Int8.ofInt 9).toInt32)], [])) rp_235 rfl rfl (by decide) (by decide) rp_273 rfl (Nat.le_of_ble_eq_true rfl) ⟨rfl, Nat.le_of_ble_eq_true rfl⟩ (cq_get rfl) ?_
    refine cf_R_w rp_235 (rf_bk am_t235 22 5) 42 [(2, .int (s.1 20 2)), (0, .ref 3), (1, .int x1)] [.int (tb_get (cf_si s 3 10 ((s.1 3 10) + (Int32.ofInt 1))) 18 x1 ((Int8.ofInt 9).toInt32))] (cf_si s 3 10 ((s.1 3 10) + (Int32.ofInt 1))) (by repeat (first | exact trivial | refine ⟨rfl, ?_⟩)) (by decide +kernel) ?_
    refine cf_R_prim (pc := 50) (q := ([.ref 18, .int x1, .int ((Int8.ofInt 10).toInt32)], [])) rp_235 rfl rfl (by decide) (by decide) rp_273 rfl (Nat.le_of_ble_eq_true rfl) ⟨rfl, Nat.le_of_ble_eq_true rfl⟩ (cq_get rfl) ?_
    refine cf_R_w rp_235 (rf_bk am_t235 28 5) 53 [(3, .int (tb_get (cf_si s 3 10 ((s.1 3 10) + (Int32.ofInt 1))) 18 x1 ((Int8.ofInt 9).toInt32))), (2, .int (s.1 20 2)), (0, .ref 3), (1, .int x1)] [.int (tb_get (cf_si s 3 10 ((s.1 3 10) + (Int32.ofInt 1))) 18 x1 ((Int8.ofInt 10).toInt32))] (cf_si s 3 10 ((s.1 3 10) + (Int32.ofInt 1))) (by repeat (first | exact trivial | refine ⟨rfl, ?_⟩)) (by decide +kernel) ?_
    refine cf_R_prim (pc := 62) (q := ([.ref 18, .int x1, .int ((Int8.ofInt 7).toInt32)], [])) rp_235 rfl rfl (by decide) (by decide) rp_273 rfl (Nat.le_of_ble_eq_true rfl) ⟨rfl, Nat.le_of_ble_eq_true rfl⟩ (cq_get rfl) ?_
    refine cf_R_w rp_235 (rf_bk am_t235 34 1) 65 [(4, .int (tb_get (cf_si s 3 10 ((s.1 3 10) + (Int32.ofInt 1))) 18 x1 ((Int8.ofInt 10).toInt32))), (3, .int (tb_get (cf_si s 3 10 ((s.1 3 10) + (Int32.ofInt 1))) 18 x1 ((Int8.ofInt 9).toInt32))), (2, .int (s.1 20 2)), (0, .ref 3), (1, .int x1)] [.int (tb_get (cf_si s 3 10 ((s.1 3 10) + (Int32.ofInt 1))) 18 x1 ((Int8.ofInt 7).toInt32))] (cf_si s 3 10 ((s.1 3 10) + (Int32.ofInt 1))) (by repeat (first | exact trivial | refine ⟨rfl, ?_⟩)) (by decide +kernel) ?_
    exact cf_R_le (l := [(0, .ref 3), (1, .int x1), (2, .int (s.1 20 2)), (3, .int (tb_get (cf_si s 3 10 ((s.1 3 10) + (Int32.ofInt 1))) 18 x1 ((Int8.ofInt 9).toInt32))), (4, .int (tb_get (cf_si s 3 10 ((s.1 3 10) + (Int32.ofInt 1))) 18 x1 ((Int8.ofInt 10).toInt32))), (5, .int (tb_get (cf_si s 3 10 ((s.1 3 10) + (Int32.ofInt 1))) 18 x1 ((Int8.ofInt 7).toInt32)))]) rfl rfl (⟨rfl, rfl, rfl, rfl, rfl, rfl, trivial⟩) h
  · replace h := h.2 (of_decide_eq_false hb)
    exact cf_R_ret (pc := 13) rp_235 rfl rfl rfl ⟨rfl, h⟩
/-- LazyHouse$Program.forget (I)V, from 0 on -/
def wc_Program_forget (d : Nat) (x1 : Int32) (s : cf_S) (Q : cf_S → Prop) : Prop := Q (tb_set (tb_set (tb_cut s 20 (tb_get s 18 x1 ((Int8.ofInt 11).toInt32))) 18 x1 ((Int8.ofInt 11).toInt32) (Int32.ofInt 0)) 18 x1 ((Int8.ofInt 12).toInt32) (Int32.ofInt 0))
set_option maxRecDepth 20000 in
theorem wc_Program_forget_ok {d : Nat} {x1 : Int32} {s : cf_S} {Q : cf_S → Prop} (h : wc_Program_forget d x1 s Q) : cf_V (d + 10) 236 [(0, .ref 3), (1, .int x1)] s Q := by
  unfold wc_Program_forget at h
  unfold cf_V
  refine cf_R_w rp_236 (rf_bk am_t236 0 6) 0 [(0, .ref 3), (1, .int x1)] [] s (by repeat (first | exact trivial | refine ⟨rfl, ?_⟩)) (by decide +kernel) ?_
  refine cf_R_prim (pc := 11) (q := ([.ref 18, .int x1, .int ((Int8.ofInt 11).toInt32)], [.ref 20])) rp_236 rfl rfl (by decide) (by decide) rp_273 rfl (Nat.le_of_ble_eq_true rfl) ⟨rfl, Nat.le_of_ble_eq_true rfl⟩ (cq_get rfl) ?_
  refine cf_R_prim (pc := 14) (q := ([.ref 20, .int (tb_get s 18 x1 ((Int8.ofInt 11).toInt32))], [])) rp_236 rfl rfl (by decide) (by decide) rp_271 rfl (Nat.le_of_ble_eq_true rfl) ⟨rfl, Nat.le_of_ble_eq_true rfl⟩ (cq_tcut rfl) ?_
  refine cf_R_w rp_236 (rf_bk am_t236 8 5) 17 [(0, .ref 3), (1, .int x1)] [] (tb_cut s 20 (tb_get s 18 x1 ((Int8.ofInt 11).toInt32))) (by repeat (first | exact trivial | refine ⟨rfl, ?_⟩)) (by decide +kernel) ?_
  refine cf_R_prim (pc := 25) (q := ([.ref 18, .int x1, .int ((Int8.ofInt 11).toInt32), .int (Int32.ofInt 0)], [])) rp_236 rfl rfl (by decide) (by decide) rp_274 rfl (Nat.le_of_ble_eq_true rfl) ⟨rfl, Nat.le_of_ble_eq_true rfl⟩ (cq_set rfl) ?_
  refine cf_R_w rp_236 (rf_bk am_t236 14 5) 28 [(0, .ref 3), (1, .int x1)] [] (tb_set (tb_cut s 20 (tb_get s 18 x1 ((Int8.ofInt 11).toInt32))) 18 x1 ((Int8.ofInt 11).toInt32) (Int32.ofInt 0)) (by repeat (first | exact trivial | refine ⟨rfl, ?_⟩)) (by decide +kernel) ?_
  refine cf_R_prim (pc := 36) (q := ([.ref 18, .int x1, .int ((Int8.ofInt 12).toInt32), .int (Int32.ofInt 0)], [])) rp_236 rfl rfl (by decide) (by decide) rp_274 rfl (Nat.le_of_ble_eq_true rfl) ⟨rfl, Nat.le_of_ble_eq_true rfl⟩ (cq_set rfl) ?_
  exact cf_R_ret (pc := 39) rp_236 rfl rfl rfl ⟨rfl, h⟩
/-- LazyHouse$Program.mainDefinition ()I, from 0 on -/
def wc_Program_mainDefinition (d : Nat) (s : cf_S) (Q : Int32 → cf_S → Prop) : Prop := Q (tb_get s 6 (Int32.ofInt 5) (Int32.ofInt 3)) s
set_option maxRecDepth 20000 in
theorem wc_Program_mainDefinition_ok {d : Nat} {s : cf_S} {Q : Int32 → cf_S → Prop} (h : wc_Program_mainDefinition d s Q) : cf_I (d + 10) 237 [(0, .ref 3)] s Q := by
  unfold wc_Program_mainDefinition at h
  unfold cf_I
  refine cf_R_w rp_237 (rf_bk am_t237 0 4) 0 [(0, .ref 3)] [] s (by repeat (first | exact trivial | refine ⟨rfl, ?_⟩)) (by decide +kernel) ?_
  refine cf_R_prim (pc := 6) (q := ([.ref 6, .int (Int32.ofInt 5), .int (Int32.ofInt 3)], [])) rp_237 rfl rfl (by decide) (by decide) rp_273 rfl (Nat.le_of_ble_eq_true rfl) ⟨rfl, Nat.le_of_ble_eq_true rfl⟩ (cq_get rfl) ?_
  exact cf_R_ret (pc := 9) (v := some (.int (tb_get s 6 (Int32.ofInt 5) (Int32.ofInt 3)))) rp_237 rfl rfl rfl ⟨_, rfl, h⟩
/-- LazyHouse$Program.hasParameters (I)Z, from 0 on -/
def wc_Program_hasParameters (d : Nat) (x1 : Int32) (s : cf_S) (Q : Int32 → cf_S → Prop) : Prop := (((tb_get s 10 x1 (Int32.ofInt 1)) ≤ 0 → Q (Int32.ofInt 0) s) ∧ (¬ ((tb_get s 10 x1 (Int32.ofInt 1)) ≤ 0) → Q (Int32.ofInt 1) s))
set_option maxRecDepth 20000 in
theorem wc_Program_hasParameters_ok {d : Nat} {x1 : Int32} {s : cf_S} {Q : Int32 → cf_S → Prop} (h : wc_Program_hasParameters d x1 s Q) : cf_I (d + 10) 238 [(0, .ref 3), (1, .int x1)] s Q := by
  unfold wc_Program_hasParameters at h
  unfold cf_I
  refine cf_R_w rp_238 (rf_bk am_t238 0 4) 0 [(0, .ref 3), (1, .int x1)] [] s (by repeat (first | exact trivial | refine ⟨rfl, ?_⟩)) (by decide +kernel) ?_
  refine cf_R_prim (pc := 6) (q := ([.ref 10, .int x1, .int (Int32.ofInt 1)], [])) rp_238 rfl rfl (by decide) (by decide) rp_273 rfl (Nat.le_of_ble_eq_true rfl) ⟨rfl, Nat.le_of_ble_eq_true rfl⟩ (cq_get rfl) ?_
  refine cf_R_w rp_238 (rf_bk am_t238 5 1) 9 [(0, .ref 3), (1, .int x1)] [.int (tb_get s 10 x1 (Int32.ofInt 1))] s (by repeat (first | exact trivial | refine ⟨rfl, ?_⟩)) (by decide +kernel) ?_
  refine cf_R_if (b := am_cnd .le (tb_get s 10 x1 (Int32.ofInt 1)) 0) (p := 16) (q := 12) (fun hb => ?_) (fun hb => ?_)
  · replace h := h.1 (of_decide_eq_true hb)
    refine cf_R_w rp_238 (rf_bk am_t238 8 1) 16 [(0, .ref 3), (1, .int x1)] [] s (by repeat (first | exact trivial | refine ⟨rfl, ?_⟩)) (by decide +kernel) ?_
    exact cf_R_ret (pc := 17) (v := some (.int (Int32.ofInt 0))) rp_238 rfl rfl rfl ⟨_, rfl, h⟩
  · replace h := h.2 (of_decide_eq_false hb)
    refine cf_R_w rp_238 (rf_bk am_t238 6 2) 12 [(0, .ref 3), (1, .int x1)] [] s (by repeat (first | exact trivial | refine ⟨rfl, ?_⟩)) (by decide +kernel) ?_
    exact cf_R_ret (pc := 17) (v := some (.int (Int32.ofInt 1))) rp_238 rfl rfl rfl ⟨_, rfl, h⟩
/-- LazyHouse$Reader.rewind ()V, from 0 on -/
def wc_Reader_rewind (d : Nat) (s : cf_S) (Q : cf_S → Prop) : Prop := cf_V (d + 9) 246 [(0, .ref 23)] (cf_si (cf_si s 23 2 (Int32.ofInt 0)) 23 6 (Int32.ofInt (-1))) (fun s1 => Q s1)
set_option maxRecDepth 20000 in
theorem wc_Reader_rewind_ok {d : Nat} {s : cf_S} {Q : cf_S → Prop} (h : wc_Reader_rewind d s Q) : cf_V (d + 10) 240 [(0, .ref 23)] s Q := by
  unfold wc_Reader_rewind at h
  unfold cf_V
  refine cf_R_w rp_240 (rf_bk am_t240 0 3) 0 [(0, .ref 23)] [] s (by repeat (first | exact trivial | refine ⟨rfl, ?_⟩)) (by decide +kernel) ?_
  refine And.intro rfl ?_
  refine cf_R_w rp_240 (rf_bk am_t240 3 3) 5 [(0, .ref 23)] [] (cf_si s 23 2 (Int32.ofInt 0)) (by repeat (first | exact trivial | refine ⟨rfl, ?_⟩)) (by decide +kernel) ?_
  refine And.intro rfl ?_
  refine cf_R_w rp_240 (rf_bk am_t240 6 1) 10 [(0, .ref 23)] [] (cf_si (cf_si s 23 2 (Int32.ofInt 0)) 23 6 (Int32.ofInt (-1))) (by repeat (first | exact trivial | refine ⟨rfl, ?_⟩)) (by decide +kernel) ?_
  refine cf_R_call (pc := 11) (q := ([.ref 23], [])) rp_240 rfl rfl (by decide) (by decide) rp_246 rfl (Nat.le_of_ble_eq_true rfl) ⟨rfl, Nat.le_of_ble_eq_true rfl⟩ h (fun v s1 h => ?_)
  obtain ⟨rfl, h⟩ := h
  exact cf_R_ret (pc := 14) rp_240 rfl rfl rfl ⟨rfl, h⟩
/-- LazyHouse$Reader.kind ()I, from 0 on -/
def wc_Reader_kind (d : Nat) (s : cf_S) (Q : Int32 → cf_S → Prop) : Prop := Q (s.1 23 3) s
set_option maxRecDepth 20000 in
theorem wc_Reader_kind_ok {d : Nat} {s : cf_S} {Q : Int32 → cf_S → Prop} (h : wc_Reader_kind d s Q) : cf_I d 241 [(0, .ref 23)] s Q := by
  unfold wc_Reader_kind at h
  unfold cf_I
  refine cf_R_w rp_241 (rf_bk am_t241 0 2) 0 [(0, .ref 23)] [] s (by repeat (first | exact trivial | refine ⟨rfl, ?_⟩)) (by decide +kernel) ?_
  exact cf_R_ret (pc := 4) (v := some (.int (s.1 23 3))) rp_241 rfl rfl rfl ⟨_, rfl, h⟩
/-- LazyHouse$Reader.place ()I, from 0 on -/
def wc_Reader_place (d : Nat) (s : cf_S) (Q : Int32 → cf_S → Prop) : Prop := Q (s.1 23 4) s
set_option maxRecDepth 20000 in
theorem wc_Reader_place_ok {d : Nat} {s : cf_S} {Q : Int32 → cf_S → Prop} (h : wc_Reader_place d s Q) : cf_I d 242 [(0, .ref 23)] s Q := by
  unfold wc_Reader_place at h
  unfold cf_I
  refine cf_R_w rp_242 (rf_bk am_t242 0 2) 0 [(0, .ref 23)] [] s (by repeat (first | exact trivial | refine ⟨rfl, ?_⟩)) (by decide +kernel) ?_
  exact cf_R_ret (pc := 4) (v := some (.int (s.1 23 4))) rp_242 rfl rfl rfl ⟨_, rfl, h⟩
/-- LazyHouse$Reader.value ()I, from 0 on -/
def wc_Reader_value (d : Nat) (s : cf_S) (Q : Int32 → cf_S → Prop) : Prop := Q (s.1 23 5) s
set_option maxRecDepth 20000 in
theorem wc_Reader_value_ok {d : Nat} {s : cf_S} {Q : Int32 → cf_S → Prop} (h : wc_Reader_value d s Q) : cf_I d 243 [(0, .ref 23)] s Q := by
  unfold wc_Reader_value at h
  unfold cf_I
  refine cf_R_w rp_243 (rf_bk am_t243 0 2) 0 [(0, .ref 23)] [] s (by repeat (first | exact trivial | refine ⟨rfl, ?_⟩)) (by decide +kernel) ?_
  exact cf_R_ret (pc := 4) (v := some (.int (s.1 23 5))) rp_243 rfl rfl rfl ⟨_, rfl, h⟩
/-- LazyHouse$Reader.refused ()I, from 0 on -/
def wc_Reader_refused (d : Nat) (s : cf_S) (Q : Int32 → cf_S → Prop) : Prop := Q (s.1 23 6) s
set_option maxRecDepth 20000 in
theorem wc_Reader_refused_ok {d : Nat} {s : cf_S} {Q : Int32 → cf_S → Prop} (h : wc_Reader_refused d s Q) : cf_I d 244 [(0, .ref 23)] s Q := by
  unfold wc_Reader_refused at h
  unfold cf_I
  refine cf_R_w rp_244 (rf_bk am_t244 0 2) 0 [(0, .ref 23)] [] s (by repeat (first | exact trivial | refine ⟨rfl, ?_⟩)) (by decide +kernel) ?_
  exact cf_R_ret (pc := 4) (v := some (.int (s.1 23 6))) rp_244 rfl rfl rfl ⟨_, rfl, h⟩
/-- LazyHouse$Reader.refuse ()V, from 0 on -/
def wc_Reader_refuse (d : Nat) (s : cf_S) (Q : cf_S → Prop) : Prop := ((0 ≤ (s.1 23 6) → Q s) ∧ (¬ (0 ≤ (s.1 23 6)) → Q (cf_si (cf_si s 23 6 (s.1 23 4)) 23 3 (Int32.ofInt 1))))
set_option maxRecDepth 20000 in
theorem wc_Reader_refuse_ok {d : Nat} {s : cf_S} {Q : cf_S → Prop} (h : wc_Reader_refuse d s Q) : cf_V d 245 [(0, .ref 23)] s Q := by
  unfold wc_Reader_refuse at h
  unfold cf_V
  refine cf_R_w rp_245 (rf_bk am_t245 0 3) 0 [(0, .ref 23)] [] s (by repeat (first | exact trivial | refine ⟨rfl, ?_⟩)) (by decide +kernel) ?_
  refine cf_R_if (b := am_cnd .ge (s.1 23 6) 0) (p := 20) (q := 7) (fun hb => ?_) (fun hb => ?_)
  · replace h := h.1 (of_decide_eq_true hb)
    exact cf_R_ret (pc := 20) rp_245 rfl rfl rfl ⟨rfl, h⟩
  · replace h := h.2 (of_decide_eq_false hb)
    refine cf_R_w rp_245 (rf_bk am_t245 3 4) 7 [(0, .ref 23)] [] s (by repeat (first | exact trivial | refine ⟨rfl, ?_⟩)) (by decide +kernel) ?_
    refine And.intro rfl ?_
    refine cf_R_w rp_245 (rf_bk am_t245 7 3) 15 [(0, .ref 23)] [] (cf_si s 23 6 (s.1 23 4)) (by repeat (first | exact trivial | refine ⟨rfl, ?_⟩)) (by decide +kernel) ?_
    refine And.intro rfl ?_
    exact cf_R_ret (pc := 20) rp_245 rfl rfl rfl ⟨rfl, h⟩
/-- LazyHouse$Reader.advance ()V, from 229 on -/
def wc_Reader_advance_229 (d : Nat) (y0 : Int32) (s : cf_S) (Q : cf_S → Prop) : Prop := Q (cf_si s 23 3 y0)
set_option maxRecDepth 20000 in
theorem wc_Reader_advance_229_ok {d : Nat} {y0 : Int32} {s : cf_S} {Q : cf_S → Prop} (h : wc_Reader_advance_229 d y0 s Q) : cf_R (d + 10) 246 (229, [], [.int y0, .ref 23], s) (cf_qV Q) := by
  unfold wc_Reader_advance_229 at h
  refine cf_R_w rp_246 (rf_bk am_t246 111 1) 229 [] [.int y0, .ref 23] s (by repeat (first | exact trivial | refine ⟨rfl, ?_⟩)) (by decide +kernel) ?_
  refine And.intro rfl ?_
  refine cf_R_w rp_246 (rf_bk am_t246 112 1) 232 [] [] (cf_si s 23 3 y0) (by repeat (first | exact trivial | refine ⟨rfl, ?_⟩)) (by decide +kernel) ?_
  exact cf_R_ret (pc := 240) rp_246 rfl rfl rfl ⟨rfl, h⟩
/-- LazyHouse$Reader.advance ()V, from 228 on -/
def wc_Reader_advance_228 (d : Nat) (s : cf_S) (Q : cf_S → Prop) : Prop := wc_Reader_advance_229 d (Int32.ofInt 2) s Q
set_option maxRecDepth 20000 in
theorem wc_Reader_advance_228_ok {d : Nat} {s : cf_S} {Q : cf_S → Prop} (h : wc_Reader_advance_228 d s Q) : cf_R (d + 10) 246 (228, [], [.ref 23], s) (cf_qV Q) := by
  unfold wc_Reader_advance_228 at h
  refine cf_R_w rp_246 (rf_bk am_t246 110 1) 228 [] [.ref 23] s (by repeat (first | exact trivial | refine ⟨rfl, ?_⟩)) (by decide +kernel) ?_
  exact cf_R_le (l := []) rfl rfl trivial (wc_Reader_advance_229_ok h)
/-- LazyHouse$Reader.advance ()V, from 52 on -/
def wc_Reader_advance_52 (d : Nat) (s : cf_S) (Q : cf_S → Prop) : Prop := (((s.1 23 2) < (s.1 3 1) → cf_I (d + 9) 252 [(0, .int (by_g (cf_si s 23 4 (s.1 23 2)) 4 (s.1 23 2)))] (cf_si s 23 4 (s.1 23 2)) (fun r1 s1 => ((r1 = 0 → cf_I (d + 9) 253 [(0, .int (by_g (cf_si s 23 4 (s.1 23 2)) 4 (s.1 23 2)))] s1 (fun r2 s2 => ((r2 = 0 → cf_I (d + 9) 254 [(0, .int (by_g (cf_si s 23 4 (s.1 23 2)) 4 (s.1 23 2)))] s2 (fun r3 s3 => ((r3 = 0 → cf_V (d + 9) 249 [(0, .ref 23), (1, .int (by_g (cf_si s 23 4 (s.1 23 2)) 4 (s.1 23 2)))] s3 (fun s4 => Q s4)) ∧ (¬ (r3 = 0) → cf_V (d + 9) 248 [(0, .ref 23)] s3 (fun s5 => cf_I (d + 9) 234 [(0, .ref 3), (1, .ref 6), (2, .int (s5.1 23 4)), (3, .int ((s5.1 23 2) - (s5.1 23 4)))] s5 (fun r6 s6 => ((r6 < (Int32.ofInt 1) → wc_Reader_advance_228 d (cf_si s6 23 5 r6) Q) ∧ (¬ (r6 < (Int32.ofInt 1)) → (((Int32.ofInt 4) < r6 → wc_Reader_advance_228 d (cf_si s6 23 5 r6) Q) ∧ (¬ ((Int32.ofInt 4) < r6) → wc_Reader_advance_229 d (((Int32.ofInt 5) + r6) - (Int32.ofInt 1)) (cf_si s6 23 5 r6) Q)))))))))) ∧ (¬ (r2 = 0) → cf_V (d + 9) 248 [(0, .ref 23)] s2 (fun s7 => cf_I (d + 9) 234 [(0, .ref 3), (1, .ref 8), (2, .int (s7.1 23 4)), (3, .int ((s7.1 23 2) - (s7.1 23 4)))] s7 (fun r8 s8 => Q (cf_si (cf_si s8 23 5 r8) 23 3 (Int32.ofInt 3)))))))) ∧ (¬ (r1 = 0) → cf_V (d + 9) 247 [(0, .ref 23)] s1 (fun s9 => Q s9))))) ∧ (¬ ((s.1 23 2) < (s.1 3 1)) → Q (cf_si (cf_si s 23 4 (s.1 23 2)) 23 3 (Int32.ofInt 0))))
set_option maxRecDepth 20000 in
theorem wc_Reader_advance_52_ok {d : Nat} {s : cf_S} {Q : cf_S → Prop} (h : wc_Reader_advance_52 d s Q) : cf_R (d + 10) 246 (52, [(0, .ref 23)], [], s) (cf_qV Q) := by
  unfold wc_Reader_advance_52 at h
  refine cf_R_w rp_246 (rf_bk am_t246 24 4) 52 [(0, .ref 23)] [] s (by repeat (first | exact trivial | refine ⟨rfl, ?_⟩)) (by decide +kernel) ?_
  refine And.intro rfl ?_
  refine cf_R_w rp_246 (rf_bk am_t246 28 4) 60 [(0, .ref 23)] [] (cf_si s 23 4 (s.1 23 2)) (by repeat (first | exact trivial | refine ⟨rfl, ?_⟩)) (by decide +kernel) ?_
  refine cf_R_prim (pc := 68) (q := ([.ref 4, .int (s.1 23 2)], [])) rp_246 rfl rfl (by decide) (by decide) rp_120 rfl (Nat.le_of_ble_eq_true rfl) ⟨rfl, Nat.le_of_ble_eq_true rfl⟩ (cq_at rfl) ?_
  refine cf_R_w rp_246 (rf_bk am_t246 33 7) 71 [(0, .ref 23)] [.int (by_g (cf_si s 23 4 (s.1 23 2)) 4 (s.1 23 2))] (cf_si s 23 4 (s.1 23 2)) (by repeat (first | exact trivial | refine ⟨rfl, ?_⟩)) (by decide +kernel) ?_
  refine cf_R_if (b := am_cnd .lt (s.1 23 2) (s.1 3 1)) (p := 94) (q := 86) (fun hb => ?_) (fun hb => ?_)
  · replace h := h.1 (of_decide_eq_true hb)
    refine cf_R_w rp_246 (rf_bk am_t246 44 1) 94 [(1, .int (by_g (cf_si s 23 4 (s.1 23 2)) 4 (s.1 23 2))), (0, .ref 23)] [] (cf_si s 23 4 (s.1 23 2)) (by repeat (first | exact trivial | refine ⟨rfl, ?_⟩)) (by decide +kernel) ?_
    refine cf_R_call (pc := 95) (q := ([.int (by_g (cf_si s 23 4 (s.1 23 2)) 4 (s.1 23 2))], [])) rp_246 rfl rfl (by decide) (by decide) rp_252 rfl (Nat.le_of_ble_eq_true rfl) ⟨rfl, Nat.le_of_ble_eq_true rfl⟩ h (fun v s1 h => ?_)
    obtain ⟨r1, rfl, h⟩ := h
    refine cf_R_w rp_246 (rf_bk am_t246 46 1) 98 [(1, .int (by_g (cf_si s 23 4 (s.1 23 2)) 4 (s.1 23 2))), (0, .ref 23)] [.int r1] s1 (by repeat (first | exact trivial | refine ⟨rfl, ?_⟩)) (by decide +kernel) ?_
    refine cf_R_if (b := am_cnd .eq r1 0) (p := 108) (q := 101) (fun hb => ?_) (fun hb => ?_)
    · replace h := h.1 (of_decide_eq_true hb)
      refine cf_R_w rp_246 (rf_bk am_t246 50 1) 108 [(1, .int (by_g (cf_si s 23 4 (s.1 23 2)) 4 (s.1 23 2))), (0, .ref 23)] [] s1 (by repeat (first | exact trivial | refine ⟨rfl, ?_⟩)) (by decide +kernel) ?_
      refine cf_R_call (pc := 109) (q := ([.int (by_g (cf_si s 23 4 (s.1 23 2)) 4 (s.1 23 2))], [])) rp_246 rfl rfl (by decide) (by decide) rp_253 rfl (Nat.le_of_ble_eq_true rfl) ⟨rfl, Nat.le_of_ble_eq_true rfl⟩ h (fun v s2 h => ?_)
      obtain ⟨r2, rfl, h⟩ := h
      refine cf_R_w rp_246 (rf_bk am_t246 52 1) 112 [(1, .int (by_g (cf_si s 23 4 (s.1 23 2)) 4 (s.1 23 2))), (0, .ref 23)] [.int r2] s2 (by repeat (first | exact trivial | refine ⟨rfl, ?_⟩)) (by decide +kernel) ?_
      refine cf_R_if (b := am_cnd .eq r2 0) (p := 158) (q := 115) (fun hb => ?_) (fun hb => ?_)
      · replace h := h.1 (of_decide_eq_true hb)
        refine cf_R_w rp_246 (rf_bk am_t246 74 1) 158 [(1, .int (by_g (cf_si s 23 4 (s.1 23 2)) 4 (s.1 23 2))), (0, .ref 23)] [] s2 (by repeat (first | exact trivial | refine ⟨rfl, ?_⟩)) (by decide +kernel) ?_
        refine cf_R_call (pc := 159) (q := ([.int (by_g (cf_si s 23 4 (s.1 23 2)) 4 (s.1 23 2))], [])) rp_246 rfl rfl (by decide) (by decide) rp_254 rfl (Nat.le_of_ble_eq_true rfl) ⟨rfl, Nat.le_of_ble_eq_true rfl⟩ h (fun v s3 h => ?_)
        obtain ⟨r3, rfl, h⟩ := h
        refine cf_R_w rp_246 (rf_bk am_t246 76 1) 162 [(1, .int (by_g (cf_si s 23 4 (s.1 23 2)) 4 (s.1 23 2))), (0, .ref 23)] [.int r3] s3 (by repeat (first | exact trivial | refine ⟨rfl, ?_⟩)) (by decide +kernel) ?_
        refine cf_R_if (b := am_cnd .eq r3 0) (p := 235) (q := 165) (fun hb => ?_) (fun hb => ?_)
        · replace h := h.1 (of_decide_eq_true hb)
          refine cf_R_w rp_246 (rf_bk am_t246 113 2) 235 [(1, .int (by_g (cf_si s 23 4 (s.1 23 2)) 4 (s.1 23 2))), (0, .ref 23)] [] s3 (by repeat (first | exact trivial | refine ⟨rfl, ?_⟩)) (by decide +kernel) ?_
          refine cf_R_call (pc := 237) (q := ([.ref 23, .int (by_g (cf_si s 23 4 (s.1 23 2)) 4 (s.1 23 2))], [])) rp_246 rfl rfl (by decide) (by decide) rp_249 rfl (Nat.le_of_ble_eq_true rfl) ⟨rfl, Nat.le_of_ble_eq_true rfl⟩ h (fun v s4 h => ?_)
          obtain ⟨rfl, h⟩ := h
          exact cf_R_ret (pc := 240) rp_246 rfl rfl rfl ⟨rfl, h⟩
        · replace h := h.2 (of_decide_eq_false hb)
          refine cf_R_w rp_246 (rf_bk am_t246 77 1) 165 [(1, .int (by_g (cf_si s 23 4 (s.1 23 2)) 4 (s.1 23 2))), (0, .ref 23)] [] s3 (by repeat (first | exact trivial | refine ⟨rfl, ?_⟩)) (by decide +kernel) ?_
          refine cf_R_call (pc := 166) (q := ([.ref 23], [])) rp_246 rfl rfl (by decide) (by decide) rp_248 rfl (Nat.le_of_ble_eq_true rfl) ⟨rfl, Nat.le_of_ble_eq_true rfl⟩ h (fun v s5 h => ?_)
          obtain ⟨rfl, h⟩ := h
          refine cf_R_w rp_246 (rf_bk am_t246 79 13) 169 [(1, .int (by_g (cf_si s 23 4 (s.1 23 2)) 4 (s.1 23 2))), (0, .ref 23)] [] s5 (by repeat (first | exact trivial | refine ⟨rfl, ?_⟩)) (by decide +kernel) ?_
          refine cf_R_call (pc := 194) (q := ([.ref 3, .ref 6, .int (s5.1 23 4), .int ((s5.1 23 2) - (s5.1 23 4))], [.ref 23])) rp_246 rfl rfl (by decide) (by decide) rp_234 rfl (Nat.le_of_ble_eq_true rfl) ⟨rfl, Nat.le_of_ble_eq_true rfl⟩ h (fun v s6 h => ?_)
          obtain ⟨r6, rfl, h⟩ := h
          refine cf_R_w rp_246 (rf_bk am_t246 93 1) 197 [(1, .int (by_g (cf_si s 23 4 (s.1 23 2)) 4 (s.1 23 2))), (0, .ref 23)] [.int r6, .ref 23] s6 (by repeat (first | exact trivial | refine ⟨rfl, ?_⟩)) (by decide +kernel) ?_
          refine And.intro rfl ?_
          refine cf_R_w rp_246 (rf_bk am_t246 94 5) 200 [(1, .int (by_g (cf_si s 23 4 (s.1 23 2)) 4 (s.1 23 2))), (0, .ref 23)] [] (cf_si s6 23 5 r6) (by repeat (first | exact trivial | refine ⟨rfl, ?_⟩)) (by decide +kernel) ?_
          refine cf_R_if (b := am_cnd .lt r6 (Int32.ofInt 1)) (p := 228) (q := 209) (fun hb => ?_) (fun hb => ?_)
          · replace h := h.1 (of_decide_eq_true hb)
            exact cf_R_le (l := []) rfl rfl trivial (wc_Reader_advance_228_ok h)
          · replace h := h.2 (of_decide_eq_false hb)
            refine cf_R_w rp_246 (rf_bk am_t246 99 4) 209 [(1, .int (by_g (cf_si s 23 4 (s.1 23 2)) 4 (s.1 23 2))), (0, .ref 23)] [.ref 23] (cf_si s6 23 5 r6) (by repeat (first | exact trivial | refine ⟨rfl, ?_⟩)) (by decide +kernel) ?_
            refine cf_R_if (b := am_cnd .gt r6 (Int32.ofInt 4)) (p := 228) (q := 217) (fun hb => ?_) (fun hb => ?_)
            · replace h := h.1 (of_decide_eq_true hb)
              exact cf_R_le (l := []) rfl rfl trivial (wc_Reader_advance_228_ok h)
            · replace h := h.2 (of_decide_eq_false hb)
              refine cf_R_w rp_246 (rf_bk am_t246 103 7) 217 [(1, .int (by_g (cf_si s 23 4 (s.1 23 2)) 4 (s.1 23 2))), (0, .ref 23)] [.ref 23] (cf_si s6 23 5 r6) (by repeat (first | exact trivial | refine ⟨rfl, ?_⟩)) (by decide +kernel) ?_
              exact cf_R_le (l := []) rfl rfl trivial (wc_Reader_advance_229_ok h)
      · replace h := h.2 (of_decide_eq_false hb)
        refine cf_R_w rp_246 (rf_bk am_t246 53 1) 115 [(1, .int (by_g (cf_si s 23 4 (s.1 23 2)) 4 (s.1 23 2))), (0, .ref 23)] [] s2 (by repeat (first | exact trivial | refine ⟨rfl, ?_⟩)) (by decide +kernel) ?_
        refine cf_R_call (pc := 116) (q := ([.ref 23], [])) rp_246 rfl rfl (by decide) (by decide) rp_248 rfl (Nat.le_of_ble_eq_true rfl) ⟨rfl, Nat.le_of_ble_eq_true rfl⟩ h (fun v s7 h => ?_)
        obtain ⟨rfl, h⟩ := h
        refine cf_R_w rp_246 (rf_bk am_t246 55 13) 119 [(1, .int (by_g (cf_si s 23 4 (s.1 23 2)) 4 (s.1 23 2))), (0, .ref 23)] [] s7 (by repeat (first | exact trivial | refine ⟨rfl, ?_⟩)) (by decide +kernel) ?_
        refine cf_R_call (pc := 144) (q := ([.ref 3, .ref 8, .int (s7.1 23 4), .int ((s7.1 23 2) - (s7.1 23 4))], [.ref 23])) rp_246 rfl rfl (by decide) (by decide) rp_234 rfl (Nat.le_of_ble_eq_true rfl) ⟨rfl, Nat.le_of_ble_eq_true rfl⟩ h (fun v s8 h => ?_)
        obtain ⟨r8, rfl, h⟩ := h
        refine cf_R_w rp_246 (rf_bk am_t246 69 1) 147 [(1, .int (by_g (cf_si s 23 4 (s.1 23 2)) 4 (s.1 23 2))), (0, .ref 23)] [.int r8, .ref 23] s8 (by repeat (first | exact trivial | refine ⟨rfl, ?_⟩)) (by decide +kernel) ?_
        refine And.intro rfl ?_
        refine cf_R_w rp_246 (rf_bk am_t246 70 3) 150 [(1, .int (by_g (cf_si s 23 4 (s.1 23 2)) 4 (s.1 23 2))), (0, .ref 23)] [] (cf_si s8 23 5 r8) (by repeat (first | exact trivial | refine ⟨rfl, ?_⟩)) (by decide +kernel) ?_
        refine And.intro rfl ?_
        refine cf_R_w rp_246 (rf_bk am_t246 73 1) 155 [(1, .int (by_g (cf_si s 23 4 (s.1 23 2)) 4 (s.1 23 2))), (0, .ref 23)] [] (cf_si (cf_si s8 23 5 r8) 23 3 (Int32.ofInt 3)) (by repeat (first | exact trivial | refine ⟨rfl, ?_⟩)) (by decide +kernel) ?_
        exact cf_R_ret (pc := 240) rp_246 rfl rfl rfl ⟨rfl, h⟩
    · replace h := h.2 (of_decide_eq_false hb)
      refine cf_R_w rp_246 (rf_bk am_t246 47 1) 101 [(1, .int (by_g (cf_si s 23 4 (s.1 23 2)) 4 (s.1 23 2))), (0, .ref 23)] [] s1 (by repeat (first | exact trivial | refine ⟨rfl, ?_⟩)) (by decide +kernel) ?_
      refine cf_R_call (pc := 102) (q := ([.ref 23], [])) rp_246 rfl rfl (by decide) (by decide) rp_247 rfl (Nat.le_of_ble_eq_true rfl) ⟨rfl, Nat.le_of_ble_eq_true rfl⟩ h (fun v s9 h => ?_)
      obtain ⟨rfl, h⟩ := h
      refine cf_R_w rp_246 (rf_bk am_t246 49 1) 105 [(1, .int (by_g (cf_si s 23 4 (s.1 23 2)) 4 (s.1 23 2))), (0, .ref 23)] [] s9 (by repeat (first | exact trivial | refine ⟨rfl, ?_⟩)) (by decide +kernel) ?_
      exact cf_R_ret (pc := 240) rp_246 rfl rfl rfl ⟨rfl, h⟩
  · replace h := h.2 (of_decide_eq_false hb)
    refine cf_R_w rp_246 (rf_bk am_t246 40 3) 86 [(1, .int (by_g (cf_si s 23 4 (s.1 23 2)) 4 (s.1 23 2))), (0, .ref 23)] [] (cf_si s 23 4 (s.1 23 2)) (by repeat (first | exact trivial | refine ⟨rfl, ?_⟩)) (by decide +kernel) ?_
    refine And.intro rfl ?_
    refine cf_R_w rp_246 (rf_bk am_t246 43 1) 91 [(1, .int (by_g (cf_si s 23 4 (s.1 23 2)) 4 (s.1 23 2))), (0, .ref 23)] [] (cf_si (cf_si s 23 4 (s.1 23 2)) 23 3 (Int32.ofInt 0)) (by repeat (first | exact trivial | refine ⟨rfl, ?_⟩)) (by decide +kernel) ?_
    exact cf_R_ret (pc := 240) rp_246 rfl rfl rfl ⟨rfl, h⟩
/-- LazyHouse$Reader.advance ()V, from 8 on -/
def wc_Reader_advance_8 (d : Nat) (s : cf_S) (Q : cf_S → Prop) : Prop := (((s.1 3 1) ≤ (s.1 23 2) → wc_Reader_advance_52 d s Q) ∧ (¬ ((s.1 3 1) ≤ (s.1 23 2)) → cf_I (d + 9) 251 [(0, .int (by_g s 4 (s.1 23 2)))] s (fun r1 s1 => ((r1 = 0 → wc_Reader_advance_52 d s1 Q) ∧ (¬ (r1 = 0) → cf_R (d + 10) 246 (8, [(0, .ref 23)], [], (cf_si s1 23 2 ((s1.1 23 2) + (Int32.ofInt 1)))) (cf_qV Q))))))
set_option maxRecDepth 20000 in
theorem wc_Reader_advance_8_ok {d : Nat} {s : cf_S} {Q : cf_S → Prop} (h : wc_Reader_advance_8 d s Q) : cf_R (d + 10) 246 (8, [(0, .ref 23)], [], s) (cf_qV Q) := by
  unfold wc_Reader_advance_8 at h
  refine cf_R_w rp_246 (rf_bk am_t246 4 6) 8 [(0, .ref 23)] [] s (by repeat (first | exact trivial | refine ⟨rfl, ?_⟩)) (by decide +kernel) ?_
  refine cf_R_if (b := am_cnd .ge (s.1 23 2) (s.1 3 1)) (p := 52) (q := 22) (fun hb => ?_) (fun hb => ?_)
  · replace h := h.1 (of_decide_eq_true hb)
    exact cf_R_le (l := [(0, .ref 23)]) rfl rfl (⟨rfl, trivial⟩) (wc_Reader_advance_52_ok h)
  · replace h := h.2 (of_decide_eq_false hb)
    refine cf_R_w rp_246 (rf_bk am_t246 10 4) 22 [(0, .ref 23)] [] s (by repeat (first | exact trivial | refine ⟨rfl, ?_⟩)) (by decide +kernel) ?_
    refine cf_R_prim (pc := 30) (q := ([.ref 4, .int (s.1 23 2)], [])) rp_246 rfl rfl (by decide) (by decide) rp_120 rfl (Nat.le_of_ble_eq_true rfl) ⟨rfl, Nat.le_of_ble_eq_true rfl⟩ (cq_at rfl) ?_
    refine cf_R_call (pc := 33) (q := ([.int (by_g s 4 (s.1 23 2))], [])) rp_246 rfl rfl (by decide) (by decide) rp_251 rfl (Nat.le_of_ble_eq_true rfl) ⟨rfl, Nat.le_of_ble_eq_true rfl⟩ h (fun v s1 h => ?_)
    obtain ⟨r1, rfl, h⟩ := h
    refine cf_R_w rp_246 (rf_bk am_t246 16 1) 36 [(0, .ref 23)] [.int r1] s1 (by repeat (first | exact trivial | refine ⟨rfl, ?_⟩)) (by decide +kernel) ?_
    refine cf_R_if (b := am_cnd .eq r1 0) (p := 52) (q := 39) (fun hb => ?_) (fun hb => ?_)
    · replace h := h.1 (of_decide_eq_true hb)
      exact cf_R_le (l := [(0, .ref 23)]) rfl rfl (⟨rfl, trivial⟩) (wc_Reader_advance_52_ok h)
    · replace h := h.2 (of_decide_eq_false hb)
      refine cf_R_w rp_246 (rf_bk am_t246 17 6) 39 [(0, .ref 23)] [] s1 (by repeat (first | exact trivial | refine ⟨rfl, ?_⟩)) (by decide +kernel) ?_
      refine And.intro rfl ?_
      refine cf_R_w rp_246 (rf_bk am_t246 23 1) 49 [(0, .ref 23)] [] (cf_si s1 23 2 ((s1.1 23 2) + (Int32.ofInt 1))) (by repeat (first | exact trivial | refine ⟨rfl, ?_⟩)) (by decide +kernel) ?_
      exact cf_R_le (l := [(0, .ref 23)]) rfl rfl (⟨rfl, trivial⟩) h
/-- LazyHouse$Reader.advance ()V, from 0 on -/
def wc_Reader_advance (d : Nat) (s : cf_S) (Q : cf_S → Prop) : Prop := (((s.1 23 6) < 0 → cf_R (d + 10) 246 (8, [(0, .ref 23)], [], s) (cf_qV Q)) ∧ (¬ ((s.1 23 6) < 0) → Q s))
set_option maxRecDepth 20000 in
theorem wc_Reader_advance_ok {d : Nat} {s : cf_S} {Q : cf_S → Prop} (h : wc_Reader_advance d s Q) : cf_V (d + 10) 246 [(0, .ref 23)] s Q := by
  unfold wc_Reader_advance at h
  unfold cf_V
  refine cf_R_w rp_246 (rf_bk am_t246 0 3) 0 [(0, .ref 23)] [] s (by repeat (first | exact trivial | refine ⟨rfl, ?_⟩)) (by decide +kernel) ?_
  refine cf_R_if (b := am_cnd .lt (s.1 23 6) 0) (p := 8) (q := 7) (fun hb => ?_) (fun hb => ?_)
  · replace h := h.1 (of_decide_eq_true hb)
    exact cf_R_le (l := [(0, .ref 23)]) rfl rfl (⟨rfl, trivial⟩) h
  · replace h := h.2 (of_decide_eq_false hb)
    exact cf_R_ret (pc := 7) rp_246 rfl rfl rfl ⟨rfl, h⟩
/-- LazyHouse$Reader.readNumber ()V, from 75 on -/
def wc_Reader_readNumber_75 (d : Nat) (s : cf_S) (Q : cf_S → Prop) : Prop := ((((s.1 23 2) - (s.1 23 4)) ≤ ((Int8.ofInt 9).toInt32) → Q (cf_si s 23 3 (Int32.ofInt 4))) ∧ (¬ (((s.1 23 2) - (s.1 23 4)) ≤ ((Int8.ofInt 9).toInt32)) → Q (cf_si s 23 3 (Int32.ofInt 1))))
set_option maxRecDepth 20000 in
theorem wc_Reader_readNumber_75_ok {d : Nat} {s : cf_S} {Q : cf_S → Prop} (h : wc_Reader_readNumber_75 d s Q) : cf_R (d + 10) 247 (75, [(0, .ref 23)], [], s) (cf_qV Q) := by
  unfold wc_Reader_readNumber_75 at h
  refine cf_R_w rp_247 (rf_bk am_t247 37 8) 75 [(0, .ref 23)] [] s (by repeat (first | exact trivial | refine ⟨rfl, ?_⟩)) (by decide +kernel) ?_
  refine cf_R_if (b := am_cnd .le ((s.1 23 2) - (s.1 23 4)) ((Int8.ofInt 9).toInt32)) (p := 94) (q := 90) (fun hb => ?_) (fun hb => ?_)
  · replace h := h.1 (of_decide_eq_true hb)
    refine cf_R_w rp_247 (rf_bk am_t247 47 2) 94 [(0, .ref 23)] [.ref 23] s (by repeat (first | exact trivial | refine ⟨rfl, ?_⟩)) (by decide +kernel) ?_
    refine And.intro rfl ?_
    exact cf_R_ret (pc := 98) rp_247 rfl rfl rfl ⟨rfl, h⟩
  · replace h := h.2 (of_decide_eq_false hb)
    refine cf_R_w rp_247 (rf_bk am_t247 45 2) 90 [(0, .ref 23)] [.ref 23] s (by repeat (first | exact trivial | refine ⟨rfl, ?_⟩)) (by decide +kernel) ?_
    refine cf_R_w rp_247 (rf_bk am_t247 48 1) 95 [(0, .ref 23)] [.int (Int32.ofInt 1), .ref 23] s (by repeat (first | exact trivial | refine ⟨rfl, ?_⟩)) (by decide +kernel) ?_
    refine And.intro rfl ?_
    exact cf_R_ret (pc := 98) rp_247 rfl rfl rfl ⟨rfl, h⟩
/-- LazyHouse$Reader.readNumber ()V, from 5 on -/
def wc_Reader_readNumber_5 (d : Nat) (s : cf_S) (Q : cf_S → Prop) : Prop := (((s.1 3 1) ≤ (s.1 23 2) → wc_Reader_readNumber_75 d s Q) ∧ (¬ ((s.1 3 1) ≤ (s.1 23 2)) → cf_I (d + 9) 252 [(0, .int (by_g s 4 (s.1 23 2)))] s (fun r1 s1 => ((r1 = 0 → wc_Reader_readNumber_75 d s1 Q) ∧ (¬ (r1 = 0) → cf_R (d + 10) 247 (5, [(0, .ref 23)], [], (cf_si (cf_si s1 23 5 ((((s1.1 23 5) * ((Int8.ofInt 10).toInt32)) + (by_g s1 4 (s1.1 23 2))) - ((Int8.ofInt 48).toInt32))) 23 2 ((s1.1 23 2) + (Int32.ofInt 1)))) (cf_qV Q))))))
set_option maxRecDepth 20000 in
theorem wc_Reader_readNumber_5_ok {d : Nat} {s : cf_S} {Q : cf_S → Prop} (h : wc_Reader_readNumber_5 d s Q) : cf_R (d + 10) 247 (5, [(0, .ref 23)], [], s) (cf_qV Q) := by
  unfold wc_Reader_readNumber_5 at h
  refine cf_R_w rp_247 (rf_bk am_t247 3 6) 5 [(0, .ref 23)] [] s (by repeat (first | exact trivial | refine ⟨rfl, ?_⟩)) (by decide +kernel) ?_
  refine cf_R_if (b := am_cnd .ge (s.1 23 2) (s.1 3 1)) (p := 75) (q := 19) (fun hb => ?_) (fun hb => ?_)
  · replace h := h.1 (of_decide_eq_true hb)
    exact cf_R_le (l := [(0, .ref 23)]) rfl rfl (⟨rfl, trivial⟩) (wc_Reader_readNumber_75_ok h)
  · replace h := h.2 (of_decide_eq_false hb)
    refine cf_R_w rp_247 (rf_bk am_t247 9 4) 19 [(0, .ref 23)] [] s (by repeat (first | exact trivial | refine ⟨rfl, ?_⟩)) (by decide +kernel) ?_
    refine cf_R_prim (pc := 27) (q := ([.ref 4, .int (s.1 23 2)], [])) rp_247 rfl rfl (by decide) (by decide) rp_120 rfl (Nat.le_of_ble_eq_true rfl) ⟨rfl, Nat.le_of_ble_eq_true rfl⟩ (cq_at rfl) ?_
    refine cf_R_call (pc := 30) (q := ([.int (by_g s 4 (s.1 23 2))], [])) rp_247 rfl rfl (by decide) (by decide) rp_252 rfl (Nat.le_of_ble_eq_true rfl) ⟨rfl, Nat.le_of_ble_eq_true rfl⟩ h (fun v s1 h => ?_)
    obtain ⟨r1, rfl, h⟩ := h
    refine cf_R_w rp_247 (rf_bk am_t247 15 1) 33 [(0, .ref 23)] [.int r1] s1 (by repeat (first | exact trivial | refine ⟨rfl, ?_⟩)) (by decide +kernel) ?_
    refine cf_R_if (b := am_cnd .eq r1 0) (p := 75) (q := 36) (fun hb => ?_) (fun hb => ?_)
    · replace h := h.1 (of_decide_eq_true hb)
      exact cf_R_le (l := [(0, .ref 23)]) rfl rfl (⟨rfl, trivial⟩) (wc_Reader_readNumber_75_ok h)
    · replace h := h.2 (of_decide_eq_false hb)
      refine cf_R_w rp_247 (rf_bk am_t247 16 9) 36 [(0, .ref 23)] [] s1 (by repeat (first | exact trivial | refine ⟨rfl, ?_⟩)) (by decide +kernel) ?_
      refine cf_R_prim (pc := 52) (q := ([.ref 4, .int (s1.1 23 2)], [.int ((s1.1 23 5) * ((Int8.ofInt 10).toInt32)), .ref 23])) rp_247 rfl rfl (by decide) (by decide) rp_120 rfl (Nat.le_of_ble_eq_true rfl) ⟨rfl, Nat.le_of_ble_eq_true rfl⟩ (cq_at rfl) ?_
      refine cf_R_w rp_247 (rf_bk am_t247 26 4) 55 [(0, .ref 23)] [.int (by_g s1 4 (s1.1 23 2)), .int ((s1.1 23 5) * ((Int8.ofInt 10).toInt32)), .ref 23] s1 (by repeat (first | exact trivial | refine ⟨rfl, ?_⟩)) (by decide +kernel) ?_
      refine And.intro rfl ?_
      refine cf_R_w rp_247 (rf_bk am_t247 30 6) 62 [(0, .ref 23)] [] (cf_si s1 23 5 ((((s1.1 23 5) * ((Int8.ofInt 10).toInt32)) + (by_g s1 4 (s1.1 23 2))) - ((Int8.ofInt 48).toInt32))) (by repeat (first | exact trivial | refine ⟨rfl, ?_⟩)) (by decide +kernel) ?_
      refine And.intro rfl ?_
      refine cf_R_w rp_247 (rf_bk am_t247 36 1) 72 [(0, .ref 23)] [] (cf_si (cf_si s1 23 5 ((((s1.1 23 5) * ((Int8.ofInt 10).toInt32)) + (by_g s1 4 (s1.1 23 2))) - ((Int8.ofInt 48).toInt32))) 23 2 ((s1.1 23 2) + (Int32.ofInt 1))) (by repeat (first | exact trivial | refine ⟨rfl, ?_⟩)) (by decide +kernel) ?_
      exact cf_R_le (l := [(0, .ref 23)]) rfl rfl (⟨rfl, trivial⟩) h
/-- LazyHouse$Reader.readNumber ()V, from 0 on -/
def wc_Reader_readNumber (d : Nat) (s : cf_S) (Q : cf_S → Prop) : Prop := cf_R (d + 10) 247 (5, [(0, .ref 23)], [], (cf_si s 23 5 (Int32.ofInt 0))) (cf_qV Q)
set_option maxRecDepth 20000 in
theorem wc_Reader_readNumber_ok {d : Nat} {s : cf_S} {Q : cf_S → Prop} (h : wc_Reader_readNumber d s Q) : cf_V (d + 10) 247 [(0, .ref 23)] s Q := by
  unfold wc_Reader_readNumber at h
  unfold cf_V
  refine cf_R_w rp_247 (rf_bk am_t247 0 3) 0 [(0, .ref 23)] [] s (by repeat (first | exact trivial | refine ⟨rfl, ?_⟩)) (by decide +kernel) ?_
  refine And.intro rfl ?_
  exact cf_R_le (l := [(0, .ref 23)]) rfl rfl (⟨rfl, trivial⟩) h
/-- LazyHouse$Reader.skipLetters ()V, from 0 on -/
def wc_Reader_skipLetters_0 (d : Nat) (s : cf_S) (Q : cf_S → Prop) : Prop := (((s.1 3 1) ≤ (s.1 23 2) → Q s) ∧ (¬ ((s.1 3 1) ≤ (s.1 23 2)) → cf_I (d + 9) 255 [(0, .int (by_g s 4 (s.1 23 2)))] s (fun r1 s1 => ((r1 = 0 → Q s1) ∧ (¬ (r1 = 0) → cf_R (d + 10) 248 (0, [(0, .ref 23)], [], (cf_si s1 23 2 ((s1.1 23 2) + (Int32.ofInt 1)))) (cf_qV Q))))))
set_option maxRecDepth 20000 in
theorem wc_Reader_skipLetters_0_ok {d : Nat} {s : cf_S} {Q : cf_S → Prop} (h : wc_Reader_skipLetters_0 d s Q) : cf_R (d + 10) 248 (0, [(0, .ref 23)], [], s) (cf_qV Q) := by
  unfold wc_Reader_skipLetters_0 at h
  refine cf_R_w rp_248 (rf_bk am_t248 0 6) 0 [(0, .ref 23)] [] s (by repeat (first | exact trivial | refine ⟨rfl, ?_⟩)) (by decide +kernel) ?_
  refine cf_R_if (b := am_cnd .ge (s.1 23 2) (s.1 3 1)) (p := 44) (q := 14) (fun hb => ?_) (fun hb => ?_)
  · replace h := h.1 (of_decide_eq_true hb)
    exact cf_R_ret (pc := 44) rp_248 rfl rfl rfl ⟨rfl, h⟩
  · replace h := h.2 (of_decide_eq_false hb)
    refine cf_R_w rp_248 (rf_bk am_t248 6 4) 14 [(0, .ref 23)] [] s (by repeat (first | exact trivial | refine ⟨rfl, ?_⟩)) (by decide +kernel) ?_
    refine cf_R_prim (pc := 22) (q := ([.ref 4, .int (s.1 23 2)], [])) rp_248 rfl rfl (by decide) (by decide) rp_120 rfl (Nat.le_of_ble_eq_true rfl) ⟨rfl, Nat.le_of_ble_eq_true rfl⟩ (cq_at rfl) ?_
    refine cf_R_call (pc := 25) (q := ([.int (by_g s 4 (s.1 23 2))], [])) rp_248 rfl rfl (by decide) (by decide) rp_255 rfl (Nat.le_of_ble_eq_true rfl) ⟨rfl, Nat.le_of_ble_eq_true rfl⟩ h (fun v s1 h => ?_)
    obtain ⟨r1, rfl, h⟩ := h
    refine cf_R_w rp_248 (rf_bk am_t248 12 1) 28 [(0, .ref 23)] [.int r1] s1 (by repeat (first | exact trivial | refine ⟨rfl, ?_⟩)) (by decide +kernel) ?_
    refine cf_R_if (b := am_cnd .eq r1 0) (p := 44) (q := 31) (fun hb => ?_) (fun hb => ?_)
    · replace h := h.1 (of_decide_eq_true hb)
      exact cf_R_ret (pc := 44) rp_248 rfl rfl rfl ⟨rfl, h⟩
    · replace h := h.2 (of_decide_eq_false hb)
      refine cf_R_w rp_248 (rf_bk am_t248 13 6) 31 [(0, .ref 23)] [] s1 (by repeat (first | exact trivial | refine ⟨rfl, ?_⟩)) (by decide +kernel) ?_
      refine And.intro rfl ?_
      refine cf_R_w rp_248 (rf_bk am_t248 19 1) 41 [(0, .ref 23)] [] (cf_si s1 23 2 ((s1.1 23 2) + (Int32.ofInt 1))) (by repeat (first | exact trivial | refine ⟨rfl, ?_⟩)) (by decide +kernel) ?_
      exact cf_R_le (l := [(0, .ref 23)]) rfl rfl (⟨rfl, trivial⟩) h
/-- LazyHouse$Reader.skipLetters ()V, from 0 on -/
def wc_Reader_skipLetters (d : Nat) (s : cf_S) (Q : cf_S → Prop) : Prop := cf_R (d + 10) 248 (0, [(0, .ref 23)], [], s) (cf_qV Q)
set_option maxRecDepth 20000 in
theorem wc_Reader_skipLetters_ok {d : Nat} {s : cf_S} {Q : cf_S → Prop} (h : wc_Reader_skipLetters d s Q) : cf_V (d + 10) 248 [(0, .ref 23)] s Q := by
  unfold wc_Reader_skipLetters at h
  unfold cf_V
  exact cf_R_le (l := [(0, .ref 23)]) rfl rfl (⟨rfl, trivial⟩) h
/-- LazyHouse$Reader.readSign (I)V, from 102 on -/
def wc_Reader_readSign_102 (d : Nat) (x1 : Int32) (s : cf_S) (Q : cf_S → Prop) : Prop := cf_I (d + 9) 250 [(0, .int x1)] s (fun r1 s1 => ((r1 = 0 → Q (cf_si s1 23 3 (Int32.ofInt 1))) ∧ (¬ (r1 = 0) → Q (cf_si s1 23 3 x1))))
set_option maxRecDepth 20000 in
theorem wc_Reader_readSign_102_ok {d : Nat} {x1 : Int32} {s : cf_S} {Q : cf_S → Prop} (h : wc_Reader_readSign_102 d x1 s Q) : cf_R (d + 10) 249 (102, [(0, .ref 23), (1, .int x1)], [], s) (cf_qV Q) := by
  unfold wc_Reader_readSign_102 at h
  refine cf_R_w rp_249 (rf_bk am_t249 52 2) 102 [(0, .ref 23), (1, .int x1)] [] s (by repeat (first | exact trivial | refine ⟨rfl, ?_⟩)) (by decide +kernel) ?_
  refine cf_R_call (pc := 104) (q := ([.int x1], [.ref 23])) rp_249 rfl rfl (by decide) (by decide) rp_250 rfl (Nat.le_of_ble_eq_true rfl) ⟨rfl, Nat.le_of_ble_eq_true rfl⟩ h (fun v s1 h => ?_)
  obtain ⟨r1, rfl, h⟩ := h
  refine cf_R_w rp_249 (rf_bk am_t249 55 1) 107 [(0, .ref 23), (1, .int x1)] [.int r1, .ref 23] s1 (by repeat (first | exact trivial | refine ⟨rfl, ?_⟩)) (by decide +kernel) ?_
  refine cf_R_if (b := am_cnd .eq r1 0) (p := 114) (q := 110) (fun hb => ?_) (fun hb => ?_)
  · replace h := h.1 (of_decide_eq_true hb)
    refine cf_R_w rp_249 (rf_bk am_t249 58 2) 114 [(0, .ref 23), (1, .int x1)] [.ref 23] s1 (by repeat (first | exact trivial | refine ⟨rfl, ?_⟩)) (by decide +kernel) ?_
    refine And.intro rfl ?_
    exact cf_R_ret (pc := 118) rp_249 rfl rfl rfl ⟨rfl, h⟩
  · replace h := h.2 (of_decide_eq_false hb)
    refine cf_R_w rp_249 (rf_bk am_t249 56 2) 110 [(0, .ref 23), (1, .int x1)] [.ref 23] s1 (by repeat (first | exact trivial | refine ⟨rfl, ?_⟩)) (by decide +kernel) ?_
    refine cf_R_w rp_249 (rf_bk am_t249 59 1) 115 [(0, .ref 23), (1, .int x1)] [.int x1, .ref 23] s1 (by repeat (first | exact trivial | refine ⟨rfl, ?_⟩)) (by decide +kernel) ?_
    refine And.intro rfl ?_
    exact cf_R_ret (pc := 118) rp_249 rfl rfl rfl ⟨rfl, h⟩
/-- LazyHouse$Reader.readSign (I)V, from 71 on -/
def wc_Reader_readSign_71 (d : Nat) (x1 : Int32) (x2 : Int32) (s : cf_S) (Q : cf_S → Prop) : Prop := ((¬ x1 = ((Int8.ofInt 61).toInt32) → wc_Reader_readSign_102 d x1 s Q) ∧ (x1 = ((Int8.ofInt 61).toInt32) → ((¬ x2 = ((Int8.ofInt 61).toInt32) → wc_Reader_readSign_102 d x1 s Q) ∧ (x2 = ((Int8.ofInt 61).toInt32) → Q (cf_si (cf_si s 23 2 ((s.1 23 2) + (Int32.ofInt 1))) 23 3 ((Int8.ofInt 10).toInt32))))))
set_option maxRecDepth 20000 in
theorem wc_Reader_readSign_71_ok {d : Nat} {x1 : Int32} {x2 : Int32} {s : cf_S} {Q : cf_S → Prop} (h : wc_Reader_readSign_71 d x1 x2 s Q) : cf_R (d + 10) 249 (71, [(0, .ref 23), (1, .int x1), (2, .int x2)], [], s) (cf_qV Q) := by
  unfold wc_Reader_readSign_71 at h
  refine cf_R_w rp_249 (rf_bk am_t249 36 3) 71 [(0, .ref 23), (1, .int x1), (2, .int x2)] [] s (by repeat (first | exact trivial | refine ⟨rfl, ?_⟩)) (by decide +kernel) ?_
  refine cf_R_if (b := am_cnd .ne x1 ((Int8.ofInt 61).toInt32)) (p := 102) (q := 77) (fun hb => ?_) (fun hb => ?_)
  · replace h := h.1 (of_decide_eq_true hb)
    exact cf_R_le (l := [(0, .ref 23), (1, .int x1)]) rfl rfl (⟨rfl, rfl, trivial⟩) (wc_Reader_readSign_102_ok h)
  · replace h := h.2 (Decidable.not_not.mp (of_decide_eq_false hb))
    refine cf_R_w rp_249 (rf_bk am_t249 39 3) 77 [(0, .ref 23), (1, .int x1), (2, .int x2)] [] s (by repeat (first | exact trivial | refine ⟨rfl, ?_⟩)) (by decide +kernel) ?_
    refine cf_R_if (b := am_cnd .ne x2 ((Int8.ofInt 61).toInt32)) (p := 102) (q := 83) (fun hb => ?_) (fun hb => ?_)
    · replace h := h.1 (of_decide_eq_true hb)
      exact cf_R_le (l := [(0, .ref 23), (1, .int x1)]) rfl rfl (⟨rfl, rfl, trivial⟩) (wc_Reader_readSign_102_ok h)
    · replace h := h.2 (Decidable.not_not.mp (of_decide_eq_false hb))
      refine cf_R_w rp_249 (rf_bk am_t249 42 6) 83 [(0, .ref 23), (1, .int x1), (2, .int x2)] [] s (by repeat (first | exact trivial | refine ⟨rfl, ?_⟩)) (by decide +kernel) ?_
      refine And.intro rfl ?_
      refine cf_R_w rp_249 (rf_bk am_t249 48 3) 93 [(0, .ref 23), (1, .int x1), (2, .int x2)] [] (cf_si s 23 2 ((s.1 23 2) + (Int32.ofInt 1))) (by repeat (first | exact trivial | refine ⟨rfl, ?_⟩)) (by decide +kernel) ?_
      refine And.intro rfl ?_
      refine cf_R_w rp_249 (rf_bk am_t249 51 1) 99 [(0, .ref 23), (1, .int x1), (2, .int x2)] [] (cf_si (cf_si s 23 2 ((s.1 23 2) + (Int32.ofInt 1))) 23 3 ((Int8.ofInt 10).toInt32)) (by repeat (first | exact trivial | refine ⟨rfl, ?_⟩)) (by decide +kernel) ?_
      exact cf_R_ret (pc := 118) rp_249 rfl rfl rfl ⟨rfl, h⟩
/-- LazyHouse$Reader.readSign (I)V, from 39 on -/
def wc_Reader_readSign_39 (d : Nat) (x1 : Int32) (y0 : Int32) (s : cf_S) (Q : cf_S → Prop) : Prop := ((¬ x1 = ((Int8.ofInt 45).toInt32) → wc_Reader_readSign_71 d x1 y0 s Q) ∧ (x1 = ((Int8.ofInt 45).toInt32) → ((¬ y0 = ((Int8.ofInt 62).toInt32) → wc_Reader_readSign_71 d x1 y0 s Q) ∧ (y0 = ((Int8.ofInt 62).toInt32) → Q (cf_si (cf_si s 23 2 ((s.1 23 2) + (Int32.ofInt 1))) 23 3 ((Int8.ofInt 9).toInt32))))))
set_option maxRecDepth 20000 in
theorem wc_Reader_readSign_39_ok {d : Nat} {x1 : Int32} {y0 : Int32} {s : cf_S} {Q : cf_S → Prop} (h : wc_Reader_readSign_39 d x1 y0 s Q) : cf_R (d + 10) 249 (39, [(0, .ref 23), (1, .int x1)], [.int y0], s) (cf_qV Q) := by
  unfold wc_Reader_readSign_39 at h
  refine cf_R_w rp_249 (rf_bk am_t249 19 4) 39 [(0, .ref 23), (1, .int x1)] [.int y0] s (by repeat (first | exact trivial | refine ⟨rfl, ?_⟩)) (by decide +kernel) ?_
  refine cf_R_if (b := am_cnd .ne x1 ((Int8.ofInt 45).toInt32)) (p := 71) (q := 46) (fun hb => ?_) (fun hb => ?_)
  · replace h := h.1 (of_decide_eq_true hb)
    exact cf_R_le (l := [(0, .ref 23), (1, .int x1), (2, .int y0)]) rfl rfl (⟨rfl, rfl, rfl, trivial⟩) (wc_Reader_readSign_71_ok h)
  · replace h := h.2 (Decidable.not_not.mp (of_decide_eq_false hb))
    refine cf_R_w rp_249 (rf_bk am_t249 23 3) 46 [(2, .int y0), (0, .ref 23), (1, .int x1)] [] s (by repeat (first | exact trivial | refine ⟨rfl, ?_⟩)) (by decide +kernel) ?_
    refine cf_R_if (b := am_cnd .ne y0 ((Int8.ofInt 62).toInt32)) (p := 71) (q := 52) (fun hb => ?_) (fun hb => ?_)
    · replace h := h.1 (of_decide_eq_true hb)
      exact cf_R_le (l := [(0, .ref 23), (1, .int x1), (2, .int y0)]) rfl rfl (⟨rfl, rfl, rfl, trivial⟩) (wc_Reader_readSign_71_ok h)
    · replace h := h.2 (Decidable.not_not.mp (of_decide_eq_false hb))
      refine cf_R_w rp_249 (rf_bk am_t249 26 6) 52 [(2, .int y0), (0, .ref 23), (1, .int x1)] [] s (by repeat (first | exact trivial | refine ⟨rfl, ?_⟩)) (by decide +kernel) ?_
      refine And.intro rfl ?_
      refine cf_R_w rp_249 (rf_bk am_t249 32 3) 62 [(2, .int y0), (0, .ref 23), (1, .int x1)] [] (cf_si s 23 2 ((s.1 23 2) + (Int32.ofInt 1))) (by repeat (first | exact trivial | refine ⟨rfl, ?_⟩)) (by decide +kernel) ?_
      refine And.intro rfl ?_
      refine cf_R_w rp_249 (rf_bk am_t249 35 1) 68 [(2, .int y0), (0, .ref 23), (1, .int x1)] [] (cf_si (cf_si s 23 2 ((s.1 23 2) + (Int32.ofInt 1))) 23 3 ((Int8.ofInt 9).toInt32)) (by repeat (first | exact trivial | refine ⟨rfl, ?_⟩)) (by decide +kernel) ?_
      exact cf_R_ret (pc := 118) rp_249 rfl rfl rfl ⟨rfl, h⟩
/-- LazyHouse$Reader.readSign (I)V, from 0 on -/
def wc_Reader_readSign (d : Nat) (x1 : Int32) (s : cf_S) (Q : cf_S → Prop) : Prop := (((s.1 3 1) ≤ ((s.1 23 2) + (Int32.ofInt 1)) → wc_Reader_readSign_39 d x1 (Int32.ofInt (-1)) (cf_si s 23 2 ((s.1 23 2) + (Int32.ofInt 1))) Q) ∧ (¬ ((s.1 3 1) ≤ ((s.1 23 2) + (Int32.ofInt 1))) → wc_Reader_readSign_39 d x1 (by_g (cf_si s 23 2 ((s.1 23 2) + (Int32.ofInt 1))) 4 ((s.1 23 2) + (Int32.ofInt 1))) (cf_si s 23 2 ((s.1 23 2) + (Int32.ofInt 1))) Q))
set_option maxRecDepth 20000 in
theorem wc_Reader_readSign_ok {d : Nat} {x1 : Int32} {s : cf_S} {Q : cf_S → Prop} (h : wc_Reader_readSign d x1 s Q) : cf_V (d + 10) 249 [(0, .ref 23), (1, .int x1)] s Q := by
  unfold wc_Reader_readSign at h
  unfold cf_V
  refine cf_R_w rp_249 (rf_bk am_t249 0 6) 0 [(0, .ref 23), (1, .int x1)] [] s (by repeat (first | exact trivial | refine ⟨rfl, ?_⟩)) (by decide +kernel) ?_
  refine And.intro rfl ?_
  refine cf_R_w rp_249 (rf_bk am_t249 6 6) 10 [(0, .ref 23), (1, .int x1)] [] (cf_si s 23 2 ((s.1 23 2) + (Int32.ofInt 1))) (by repeat (first | exact trivial | refine ⟨rfl, ?_⟩)) (by decide +kernel) ?_
  refine cf_R_if (b := am_cnd .ge ((s.1 23 2) + (Int32.ofInt 1)) (s.1 3 1)) (p := 38) (q := 24) (fun hb => ?_) (fun hb => ?_)
  · replace h := h.1 (of_decide_eq_true hb)
    refine cf_R_w rp_249 (rf_bk am_t249 18 1) 38 [(0, .ref 23), (1, .int x1)] [] (cf_si s 23 2 ((s.1 23 2) + (Int32.ofInt 1))) (by repeat (first | exact trivial | refine ⟨rfl, ?_⟩)) (by decide +kernel) ?_
    exact cf_R_le (l := [(0, .ref 23), (1, .int x1)]) rfl rfl (⟨rfl, rfl, trivial⟩) (wc_Reader_readSign_39_ok h)
  · replace h := h.2 (of_decide_eq_false hb)
    refine cf_R_w rp_249 (rf_bk am_t249 12 4) 24 [(0, .ref 23), (1, .int x1)] [] (cf_si s 23 2 ((s.1 23 2) + (Int32.ofInt 1))) (by repeat (first | exact trivial | refine ⟨rfl, ?_⟩)) (by decide +kernel) ?_
    refine cf_R_prim (pc := 32) (q := ([.ref 4, .int ((s.1 23 2) + (Int32.ofInt 1))], [])) rp_249 rfl rfl (by decide) (by decide) rp_120 rfl (Nat.le_of_ble_eq_true rfl) ⟨rfl, Nat.le_of_ble_eq_true rfl⟩ (cq_at rfl) ?_
    refine cf_R_w rp_249 (rf_bk am_t249 17 1) 35 [(0, .ref 23), (1, .int x1)] [.int (by_g (cf_si s 23 2 ((s.1 23 2) + (Int32.ofInt 1))) 4 ((s.1 23 2) + (Int32.ofInt 1)))] (cf_si s 23 2 ((s.1 23 2) + (Int32.ofInt 1))) (by repeat (first | exact trivial | refine ⟨rfl, ?_⟩)) (by decide +kernel) ?_
    exact cf_R_le (l := [(0, .ref 23), (1, .int x1)]) rfl rfl (⟨rfl, rfl, trivial⟩) (wc_Reader_readSign_39_ok h)
/-- LazyHouse$Reader.isSign (I)Z, from 0 on -/
def wc_Reader_isSign (d : Nat) (x0 : Int32) (s : cf_S) (Q : Int32 → cf_S → Prop) : Prop := ((x0 = 37 → Q (Int32.ofInt 1) s) ∧ (¬ (x0 = 37) → ((x0 = 40 → Q (Int32.ofInt 1) s) ∧ (¬ (x0 = 40) → ((x0 = 41 → Q (Int32.ofInt 1) s) ∧ (¬ (x0 = 41) → ((x0 = 42 → Q (Int32.ofInt 1) s) ∧ (¬ (x0 = 42) → ((x0 = 43 → Q (Int32.ofInt 1) s) ∧ (¬ (x0 = 43) → ((x0 = 45 → Q (Int32.ofInt 1) s) ∧ (¬ (x0 = 45) → ((x0 = 47 → Q (Int32.ofInt 1) s) ∧ (¬ (x0 = 47) → ((x0 = 59 → Q (Int32.ofInt 1) s) ∧ (¬ (x0 = 59) → ((x0 = 60 → Q (Int32.ofInt 1) s) ∧ (¬ (x0 = 60) → ((x0 = 61 → Q (Int32.ofInt 1) s) ∧ (¬ (x0 = 61) → ((x0 = 92 → Q (Int32.ofInt 1) s) ∧ (¬ (x0 = 92) → ((x0 = 123 → Q (Int32.ofInt 1) s) ∧ (¬ (x0 = 123) → ((x0 = 125 → Q (Int32.ofInt 1) s) ∧ (¬ (x0 = 125) → Q (Int32.ofInt 0) s))))))))))))))))))))))))))
set_option maxRecDepth 20000 in
theorem wc_Reader_isSign_ok {d : Nat} {x0 : Int32} {s : cf_S} {Q : Int32 → cf_S → Prop} (h : wc_Reader_isSign d x0 s Q) : cf_I d 250 [(0, .int x0)] s Q := by
  unfold wc_Reader_isSign at h
  unfold cf_I
  refine cf_R_w rp_250 (rf_bk am_t250 0 2) 0 [(0, .int x0)] [] s (by repeat (first | exact trivial | refine ⟨rfl, ?_⟩)) (by decide +kernel) ?_
  refine cf_R_sw (fun hb => ?_) (fun hb => ?_)
  · replace h := h.1 hb
    refine cf_R_w rp_250 (rf_bk am_t250 2 1) 116 [(0, .int x0)] [] s (by repeat (first | exact trivial | refine ⟨rfl, ?_⟩)) (by decide +kernel) ?_
    exact cf_R_ret (pc := 117) (v := some (.int (Int32.ofInt 1))) rp_250 rfl rfl rfl ⟨_, rfl, h⟩
  replace h := h.2 hb
  refine cf_R_sw (fun hb => ?_) (fun hb => ?_)
  · replace h := h.1 hb
    refine cf_R_w rp_250 (rf_bk am_t250 2 1) 116 [(0, .int x0)] [] s (by repeat (first | exact trivial | refine ⟨rfl, ?_⟩)) (by decide +kernel) ?_
    exact cf_R_ret (pc := 117) (v := some (.int (Int32.ofInt 1))) rp_250 rfl rfl rfl ⟨_, rfl, h⟩
  replace h := h.2 hb
  refine cf_R_sw (fun hb => ?_) (fun hb => ?_)
  · replace h := h.1 hb
    refine cf_R_w rp_250 (rf_bk am_t250 2 1) 116 [(0, .int x0)] [] s (by repeat (first | exact trivial | refine ⟨rfl, ?_⟩)) (by decide +kernel) ?_
    exact cf_R_ret (pc := 117) (v := some (.int (Int32.ofInt 1))) rp_250 rfl rfl rfl ⟨_, rfl, h⟩
  replace h := h.2 hb
  refine cf_R_sw (fun hb => ?_) (fun hb => ?_)
  · replace h := h.1 hb
    refine cf_R_w rp_250 (rf_bk am_t250 2 1) 116 [(0, .int x0)] [] s (by repeat (first | exact trivial | refine ⟨rfl, ?_⟩)) (by decide +kernel) ?_
    exact cf_R_ret (pc := 117) (v := some (.int (Int32.ofInt 1))) rp_250 rfl rfl rfl ⟨_, rfl, h⟩
  replace h := h.2 hb
  refine cf_R_sw (fun hb => ?_) (fun hb => ?_)
  · replace h := h.1 hb
    refine cf_R_w rp_250 (rf_bk am_t250 2 1) 116 [(0, .int x0)] [] s (by repeat (first | exact trivial | refine ⟨rfl, ?_⟩)) (by decide +kernel) ?_
    exact cf_R_ret (pc := 117) (v := some (.int (Int32.ofInt 1))) rp_250 rfl rfl rfl ⟨_, rfl, h⟩
  replace h := h.2 hb
  refine cf_R_sw (fun hb => ?_) (fun hb => ?_)
  · replace h := h.1 hb
    refine cf_R_w rp_250 (rf_bk am_t250 2 1) 116 [(0, .int x0)] [] s (by repeat (first | exact trivial | refine ⟨rfl, ?_⟩)) (by decide +kernel) ?_
    exact cf_R_ret (pc := 117) (v := some (.int (Int32.ofInt 1))) rp_250 rfl rfl rfl ⟨_, rfl, h⟩
  replace h := h.2 hb
  refine cf_R_sw (fun hb => ?_) (fun hb => ?_)
  · replace h := h.1 hb
    refine cf_R_w rp_250 (rf_bk am_t250 2 1) 116 [(0, .int x0)] [] s (by repeat (first | exact trivial | refine ⟨rfl, ?_⟩)) (by decide +kernel) ?_
    exact cf_R_ret (pc := 117) (v := some (.int (Int32.ofInt 1))) rp_250 rfl rfl rfl ⟨_, rfl, h⟩
  replace h := h.2 hb
  refine cf_R_sw (fun hb => ?_) (fun hb => ?_)
  · replace h := h.1 hb
    refine cf_R_w rp_250 (rf_bk am_t250 2 1) 116 [(0, .int x0)] [] s (by repeat (first | exact trivial | refine ⟨rfl, ?_⟩)) (by decide +kernel) ?_
    exact cf_R_ret (pc := 117) (v := some (.int (Int32.ofInt 1))) rp_250 rfl rfl rfl ⟨_, rfl, h⟩
  replace h := h.2 hb
  refine cf_R_sw (fun hb => ?_) (fun hb => ?_)
  · replace h := h.1 hb
    refine cf_R_w rp_250 (rf_bk am_t250 2 1) 116 [(0, .int x0)] [] s (by repeat (first | exact trivial | refine ⟨rfl, ?_⟩)) (by decide +kernel) ?_
    exact cf_R_ret (pc := 117) (v := some (.int (Int32.ofInt 1))) rp_250 rfl rfl rfl ⟨_, rfl, h⟩
  replace h := h.2 hb
  refine cf_R_sw (fun hb => ?_) (fun hb => ?_)
  · replace h := h.1 hb
    refine cf_R_w rp_250 (rf_bk am_t250 2 1) 116 [(0, .int x0)] [] s (by repeat (first | exact trivial | refine ⟨rfl, ?_⟩)) (by decide +kernel) ?_
    exact cf_R_ret (pc := 117) (v := some (.int (Int32.ofInt 1))) rp_250 rfl rfl rfl ⟨_, rfl, h⟩
  replace h := h.2 hb
  refine cf_R_sw (fun hb => ?_) (fun hb => ?_)
  · replace h := h.1 hb
    refine cf_R_w rp_250 (rf_bk am_t250 2 1) 116 [(0, .int x0)] [] s (by repeat (first | exact trivial | refine ⟨rfl, ?_⟩)) (by decide +kernel) ?_
    exact cf_R_ret (pc := 117) (v := some (.int (Int32.ofInt 1))) rp_250 rfl rfl rfl ⟨_, rfl, h⟩
  replace h := h.2 hb
  refine cf_R_sw (fun hb => ?_) (fun hb => ?_)
  · replace h := h.1 hb
    refine cf_R_w rp_250 (rf_bk am_t250 2 1) 116 [(0, .int x0)] [] s (by repeat (first | exact trivial | refine ⟨rfl, ?_⟩)) (by decide +kernel) ?_
    exact cf_R_ret (pc := 117) (v := some (.int (Int32.ofInt 1))) rp_250 rfl rfl rfl ⟨_, rfl, h⟩
  replace h := h.2 hb
  refine cf_R_sw (fun hb => ?_) (fun hb => ?_)
  · replace h := h.1 hb
    refine cf_R_w rp_250 (rf_bk am_t250 2 1) 116 [(0, .int x0)] [] s (by repeat (first | exact trivial | refine ⟨rfl, ?_⟩)) (by decide +kernel) ?_
    exact cf_R_ret (pc := 117) (v := some (.int (Int32.ofInt 1))) rp_250 rfl rfl rfl ⟨_, rfl, h⟩
  replace h := h.2 hb
  show cf_R d 250 (118, _, _, _) _
  refine cf_R_w rp_250 (rf_bk am_t250 4 1) 118 [(0, .int x0)] [] s (by repeat (first | exact trivial | refine ⟨rfl, ?_⟩)) (by decide +kernel) ?_
  exact cf_R_ret (pc := 119) (v := some (.int (Int32.ofInt 0))) rp_250 rfl rfl rfl ⟨_, rfl, h⟩
/-- LazyHouse$Reader.isBlank (I)Z, from 12 on -/
def wc_Reader_isBlank_12 (d : Nat) (s : cf_S) (Q : Int32 → cf_S → Prop) : Prop := Q (Int32.ofInt 1) s
set_option maxRecDepth 20000 in
theorem wc_Reader_isBlank_12_ok {d : Nat} {s : cf_S} {Q : Int32 → cf_S → Prop} (h : wc_Reader_isBlank_12 d s Q) : cf_R d 251 (12, [], [], s) (cf_qI Q) := by
  unfold wc_Reader_isBlank_12 at h
  refine cf_R_w rp_251 (rf_bk am_t251 6 2) 12 [] [] s (by repeat (first | exact trivial | refine ⟨rfl, ?_⟩)) (by decide +kernel) ?_
  exact cf_R_ret (pc := 17) (v := some (.int (Int32.ofInt 1))) rp_251 rfl rfl rfl ⟨_, rfl, h⟩
/-- LazyHouse$Reader.isBlank (I)Z, from 0 on -/
def wc_Reader_isBlank (d : Nat) (x0 : Int32) (s : cf_S) (Q : Int32 → cf_S → Prop) : Prop := ((x0 = ((Int8.ofInt 32).toInt32) → wc_Reader_isBlank_12 d s Q) ∧ (¬ (x0 = ((Int8.ofInt 32).toInt32)) → ((¬ x0 = ((Int8.ofInt 10).toInt32) → Q (Int32.ofInt 0) s) ∧ (x0 = ((Int8.ofInt 10).toInt32) → wc_Reader_isBlank_12 d s Q))))
set_option maxRecDepth 20000 in
theorem wc_Reader_isBlank_ok {d : Nat} {x0 : Int32} {s : cf_S} {Q : Int32 → cf_S → Prop} (h : wc_Reader_isBlank d x0 s Q) : cf_I d 251 [(0, .int x0)] s Q := by
  unfold wc_Reader_isBlank at h
  unfold cf_I
  refine cf_R_w rp_251 (rf_bk am_t251 0 3) 0 [(0, .int x0)] [] s (by repeat (first | exact trivial | refine ⟨rfl, ?_⟩)) (by decide +kernel) ?_
  refine cf_R_if (b := am_cnd .eq x0 ((Int8.ofInt 32).toInt32)) (p := 12) (q := 6) (fun hb => ?_) (fun hb => ?_)
  · replace h := h.1 (of_decide_eq_true hb)
    exact cf_R_le (l := []) rfl rfl trivial (wc_Reader_isBlank_12_ok h)
  · replace h := h.2 (of_decide_eq_false hb)
    refine cf_R_w rp_251 (rf_bk am_t251 3 3) 6 [(0, .int x0)] [] s (by repeat (first | exact trivial | refine ⟨rfl, ?_⟩)) (by decide +kernel) ?_
    refine cf_R_if (b := am_cnd .ne x0 ((Int8.ofInt 10).toInt32)) (p := 16) (q := 12) (fun hb => ?_) (fun hb => ?_)
    · replace h := h.1 (of_decide_eq_true hb)
      refine cf_R_w rp_251 (rf_bk am_t251 8 1) 16 [(0, .int x0)] [] s (by repeat (first | exact trivial | refine ⟨rfl, ?_⟩)) (by decide +kernel) ?_
      exact cf_R_ret (pc := 17) (v := some (.int (Int32.ofInt 0))) rp_251 rfl rfl rfl ⟨_, rfl, h⟩
    · replace h := h.2 (Decidable.not_not.mp (of_decide_eq_false hb))
      exact cf_R_le (l := []) rfl rfl trivial (wc_Reader_isBlank_12_ok h)
/-- LazyHouse$Reader.isDigit (I)Z, from 0 on -/
def wc_Reader_isDigit (d : Nat) (x0 : Int32) (s : cf_S) (Q : Int32 → cf_S → Prop) : Prop := ((x0 < ((Int8.ofInt 48).toInt32) → Q (Int32.ofInt 0) s) ∧ (¬ (x0 < ((Int8.ofInt 48).toInt32)) → ((((Int8.ofInt 57).toInt32) < x0 → Q (Int32.ofInt 0) s) ∧ (¬ (((Int8.ofInt 57).toInt32) < x0) → Q (Int32.ofInt 1) s))))
set_option maxRecDepth 20000 in
theorem wc_Reader_isDigit_ok {d : Nat} {x0 : Int32} {s : cf_S} {Q : Int32 → cf_S → Prop} (h : wc_Reader_isDigit d x0 s Q) : cf_I d 252 [(0, .int x0)] s Q := by
  unfold wc_Reader_isDigit at h
  unfold cf_I
  refine cf_R_w rp_252 (rf_bk am_t252 0 3) 0 [(0, .int x0)] [] s (by repeat (first | exact trivial | refine ⟨rfl, ?_⟩)) (by decide +kernel) ?_
  refine cf_R_if (b := am_cnd .lt x0 ((Int8.ofInt 48).toInt32)) (p := 16) (q := 6) (fun hb => ?_) (fun hb => ?_)
  · replace h := h.1 (of_decide_eq_true hb)
    refine cf_R_w rp_252 (rf_bk am_t252 8 1) 16 [(0, .int x0)] [] s (by repeat (first | exact trivial | refine ⟨rfl, ?_⟩)) (by decide +kernel) ?_
    exact cf_R_ret (pc := 17) (v := some (.int (Int32.ofInt 0))) rp_252 rfl rfl rfl ⟨_, rfl, h⟩
  · replace h := h.2 (of_decide_eq_false hb)
    refine cf_R_w rp_252 (rf_bk am_t252 3 3) 6 [(0, .int x0)] [] s (by repeat (first | exact trivial | refine ⟨rfl, ?_⟩)) (by decide +kernel) ?_
    refine cf_R_if (b := am_cnd .gt x0 ((Int8.ofInt 57).toInt32)) (p := 16) (q := 12) (fun hb => ?_) (fun hb => ?_)
    · replace h := h.1 (of_decide_eq_true hb)
      refine cf_R_w rp_252 (rf_bk am_t252 8 1) 16 [(0, .int x0)] [] s (by repeat (first | exact trivial | refine ⟨rfl, ?_⟩)) (by decide +kernel) ?_
      exact cf_R_ret (pc := 17) (v := some (.int (Int32.ofInt 0))) rp_252 rfl rfl rfl ⟨_, rfl, h⟩
    · replace h := h.2 (of_decide_eq_false hb)
      refine cf_R_w rp_252 (rf_bk am_t252 6 2) 12 [(0, .int x0)] [] s (by repeat (first | exact trivial | refine ⟨rfl, ?_⟩)) (by decide +kernel) ?_
      exact cf_R_ret (pc := 17) (v := some (.int (Int32.ofInt 1))) rp_252 rfl rfl rfl ⟨_, rfl, h⟩
/-- LazyHouse$Reader.isCapital (I)Z, from 0 on -/
def wc_Reader_isCapital (d : Nat) (x0 : Int32) (s : cf_S) (Q : Int32 → cf_S → Prop) : Prop := ((x0 < ((Int8.ofInt 65).toInt32) → Q (Int32.ofInt 0) s) ∧ (¬ (x0 < ((Int8.ofInt 65).toInt32)) → ((((Int8.ofInt 90).toInt32) < x0 → Q (Int32.ofInt 0) s) ∧ (¬ (((Int8.ofInt 90).toInt32) < x0) → Q (Int32.ofInt 1) s))))
set_option maxRecDepth 20000 in
theorem wc_Reader_isCapital_ok {d : Nat} {x0 : Int32} {s : cf_S} {Q : Int32 → cf_S → Prop} (h : wc_Reader_isCapital d x0 s Q) : cf_I d 253 [(0, .int x0)] s Q := by
  unfold wc_Reader_isCapital at h
  unfold cf_I
  refine cf_R_w rp_253 (rf_bk am_t253 0 3) 0 [(0, .int x0)] [] s (by repeat (first | exact trivial | refine ⟨rfl, ?_⟩)) (by decide +kernel) ?_
  refine cf_R_if (b := am_cnd .lt x0 ((Int8.ofInt 65).toInt32)) (p := 16) (q := 6) (fun hb => ?_) (fun hb => ?_)
  · replace h := h.1 (of_decide_eq_true hb)
    refine cf_R_w rp_253 (rf_bk am_t253 8 1) 16 [(0, .int x0)] [] s (by repeat (first | exact trivial | refine ⟨rfl, ?_⟩)) (by decide +kernel) ?_
    exact cf_R_ret (pc := 17) (v := some (.int (Int32.ofInt 0))) rp_253 rfl rfl rfl ⟨_, rfl, h⟩
  · replace h := h.2 (of_decide_eq_false hb)
    refine cf_R_w rp_253 (rf_bk am_t253 3 3) 6 [(0, .int x0)] [] s (by repeat (first | exact trivial | refine ⟨rfl, ?_⟩)) (by decide +kernel) ?_
    refine cf_R_if (b := am_cnd .gt x0 ((Int8.ofInt 90).toInt32)) (p := 16) (q := 12) (fun hb => ?_) (fun hb => ?_)
    · replace h := h.1 (of_decide_eq_true hb)
      refine cf_R_w rp_253 (rf_bk am_t253 8 1) 16 [(0, .int x0)] [] s (by repeat (first | exact trivial | refine ⟨rfl, ?_⟩)) (by decide +kernel) ?_
      exact cf_R_ret (pc := 17) (v := some (.int (Int32.ofInt 0))) rp_253 rfl rfl rfl ⟨_, rfl, h⟩
    · replace h := h.2 (of_decide_eq_false hb)
      refine cf_R_w rp_253 (rf_bk am_t253 6 2) 12 [(0, .int x0)] [] s (by repeat (first | exact trivial | refine ⟨rfl, ?_⟩)) (by decide +kernel) ?_
      exact cf_R_ret (pc := 17) (v := some (.int (Int32.ofInt 1))) rp_253 rfl rfl rfl ⟨_, rfl, h⟩
/-- LazyHouse$Reader.isSmall (I)Z, from 0 on -/
def wc_Reader_isSmall (d : Nat) (x0 : Int32) (s : cf_S) (Q : Int32 → cf_S → Prop) : Prop := ((x0 < ((Int8.ofInt 97).toInt32) → Q (Int32.ofInt 0) s) ∧ (¬ (x0 < ((Int8.ofInt 97).toInt32)) → ((((Int8.ofInt 122).toInt32) < x0 → Q (Int32.ofInt 0) s) ∧ (¬ (((Int8.ofInt 122).toInt32) < x0) → Q (Int32.ofInt 1) s))))
set_option maxRecDepth 20000 in
theorem wc_Reader_isSmall_ok {d : Nat} {x0 : Int32} {s : cf_S} {Q : Int32 → cf_S → Prop} (h : wc_Reader_isSmall d x0 s Q) : cf_I d 254 [(0, .int x0)] s Q := by
  unfold wc_Reader_isSmall at h
  unfold cf_I
  refine cf_R_w rp_254 (rf_bk am_t254 0 3) 0 [(0, .int x0)] [] s (by repeat (first | exact trivial | refine ⟨rfl, ?_⟩)) (by decide +kernel) ?_
  refine cf_R_if (b := am_cnd .lt x0 ((Int8.ofInt 97).toInt32)) (p := 16) (q := 6) (fun hb => ?_) (fun hb => ?_)
  · replace h := h.1 (of_decide_eq_true hb)
    refine cf_R_w rp_254 (rf_bk am_t254 8 1) 16 [(0, .int x0)] [] s (by repeat (first | exact trivial | refine ⟨rfl, ?_⟩)) (by decide +kernel) ?_
    exact cf_R_ret (pc := 17) (v := some (.int (Int32.ofInt 0))) rp_254 rfl rfl rfl ⟨_, rfl, h⟩
  · replace h := h.2 (of_decide_eq_false hb)
    refine cf_R_w rp_254 (rf_bk am_t254 3 3) 6 [(0, .int x0)] [] s (by repeat (first | exact trivial | refine ⟨rfl, ?_⟩)) (by decide +kernel) ?_
    refine cf_R_if (b := am_cnd .gt x0 ((Int8.ofInt 122).toInt32)) (p := 16) (q := 12) (fun hb => ?_) (fun hb => ?_)
    · replace h := h.1 (of_decide_eq_true hb)
      refine cf_R_w rp_254 (rf_bk am_t254 8 1) 16 [(0, .int x0)] [] s (by repeat (first | exact trivial | refine ⟨rfl, ?_⟩)) (by decide +kernel) ?_
      exact cf_R_ret (pc := 17) (v := some (.int (Int32.ofInt 0))) rp_254 rfl rfl rfl ⟨_, rfl, h⟩
    · replace h := h.2 (of_decide_eq_false hb)
      refine cf_R_w rp_254 (rf_bk am_t254 6 2) 12 [(0, .int x0)] [] s (by repeat (first | exact trivial | refine ⟨rfl, ?_⟩)) (by decide +kernel) ?_
      exact cf_R_ret (pc := 17) (v := some (.int (Int32.ofInt 1))) rp_254 rfl rfl rfl ⟨_, rfl, h⟩
/-- LazyHouse$Reader.isLetterOrDigit (I)Z, from 36 on -/
def wc_Reader_isLetterOrDigit_36 (d : Nat) (s : cf_S) (Q : Int32 → cf_S → Prop) : Prop := Q (Int32.ofInt 1) s
set_option maxRecDepth 20000 in
theorem wc_Reader_isLetterOrDigit_36_ok {d : Nat} {s : cf_S} {Q : Int32 → cf_S → Prop} (h : wc_Reader_isLetterOrDigit_36 d s Q) : cf_R d 255 (36, [], [], s) (cf_qI Q) := by
  unfold wc_Reader_isLetterOrDigit_36 at h
  refine cf_R_w rp_255 (rf_bk am_t255 18 2) 36 [] [] s (by repeat (first | exact trivial | refine ⟨rfl, ?_⟩)) (by decide +kernel) ?_
  exact cf_R_ret (pc := 41) (v := some (.int (Int32.ofInt 1))) rp_255 rfl rfl rfl ⟨_, rfl, h⟩
/-- LazyHouse$Reader.isLetterOrDigit (I)Z, from 24 on -/
def wc_Reader_isLetterOrDigit_24 (d : Nat) (x0 : Int32) (s : cf_S) (Q : Int32 → cf_S → Prop) : Prop := ((x0 < ((Int8.ofInt 48).toInt32) → Q (Int32.ofInt 0) s) ∧ (¬ (x0 < ((Int8.ofInt 48).toInt32)) → ((((Int8.ofInt 57).toInt32) < x0 → Q (Int32.ofInt 0) s) ∧ (¬ (((Int8.ofInt 57).toInt32) < x0) → wc_Reader_isLetterOrDigit_36 d s Q))))
set_option maxRecDepth 20000 in
theorem wc_Reader_isLetterOrDigit_24_ok {d : Nat} {x0 : Int32} {s : cf_S} {Q : Int32 → cf_S → Prop} (h : wc_Reader_isLetterOrDigit_24 d x0 s Q) : cf_R d 255 (24, [(0, .int x0)], [], s) (cf_qI Q) := by
  unfold wc_Reader_isLetterOrDigit_24 at h
  refine cf_R_w rp_255 (rf_bk am_t255 12 3) 24 [(0, .int x0)] [] s (by repeat (first | exact trivial | refine ⟨rfl, ?_⟩)) (by decide +kernel) ?_
  refine cf_R_if (b := am_cnd .lt x0 ((Int8.ofInt 48).toInt32)) (p := 40) (q := 30) (fun hb => ?_) (fun hb => ?_)
  · replace h := h.1 (of_decide_eq_true hb)
    refine cf_R_w rp_255 (rf_bk am_t255 20 1) 40 [(0, .int x0)] [] s (by repeat (first | exact trivial | refine ⟨rfl, ?_⟩)) (by decide +kernel) ?_
    exact cf_R_ret (pc := 41) (v := some (.int (Int32.ofInt 0))) rp_255 rfl rfl rfl ⟨_, rfl, h⟩
  · replace h := h.2 (of_decide_eq_false hb)
    refine cf_R_w rp_255 (rf_bk am_t255 15 3) 30 [(0, .int x0)] [] s (by repeat (first | exact trivial | refine ⟨rfl, ?_⟩)) (by decide +kernel) ?_
    refine cf_R_if (b := am_cnd .gt x0 ((Int8.ofInt 57).toInt32)) (p := 40) (q := 36) (fun hb => ?_) (fun hb => ?_)
    · replace h := h.1 (of_decide_eq_true hb)
      refine cf_R_w rp_255 (rf_bk am_t255 20 1) 40 [(0, .int x0)] [] s (by repeat (first | exact trivial | refine ⟨rfl, ?_⟩)) (by decide +kernel) ?_
      exact cf_R_ret (pc := 41) (v := some (.int (Int32.ofInt 0))) rp_255 rfl rfl rfl ⟨_, rfl, h⟩
    · replace h := h.2 (of_decide_eq_false hb)
      exact cf_R_le (l := []) rfl rfl trivial (wc_Reader_isLetterOrDigit_36_ok h)
/-- LazyHouse$Reader.isLetterOrDigit (I)Z, from 12 on -/
def wc_Reader_isLetterOrDigit_12 (d : Nat) (x0 : Int32) (s : cf_S) (Q : Int32 → cf_S → Prop) : Prop := ((x0 < ((Int8.ofInt 65).toInt32) → wc_Reader_isLetterOrDigit_24 d x0 s Q) ∧ (¬ (x0 < ((Int8.ofInt 65).toInt32)) → ((x0 ≤ ((Int8.ofInt 90).toInt32) → wc_Reader_isLetterOrDigit_36 d s Q) ∧ (¬ (x0 ≤ ((Int8.ofInt 90).toInt32)) → wc_Reader_isLetterOrDigit_24 d x0 s Q))))
set_option maxRecDepth 20000 in
theorem wc_Reader_isLetterOrDigit_12_ok {d : Nat} {x0 : Int32} {s : cf_S} {Q : Int32 → cf_S → Prop} (h : wc_Reader_isLetterOrDigit_12 d x0 s Q) : cf_R d 255 (12, [(0, .int x0)], [], s) (cf_qI Q) := by
  unfold wc_Reader_isLetterOrDigit_12 at h
  refine cf_R_w rp_255 (rf_bk am_t255 6 3) 12 [(0, .int x0)] [] s (by repeat (first | exact trivial | refine ⟨rfl, ?_⟩)) (by decide +kernel) ?_
  refine cf_R_if (b := am_cnd .lt x0 ((Int8.ofInt 65).toInt32)) (p := 24) (q := 18) (fun hb => ?_) (fun hb => ?_)
  · replace h := h.1 (of_decide_eq_true hb)
    exact cf_R_le (l := [(0, .int x0)]) rfl rfl (⟨rfl, trivial⟩) (wc_Reader_isLetterOrDigit_24_ok h)
  · replace h := h.2 (of_decide_eq_false hb)
    refine cf_R_w rp_255 (rf_bk am_t255 9 3) 18 [(0, .int x0)] [] s (by repeat (first | exact trivial | refine ⟨rfl, ?_⟩)) (by decide +kernel) ?_
    refine cf_R_if (b := am_cnd .le x0 ((Int8.ofInt 90).toInt32)) (p := 36) (q := 24) (fun hb => ?_) (fun hb => ?_)
    · replace h := h.1 (of_decide_eq_true hb)
      exact cf_R_le (l := []) rfl rfl trivial (wc_Reader_isLetterOrDigit_36_ok h)
    · replace h := h.2 (of_decide_eq_false hb)
      exact cf_R_le (l := [(0, .int x0)]) rfl rfl (⟨rfl, trivial⟩) (wc_Reader_isLetterOrDigit_24_ok h)
/-- LazyHouse$Reader.isLetterOrDigit (I)Z, from 0 on -/
def wc_Reader_isLetterOrDigit (d : Nat) (x0 : Int32) (s : cf_S) (Q : Int32 → cf_S → Prop) : Prop := ((x0 < ((Int8.ofInt 97).toInt32) → wc_Reader_isLetterOrDigit_12 d x0 s Q) ∧ (¬ (x0 < ((Int8.ofInt 97).toInt32)) → ((x0 ≤ ((Int8.ofInt 122).toInt32) → wc_Reader_isLetterOrDigit_36 d s Q) ∧ (¬ (x0 ≤ ((Int8.ofInt 122).toInt32)) → wc_Reader_isLetterOrDigit_12 d x0 s Q))))
set_option maxRecDepth 20000 in
theorem wc_Reader_isLetterOrDigit_ok {d : Nat} {x0 : Int32} {s : cf_S} {Q : Int32 → cf_S → Prop} (h : wc_Reader_isLetterOrDigit d x0 s Q) : cf_I d 255 [(0, .int x0)] s Q := by
  unfold wc_Reader_isLetterOrDigit at h
  unfold cf_I
  refine cf_R_w rp_255 (rf_bk am_t255 0 3) 0 [(0, .int x0)] [] s (by repeat (first | exact trivial | refine ⟨rfl, ?_⟩)) (by decide +kernel) ?_
  refine cf_R_if (b := am_cnd .lt x0 ((Int8.ofInt 97).toInt32)) (p := 12) (q := 6) (fun hb => ?_) (fun hb => ?_)
  · replace h := h.1 (of_decide_eq_true hb)
    exact cf_R_le (l := [(0, .int x0)]) rfl rfl (⟨rfl, trivial⟩) (wc_Reader_isLetterOrDigit_12_ok h)
  · replace h := h.2 (of_decide_eq_false hb)
    refine cf_R_w rp_255 (rf_bk am_t255 3 3) 6 [(0, .int x0)] [] s (by repeat (first | exact trivial | refine ⟨rfl, ?_⟩)) (by decide +kernel) ?_
    refine cf_R_if (b := am_cnd .le x0 ((Int8.ofInt 122).toInt32)) (p := 36) (q := 12) (fun hb => ?_) (fun hb => ?_)
    · replace h := h.1 (of_decide_eq_true hb)
      exact cf_R_le (l := []) rfl rfl trivial (wc_Reader_isLetterOrDigit_36_ok h)
    · replace h := h.2 (of_decide_eq_false hb)
      exact cf_R_le (l := [(0, .int x0)]) rfl rfl (⟨rfl, trivial⟩) (wc_Reader_isLetterOrDigit_12_ok h)
/-- LazyHouse$Stack.clear ()V, from 0 on -/
def wc_Stack_clear (d : Nat) (s : cf_S) (Q : cf_S → Prop) : Prop := Q (cf_si (cf_si (cf_si s 31 1 (Int32.ofInt 0)) 31 2 (Int32.ofInt 0)) 31 3 (Int32.ofInt 0))
set_option maxRecDepth 20000 in
theorem wc_Stack_clear_ok {d : Nat} {s : cf_S} {Q : cf_S → Prop} (h : wc_Stack_clear d s Q) : cf_V d 257 [(0, .ref 31)] s Q := by
  unfold wc_Stack_clear at h
  unfold cf_V
  refine cf_R_w rp_257 (rf_bk am_t257 0 3) 0 [(0, .ref 31)] [] s (by repeat (first | exact trivial | refine ⟨rfl, ?_⟩)) (by decide +kernel) ?_
  refine And.intro rfl ?_
  refine cf_R_w rp_257 (rf_bk am_t257 3 3) 5 [(0, .ref 31)] [] (cf_si s 31 1 (Int32.ofInt 0)) (by repeat (first | exact trivial | refine ⟨rfl, ?_⟩)) (by decide +kernel) ?_
  refine And.intro rfl ?_
  refine cf_R_w rp_257 (rf_bk am_t257 6 3) 10 [(0, .ref 31)] [] (cf_si (cf_si s 31 1 (Int32.ofInt 0)) 31 2 (Int32.ofInt 0)) (by repeat (first | exact trivial | refine ⟨rfl, ?_⟩)) (by decide +kernel) ?_
  refine And.intro rfl ?_
  exact cf_R_ret (pc := 15) rp_257 rfl rfl rfl ⟨rfl, h⟩
/-- LazyHouse$Stack.used ()I, from 0 on -/
def wc_Stack_used (d : Nat) (s : cf_S) (Q : Int32 → cf_S → Prop) : Prop := Q (s.1 31 1) s
set_option maxRecDepth 20000 in
theorem wc_Stack_used_ok {d : Nat} {s : cf_S} {Q : Int32 → cf_S → Prop} (h : wc_Stack_used d s Q) : cf_I d 258 [(0, .ref 31)] s Q := by
  unfold wc_Stack_used at h
  unfold cf_I
  refine cf_R_w rp_258 (rf_bk am_t258 0 2) 0 [(0, .ref 31)] [] s (by repeat (first | exact trivial | refine ⟨rfl, ?_⟩)) (by decide +kernel) ?_
  exact cf_R_ret (pc := 4) (v := some (.int (s.1 31 1))) rp_258 rfl rfl rfl ⟨_, rfl, h⟩
/-- LazyHouse$Stack.frames ()I, from 0 on -/
def wc_Stack_frames (d : Nat) (s : cf_S) (Q : Int32 → cf_S → Prop) : Prop := Q (s.1 31 2) s
set_option maxRecDepth 20000 in
theorem wc_Stack_frames_ok {d : Nat} {s : cf_S} {Q : Int32 → cf_S → Prop} (h : wc_Stack_frames d s Q) : cf_I d 259 [(0, .ref 31)] s Q := by
  unfold wc_Stack_frames at h
  unfold cf_I
  refine cf_R_w rp_259 (rf_bk am_t259 0 2) 0 [(0, .ref 31)] [] s (by repeat (first | exact trivial | refine ⟨rfl, ?_⟩)) (by decide +kernel) ?_
  exact cf_R_ret (pc := 4) (v := some (.int (s.1 31 2))) rp_259 rfl rfl rfl ⟨_, rfl, h⟩
/-- LazyHouse$Stack.push (III)V, from 0 on -/
def wc_Stack_push (d : Nat) (x1 : Int32) (x2 : Int32) (x3 : Int32) (s : cf_S) (Q : cf_S → Prop) : Prop := (cf_N (cf_si (cf_si (cf_si s 31 3 (s.1 31 1)) 31 1 ((s.1 31 1) + (x3 + (Int32.ofInt 2)))) 31 2 ((s.1 31 2) + (Int32.ofInt 1))) + 1 < 1000000000 ∧ Q (wd_s (wd_s (wd_f (cf_si (cf_si (cf_si s 31 3 (s.1 31 1)) 31 1 ((s.1 31 1) + (x3 + (Int32.ofInt 2)))) 31 2 ((s.1 31 2) + (Int32.ofInt 1))) 32 ((s.1 31 1) + (x3 + (Int32.ofInt 2)))) 32 (((s.1 31 1) + (x3 + (Int32.ofInt 2))) - (Int32.ofInt 2)) (rf_word (Int32.ofInt 0) x2)) 32 (((s.1 31 1) + (x3 + (Int32.ofInt 2))) - (Int32.ofInt 1)) (rf_word (Int32.ofInt 0) ((x3 <<< (((Int8.ofInt 8).toInt32) &&& 31)) ||| x1))))
set_option maxRecDepth 20000 in
theorem wc_Stack_push_ok {d : Nat} {x1 : Int32} {x2 : Int32} {x3 : Int32} {s : cf_S} {Q : cf_S → Prop} (h : wc_Stack_push d x1 x2 x3 s Q) : cf_V (d + 10) 260 [(0, .ref 31), (1, .int x1), (2, .int x2), (3, .int x3)] s Q := by
  unfold wc_Stack_push at h
  unfold cf_V
  refine cf_R_w rp_260 (rf_bk am_t260 0 4) 0 [(0, .ref 31), (1, .int x1), (2, .int x2), (3, .int x3)] [] s (by repeat (first | exact trivial | refine ⟨rfl, ?_⟩)) (by decide +kernel) ?_
  refine And.intro rfl ?_
  refine cf_R_w rp_260 (rf_bk am_t260 4 8) 8 [(0, .ref 31), (1, .int x1), (2, .int x2), (3, .int x3)] [] (cf_si s 31 3 (s.1 31 1)) (by repeat (first | exact trivial | refine ⟨rfl, ?_⟩)) (by decide +kernel) ?_
  refine And.intro rfl ?_
  refine cf_R_w rp_260 (rf_bk am_t260 12 6) 20 [(0, .ref 31), (1, .int x1), (2, .int x2), (3, .int x3)] [] (cf_si (cf_si s 31 3 (s.1 31 1)) 31 1 ((s.1 31 1) + (x3 + (Int32.ofInt 2)))) (by repeat (first | exact trivial | refine ⟨rfl, ?_⟩)) (by decide +kernel) ?_
  refine And.intro rfl ?_
  refine cf_R_w rp_260 (rf_bk am_t260 18 4) 30 [(0, .ref 31), (1, .int x1), (2, .int x2), (3, .int x3)] [] (cf_si (cf_si (cf_si s 31 3 (s.1 31 1)) 31 1 ((s.1 31 1) + (x3 + (Int32.ofInt 2)))) 31 2 ((s.1 31 2) + (Int32.ofInt 1))) (by repeat (first | exact trivial | refine ⟨rfl, ?_⟩)) (by decide +kernel) ?_
  have hr := h.1
  replace h := h.2
  refine cf_R_prim (pc := 38) (q := ([.ref 32, .int ((s.1 31 1) + (x3 + (Int32.ofInt 2)))], [])) rp_260 rfl rfl (by decide) (by decide) rp_279 rfl (Nat.le_of_ble_eq_true rfl) ⟨rfl, Nat.le_of_ble_eq_true rfl⟩ (cq_fit rfl hr) ?_
  refine cf_R_w rp_260 (rf_bk am_t260 23 8) 41 [(0, .ref 31), (1, .int x1), (2, .int x2), (3, .int x3)] [] (wd_f (cf_si (cf_si (cf_si s 31 3 (s.1 31 1)) 31 1 ((s.1 31 1) + (x3 + (Int32.ofInt 2)))) 31 2 ((s.1 31 2) + (Int32.ofInt 1))) 32 ((s.1 31 1) + (x3 + (Int32.ofInt 2)))) (by repeat (first | exact trivial | refine ⟨rfl, ?_⟩)) (by decide +kernel) ?_
  refine cf_R_prim (pc := 53) (q := ([.int (Int32.ofInt 0), .int x2], [.int (((s.1 31 1) + (x3 + (Int32.ofInt 2))) - (Int32.ofInt 2)), .ref 32])) rp_260 rfl rfl (by decide) (by decide) rp_275 rfl (Nat.le_of_ble_eq_true rfl) ⟨rfl, Nat.le_of_ble_eq_true rfl⟩ (cq_of) ?_
  refine cf_R_prim (pc := 56) (q := ([.ref 32, .int (((s.1 31 1) + (x3 + (Int32.ofInt 2))) - (Int32.ofInt 2)), .long (rf_word (Int32.ofInt 0) x2)], [])) rp_260 rfl rfl (by decide) (by decide) rp_281 rfl (Nat.le_of_ble_eq_true rfl) ⟨rfl, Nat.le_of_ble_eq_true rfl⟩ (cq_wset rfl) ?_
  refine cf_R_w rp_260 (rf_bk am_t260 33 12) 59 [(0, .ref 31), (1, .int x1), (2, .int x2), (3, .int x3)] [] (wd_s (wd_f (cf_si (cf_si (cf_si s 31 3 (s.1 31 1)) 31 1 ((s.1 31 1) + (x3 + (Int32.ofInt 2)))) 31 2 ((s.1 31 2) + (Int32.ofInt 1))) 32 ((s.1 31 1) + (x3 + (Int32.ofInt 2)))) 32 (((s.1 31 1) + (x3 + (Int32.ofInt 2))) - (Int32.ofInt 2)) (rf_word (Int32.ofInt 0) x2)) (by repeat (first | exact trivial | refine ⟨rfl, ?_⟩)) (by decide +kernel) ?_
  refine cf_R_prim (pc := 76) (q := ([.int (Int32.ofInt 0), .int ((x3 <<< (((Int8.ofInt 8).toInt32) &&& 31)) ||| x1)], [.int (((s.1 31 1) + (x3 + (Int32.ofInt 2))) - (Int32.ofInt 1)), .ref 32])) rp_260 rfl rfl (by decide) (by decide) rp_275 rfl (Nat.le_of_ble_eq_true rfl) ⟨rfl, Nat.le_of_ble_eq_true rfl⟩ (cq_of) ?_
  refine cf_R_prim (pc := 79) (q := ([.ref 32, .int (((s.1 31 1) + (x3 + (Int32.ofInt 2))) - (Int32.ofInt 1)), .long (rf_word (Int32.ofInt 0) ((x3 <<< (((Int8.ofInt 8).toInt32) &&& 31)) ||| x1))], [])) rp_260 rfl rfl (by decide) (by decide) rp_281 rfl (Nat.le_of_ble_eq_true rfl) ⟨rfl, Nat.le_of_ble_eq_true rfl⟩ (cq_wset rfl) ?_
  exact cf_R_ret (pc := 82) rp_260 rfl rfl rfl ⟨rfl, h⟩
/-- LazyHouse$Stack.kind ()I, from 0 on -/
def wc_Stack_kind (d : Nat) (s : cf_S) (Q : Int32 → cf_S → Prop) : Prop := (((Int32.ofInt 2) ≤ (s.1 31 1) → Q (((wd_g s 32 ((s.1 31 1) - (Int32.ofInt 1))).toInt32) &&& ((Int16.ofInt 255).toInt32)) s) ∧ (¬ ((Int32.ofInt 2) ≤ (s.1 31 1)) → Q (Int32.ofInt 0) s))
set_option maxRecDepth 20000 in
theorem wc_Stack_kind_ok {d : Nat} {s : cf_S} {Q : Int32 → cf_S → Prop} (h : wc_Stack_kind d s Q) : cf_I (d + 10) 261 [(0, .ref 31)] s Q := by
  unfold wc_Stack_kind at h
  unfold cf_I
  refine cf_R_w rp_261 (rf_bk am_t261 0 4) 0 [(0, .ref 31)] [] s (by repeat (first | exact trivial | refine ⟨rfl, ?_⟩)) (by decide +kernel) ?_
  refine cf_R_if (b := am_cnd .ge (s.1 31 1) (Int32.ofInt 2)) (p := 12) (q := 8) (fun hb => ?_) (fun hb => ?_)
  · replace h := h.1 (of_decide_eq_true hb)
    refine cf_R_w rp_261 (rf_bk am_t261 6 6) 12 [(0, .ref 31)] [] s (by repeat (first | exact trivial | refine ⟨rfl, ?_⟩)) (by decide +kernel) ?_
    refine cf_R_prim (pc := 22) (q := ([.ref 32, .int ((s.1 31 1) - (Int32.ofInt 1))], [])) rp_261 rfl rfl (by decide) (by decide) rp_280 rfl (Nat.le_of_ble_eq_true rfl) ⟨rfl, Nat.le_of_ble_eq_true rfl⟩ (cq_wget rfl) ?_
    refine cf_R_prim (pc := 25) (q := ([.long (wd_g s 32 ((s.1 31 1) - (Int32.ofInt 1)))], [])) rp_261 rfl rfl (by decide) (by decide) rp_277 rfl (Nat.le_of_ble_eq_true rfl) ⟨rfl, Nat.le_of_ble_eq_true rfl⟩ (cq_value) ?_
    refine cf_R_w rp_261 (rf_bk am_t261 14 2) 28 [(0, .ref 31)] [.int ((wd_g s 32 ((s.1 31 1) - (Int32.ofInt 1))).toInt32)] s (by repeat (first | exact trivial | refine ⟨rfl, ?_⟩)) (by decide +kernel) ?_
    exact cf_R_ret (pc := 32) (v := some (.int (((wd_g s 32 ((s.1 31 1) - (Int32.ofInt 1))).toInt32) &&& ((Int16.ofInt 255).toInt32)))) rp_261 rfl rfl rfl ⟨_, rfl, h⟩
  · replace h := h.2 (of_decide_eq_false hb)
    refine cf_R_w rp_261 (rf_bk am_t261 4 2) 8 [(0, .ref 31)] [] s (by repeat (first | exact trivial | refine ⟨rfl, ?_⟩)) (by decide +kernel) ?_
    exact cf_R_ret (pc := 32) (v := some (.int (Int32.ofInt 0))) rp_261 rfl rfl rfl ⟨_, rfl, h⟩
/-- LazyHouse$Stack.about ()I, from 0 on -/
def wc_Stack_about (d : Nat) (s : cf_S) (Q : Int32 → cf_S → Prop) : Prop := (((Int32.ofInt 2) ≤ (s.1 31 1) → Q ((wd_g s 32 ((s.1 31 1) - (Int32.ofInt 2))).toInt32) s) ∧ (¬ ((Int32.ofInt 2) ≤ (s.1 31 1)) → Q (Int32.ofInt 0) s))
set_option maxRecDepth 20000 in
theorem wc_Stack_about_ok {d : Nat} {s : cf_S} {Q : Int32 → cf_S → Prop} (h : wc_Stack_about d s Q) : cf_I (d + 10) 262 [(0, .ref 31)] s Q := by
  unfold wc_Stack_about at h
  unfold cf_I
  refine cf_R_w rp_262 (rf_bk am_t262 0 4) 0 [(0, .ref 31)] [] s (by repeat (first | exact trivial | refine ⟨rfl, ?_⟩)) (by decide +kernel) ?_
  refine cf_R_if (b := am_cnd .ge (s.1 31 1) (Int32.ofInt 2)) (p := 12) (q := 8) (fun hb => ?_) (fun hb => ?_)
  · replace h := h.1 (of_decide_eq_true hb)
    refine cf_R_w rp_262 (rf_bk am_t262 6 6) 12 [(0, .ref 31)] [] s (by repeat (first | exact trivial | refine ⟨rfl, ?_⟩)) (by decide +kernel) ?_
    refine cf_R_prim (pc := 22) (q := ([.ref 32, .int ((s.1 31 1) - (Int32.ofInt 2))], [])) rp_262 rfl rfl (by decide) (by decide) rp_280 rfl (Nat.le_of_ble_eq_true rfl) ⟨rfl, Nat.le_of_ble_eq_true rfl⟩ (cq_wget rfl) ?_
    refine cf_R_prim (pc := 25) (q := ([.long (wd_g s 32 ((s.1 31 1) - (Int32.ofInt 2)))], [])) rp_262 rfl rfl (by decide) (by decide) rp_277 rfl (Nat.le_of_ble_eq_true rfl) ⟨rfl, Nat.le_of_ble_eq_true rfl⟩ (cq_value) ?_
    exact cf_R_ret (pc := 28) (v := some (.int ((wd_g s 32 ((s.1 31 1) - (Int32.ofInt 2))).toInt32))) rp_262 rfl rfl rfl ⟨_, rfl, h⟩
  · replace h := h.2 (of_decide_eq_false hb)
    refine cf_R_w rp_262 (rf_bk am_t262 4 2) 8 [(0, .ref 31)] [] s (by repeat (first | exact trivial | refine ⟨rfl, ?_⟩)) (by decide +kernel) ?_
    exact cf_R_ret (pc := 28) (v := some (.int (Int32.ofInt 0))) rp_262 rfl rfl rfl ⟨_, rfl, h⟩
/-- LazyHouse$Stack.slots ()I, from 0 on -/
def wc_Stack_slots (d : Nat) (s : cf_S) (Q : Int32 → cf_S → Prop) : Prop := (((Int32.ofInt 2) ≤ (s.1 31 1) → Q (((s.1 31 1) - (Int32.ofInt 2)) - (s.1 31 3)) s) ∧ (¬ ((Int32.ofInt 2) ≤ (s.1 31 1)) → Q (Int32.ofInt 0) s))
set_option maxRecDepth 20000 in
theorem wc_Stack_slots_ok {d : Nat} {s : cf_S} {Q : Int32 → cf_S → Prop} (h : wc_Stack_slots d s Q) : cf_I d 263 [(0, .ref 31)] s Q := by
  unfold wc_Stack_slots at h
  unfold cf_I
  refine cf_R_w rp_263 (rf_bk am_t263 0 4) 0 [(0, .ref 31)] [] s (by repeat (first | exact trivial | refine ⟨rfl, ?_⟩)) (by decide +kernel) ?_
  refine cf_R_if (b := am_cnd .ge (s.1 31 1) (Int32.ofInt 2)) (p := 12) (q := 8) (fun hb => ?_) (fun hb => ?_)
  · replace h := h.1 (of_decide_eq_true hb)
    refine cf_R_w rp_263 (rf_bk am_t263 6 7) 12 [(0, .ref 31)] [] s (by repeat (first | exact trivial | refine ⟨rfl, ?_⟩)) (by decide +kernel) ?_
    exact cf_R_ret (pc := 23) (v := some (.int (((s.1 31 1) - (Int32.ofInt 2)) - (s.1 31 3)))) rp_263 rfl rfl rfl ⟨_, rfl, h⟩
  · replace h := h.2 (of_decide_eq_false hb)
    refine cf_R_w rp_263 (rf_bk am_t263 4 2) 8 [(0, .ref 31)] [] s (by repeat (first | exact trivial | refine ⟨rfl, ?_⟩)) (by decide +kernel) ?_
    exact cf_R_ret (pc := 23) (v := some (.int (Int32.ofInt 0))) rp_263 rfl rfl rfl ⟨_, rfl, h⟩
/-- LazyHouse$Stack.slot (I)J, from 0 on -/
def wc_Stack_slot (d : Nat) (x1 : Int32) (s : cf_S) (Q : Int64 → cf_S → Prop) : Prop := Q (wd_g s 32 ((s.1 31 3) + x1)) s
set_option maxRecDepth 20000 in
theorem wc_Stack_slot_ok {d : Nat} {x1 : Int32} {s : cf_S} {Q : Int64 → cf_S → Prop} (h : wc_Stack_slot d x1 s Q) : cf_J (d + 10) 264 [(0, .ref 31), (1, .int x1)] s Q := by
  unfold wc_Stack_slot at h
  unfold cf_J
  refine cf_R_w rp_264 (rf_bk am_t264 0 6) 0 [(0, .ref 31), (1, .int x1)] [] s (by repeat (first | exact trivial | refine ⟨rfl, ?_⟩)) (by decide +kernel) ?_
  refine cf_R_prim (pc := 10) (q := ([.ref 32, .int ((s.1 31 3) + x1)], [])) rp_264 rfl rfl (by decide) (by decide) rp_280 rfl (Nat.le_of_ble_eq_true rfl) ⟨rfl, Nat.le_of_ble_eq_true rfl⟩ (cq_wget rfl) ?_
  exact cf_R_ret (pc := 13) (v := some (.long (wd_g s 32 ((s.1 31 3) + x1)))) rp_264 rfl rfl rfl ⟨_, rfl, h⟩
/-- LazyHouse$Stack.setSlot (IJ)V, from 0 on -/
def wc_Stack_setSlot (d : Nat) (x1 : Int32) (x2 : Int64) (s : cf_S) (Q : cf_S → Prop) : Prop := Q (wd_s s 32 ((s.1 31 3) + x1) x2)
set_option maxRecDepth 20000 in
theorem wc_Stack_setSlot_ok {d : Nat} {x1 : Int32} {x2 : Int64} {s : cf_S} {Q : cf_S → Prop} (h : wc_Stack_setSlot d x1 x2 s Q) : cf_V (d + 10) 265 [(0, .ref 31), (1, .int x1), (2, .long x2)] s Q := by
  unfold wc_Stack_setSlot at h
  unfold cf_V
  refine cf_R_w rp_265 (rf_bk am_t265 0 7) 0 [(0, .ref 31), (1, .int x1), (2, .long x2)] [] s (by repeat (first | exact trivial | refine ⟨rfl, ?_⟩)) (by decide +kernel) ?_
  refine cf_R_prim (pc := 11) (q := ([.ref 32, .int ((s.1 31 3) + x1), .long x2], [])) rp_265 rfl rfl (by decide) (by decide) rp_281 rfl (Nat.le_of_ble_eq_true rfl) ⟨rfl, Nat.le_of_ble_eq_true rfl⟩ (cq_wset rfl) ?_
  exact cf_R_ret (pc := 14) rp_265 rfl rfl rfl ⟨rfl, h⟩
/-- LazyHouse$Stack.pop ()V, from 0 on -/
def wc_Stack_pop (d : Nat) (s : cf_S) (Q : cf_S → Prop) : Prop := (((Int32.ofInt 2) ≤ (s.1 31 1) → (((Int32.ofInt 2) ≤ (s.1 31 3) → Q (cf_si (cf_si (cf_si s 31 1 (s.1 31 3)) 31 2 ((s.1 31 2) - (Int32.ofInt 1))) 31 3 (((s.1 31 3) - (Int32.ofInt 2)) - (((wd_g (cf_si (cf_si s 31 1 (s.1 31 3)) 31 2 ((s.1 31 2) - (Int32.ofInt 1))) 32 ((s.1 31 3) - (Int32.ofInt 1))).toInt32) >>> (((Int8.ofInt 8).toInt32) &&& 31))))) ∧ (¬ ((Int32.ofInt 2) ≤ (s.1 31 3)) → Q (cf_si (cf_si (cf_si s 31 1 (s.1 31 3)) 31 2 ((s.1 31 2) - (Int32.ofInt 1))) 31 3 (Int32.ofInt 0))))) ∧ (¬ ((Int32.ofInt 2) ≤ (s.1 31 1)) → Q s))
set_option maxRecDepth 20000 in
theorem wc_Stack_pop_ok {d : Nat} {s : cf_S} {Q : cf_S → Prop} (h : wc_Stack_pop d s Q) : cf_V (d + 10) 266 [(0, .ref 31)] s Q := by
  unfold wc_Stack_pop at h
  unfold cf_V
  refine cf_R_w rp_266 (rf_bk am_t266 0 4) 0 [(0, .ref 31)] [] s (by repeat (first | exact trivial | refine ⟨rfl, ?_⟩)) (by decide +kernel) ?_
  refine cf_R_if (b := am_cnd .ge (s.1 31 1) (Int32.ofInt 2)) (p := 9) (q := 8) (fun hb => ?_) (fun hb => ?_)
  · replace h := h.1 (of_decide_eq_true hb)
    refine cf_R_w rp_266 (rf_bk am_t266 5 4) 9 [(0, .ref 31)] [] s (by repeat (first | exact trivial | refine ⟨rfl, ?_⟩)) (by decide +kernel) ?_
    refine And.intro rfl ?_
    refine cf_R_w rp_266 (rf_bk am_t266 9 6) 17 [(0, .ref 31)] [] (cf_si s 31 1 (s.1 31 3)) (by repeat (first | exact trivial | refine ⟨rfl, ?_⟩)) (by decide +kernel) ?_
    refine And.intro rfl ?_
    refine cf_R_w rp_266 (rf_bk am_t266 15 5) 27 [(0, .ref 31)] [] (cf_si (cf_si s 31 1 (s.1 31 3)) 31 2 ((s.1 31 2) - (Int32.ofInt 1))) (by repeat (first | exact trivial | refine ⟨rfl, ?_⟩)) (by decide +kernel) ?_
    refine cf_R_if (b := am_cnd .ge (s.1 31 3) (Int32.ofInt 2)) (p := 40) (q := 36) (fun hb => ?_) (fun hb => ?_)
    · replace h := h.1 (of_decide_eq_true hb)
      refine cf_R_w rp_266 (rf_bk am_t266 22 10) 40 [(0, .ref 31)] [.ref 31] (cf_si (cf_si s 31 1 (s.1 31 3)) 31 2 ((s.1 31 2) - (Int32.ofInt 1))) (by repeat (first | exact trivial | refine ⟨rfl, ?_⟩)) (by decide +kernel) ?_
      refine cf_R_prim (pc := 56) (q := ([.ref 32, .int ((s.1 31 3) - (Int32.ofInt 1))], [.int ((s.1 31 3) - (Int32.ofInt 2)), .ref 31])) rp_266 rfl rfl (by decide) (by decide) rp_280 rfl (Nat.le_of_ble_eq_true rfl) ⟨rfl, Nat.le_of_ble_eq_true rfl⟩ (cq_wget rfl) ?_
      refine cf_R_prim (pc := 59) (q := ([.long (wd_g (cf_si (cf_si s 31 1 (s.1 31 3)) 31 2 ((s.1 31 2) - (Int32.ofInt 1))) 32 ((s.1 31 3) - (Int32.ofInt 1)))], [.int ((s.1 31 3) - (Int32.ofInt 2)), .ref 31])) rp_266 rfl rfl (by decide) (by decide) rp_277 rfl (Nat.le_of_ble_eq_true rfl) ⟨rfl, Nat.le_of_ble_eq_true rfl⟩ (cq_value) ?_
      refine cf_R_w rp_266 (rf_bk am_t266 34 4) 62 [(0, .ref 31)] [.int ((wd_g (cf_si (cf_si s 31 1 (s.1 31 3)) 31 2 ((s.1 31 2) - (Int32.ofInt 1))) 32 ((s.1 31 3) - (Int32.ofInt 1))).toInt32), .int ((s.1 31 3) - (Int32.ofInt 2)), .ref 31] (cf_si (cf_si s 31 1 (s.1 31 3)) 31 2 ((s.1 31 2) - (Int32.ofInt 1))) (by repeat (first | exact trivial | refine ⟨rfl, ?_⟩)) (by decide +kernel) ?_
      refine And.intro rfl ?_
      exact cf_R_ret (pc := 69) rp_266 rfl rfl rfl ⟨rfl, h⟩
    · replace h := h.2 (of_decide_eq_false hb)
      refine cf_R_w rp_266 (rf_bk am_t266 20 2) 36 [(0, .ref 31)] [.ref 31] (cf_si (cf_si s 31 1 (s.1 31 3)) 31 2 ((s.1 31 2) - (Int32.ofInt 1))) (by repeat (first | exact trivial | refine ⟨rfl, ?_⟩)) (by decide +kernel) ?_
      refine cf_R_w rp_266 (rf_bk am_t266 37 1) 66 [(0, .ref 31)] [.int (Int32.ofInt 0), .ref 31] (cf_si (cf_si s 31 1 (s.1 31 3)) 31 2 ((s.1 31 2) - (Int32.ofInt 1))) (by repeat (first | exact trivial | refine ⟨rfl, ?_⟩)) (by decide +kernel) ?_
      refine And.intro rfl ?_
      exact cf_R_ret (pc := 69) rp_266 rfl rfl rfl ⟨rfl, h⟩
  · replace h := h.2 (of_decide_eq_false hb)
    exact cf_R_ret (pc := 8) rp_266 rfl rfl rfl ⟨rfl, h⟩
