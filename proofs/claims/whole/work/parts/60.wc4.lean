/-! PART 60: the class, decompiled: Machine.fill, Machine.release, Machine.releaseFrame, Machine.enter, Machine.enterDefinition, Machine.pushUpdate, Machine.give, Machine.giveToUpdate, Machine.giveToChoice, Machine.findAlternative, Machine.isFor, Machine.giveToLeft, Machine.giveToRight, Machine.truth, Machine.reckon -/
/-- LazyHouse$Machine.fill (II)V, from 88 on -/
def wc_Machine_fill_88 (d : Nat) (x1 : Int32) (x2 : Int32) (x3 : Int32) (x4 : Int32) (s : cf_S) (Q : cf_S → Prop) : Prop := (((tb_get s 18 x2 ((Int8.ofInt 12).toInt32)) ≤ x4 → Q s) ∧ (¬ ((tb_get s 18 x2 ((Int8.ofInt 12).toInt32)) ≤ x4) → cf_V (d + 9) 138 [(0, .ref 26), (1, .int x1), (2, .int x4), (3, .long (wd_g s 36 (tb_get s 20 (x3 + x4) (Int32.ofInt 0))))] s (fun s1 => cf_R (d + 10) 179 (88, [(0, .ref 25), (1, .int x1), (2, .int x2), (3, .int x3), (4, .int (x4 + Int32.ofInt 1))], [], s1) (cf_qV Q))))
set_option maxRecDepth 20000 in
theorem wc_Machine_fill_88_ok {d : Nat} {x1 : Int32} {x2 : Int32} {x3 : Int32} {x4 : Int32} {s : cf_S} {Q : cf_S → Prop} (h : wc_Machine_fill_88 d x1 x2 x3 x4 s Q) : cf_R (d + 10) 179 (88, [(0, .ref 25), (1, .int x1), (2, .int x2), (3, .int x3), (4, .int x4)], [], s) (cf_qV Q) := by
  unfold wc_Machine_fill_88 at h
  refine cf_R_w rp_179 (rf_bk am_t179 47 5) 88 [(0, .ref 25), (1, .int x1), (2, .int x2), (3, .int x3), (4, .int x4)] [] s (by repeat (first | exact trivial | refine ⟨rfl, ?_⟩)) (by decide +kernel) ?_
  refine cf_R_prim (pc := 97) (q := ([.ref 18, .int x2, .int ((Int8.ofInt 12).toInt32)], [.int x4])) rp_179 rfl rfl (by decide) (by decide) rp_273 rfl (Nat.le_of_ble_eq_true rfl) ⟨rfl, Nat.le_of_ble_eq_true rfl⟩ (cq_get rfl) ?_
  refine cf_R_w rp_179 (rf_bk am_t179 53 1) 100 [(0, .ref 25), (1, .int x1), (2, .int x2), (3, .int x3), (4, .int x4)] [.int (tb_get s 18 x2 ((Int8.ofInt 12).toInt32)), .int x4] s (by repeat (first | exact trivial | refine ⟨rfl, ?_⟩)) (by decide +kernel) ?_
  refine cf_R_if (b := am_cnd .ge x4 (tb_get s 18 x2 ((Int8.ofInt 12).toInt32))) (p := 138) (q := 103) (fun hb => ?_) (fun hb => ?_)
  · replace h := h.1 (of_decide_eq_true hb)
    exact cf_R_ret (pc := 138) rp_179 rfl rfl rfl ⟨rfl, h⟩
  · replace h := h.2 (of_decide_eq_false hb)
    refine cf_R_w rp_179 (rf_bk am_t179 54 12) 103 [(0, .ref 25), (1, .int x1), (2, .int x2), (3, .int x3), (4, .int x4)] [] s (by repeat (first | exact trivial | refine ⟨rfl, ?_⟩)) (by decide +kernel) ?_
    refine cf_R_prim (pc := 123) (q := ([.ref 20, .int (x3 + x4), .int (Int32.ofInt 0)], [.ref 36, .int x4, .int x1, .ref 26])) rp_179 rfl rfl (by decide) (by decide) rp_273 rfl (Nat.le_of_ble_eq_true rfl) ⟨rfl, Nat.le_of_ble_eq_true rfl⟩ (cq_get rfl) ?_
    refine cf_R_prim (pc := 126) (q := ([.ref 36, .int (tb_get s 20 (x3 + x4) (Int32.ofInt 0))], [.int x4, .int x1, .ref 26])) rp_179 rfl rfl (by decide) (by decide) rp_280 rfl (Nat.le_of_ble_eq_true rfl) ⟨rfl, Nat.le_of_ble_eq_true rfl⟩ (cq_wget rfl) ?_
    refine cf_R_call (pc := 129) (q := ([.ref 26, .int x1, .int x4, .long (wd_g s 36 (tb_get s 20 (x3 + x4) (Int32.ofInt 0)))], [])) rp_179 rfl rfl (by decide) (by decide) rp_138 rfl (Nat.le_of_ble_eq_true rfl) ⟨rfl, Nat.le_of_ble_eq_true rfl⟩ h (fun v s1 h => ?_)
    obtain ⟨rfl, h⟩ := h
    refine cf_R_w rp_179 (rf_bk am_t179 69 2) 132 [(0, .ref 25), (1, .int x1), (2, .int x2), (3, .int x3), (4, .int x4)] [] s1 (by repeat (first | exact trivial | refine ⟨rfl, ?_⟩)) (by decide +kernel) ?_
    exact cf_R_le (l := [(0, .ref 25), (1, .int x1), (2, .int x2), (3, .int x3), (4, .int (x4 + Int32.ofInt 1))]) rfl rfl (⟨rfl, rfl, rfl, rfl, rfl, trivial⟩) h
/-- LazyHouse$Machine.fill (II)V, from 27 on -/
def wc_Machine_fill_27 (d : Nat) (x1 : Int32) (x2 : Int32) (x3 : Int32) (x4 : Int32) (s : cf_S) (Q : cf_S → Prop) : Prop := (((tb_get s 18 x2 (Int32.ofInt 4)) ≤ x4 → Q s) ∧ (¬ ((tb_get s 18 x2 (Int32.ofInt 4)) ≤ x4) → cf_J (d + 9) 172 [(0, .ref 25), (1, .int x3)] s (fun r1 s1 => cf_V (d + 9) 138 [(0, .ref 26), (1, .int x1), (2, .int x4), (3, .long r1)] s1 (fun s2 => cf_R (d + 10) 179 (27, [(0, .ref 25), (1, .int x1), (2, .int x2), (3, .int (tb_get s2 18 x3 ((Int8.ofInt 6).toInt32))), (4, .int (x4 + Int32.ofInt 1))], [], s2) (cf_qV Q)))))
set_option maxRecDepth 20000 in
theorem wc_Machine_fill_27_ok {d : Nat} {x1 : Int32} {x2 : Int32} {x3 : Int32} {x4 : Int32} {s : cf_S} {Q : cf_S → Prop} (h : wc_Machine_fill_27 d x1 x2 x3 x4 s Q) : cf_R (d + 10) 179 (27, [(0, .ref 25), (1, .int x1), (2, .int x2), (3, .int x3), (4, .int x4)], [], s) (cf_qV Q) := by
  unfold wc_Machine_fill_27 at h
  refine cf_R_w rp_179 (rf_bk am_t179 15 5) 27 [(0, .ref 25), (1, .int x1), (2, .int x2), (3, .int x3), (4, .int x4)] [] s (by repeat (first | exact trivial | refine ⟨rfl, ?_⟩)) (by decide +kernel) ?_
  refine cf_R_prim (pc := 35) (q := ([.ref 18, .int x2, .int (Int32.ofInt 4)], [.int x4])) rp_179 rfl rfl (by decide) (by decide) rp_273 rfl (Nat.le_of_ble_eq_true rfl) ⟨rfl, Nat.le_of_ble_eq_true rfl⟩ (cq_get rfl) ?_
  refine cf_R_w rp_179 (rf_bk am_t179 21 1) 38 [(0, .ref 25), (1, .int x1), (2, .int x2), (3, .int x3), (4, .int x4)] [.int (tb_get s 18 x2 (Int32.ofInt 4)), .int x4] s (by repeat (first | exact trivial | refine ⟨rfl, ?_⟩)) (by decide +kernel) ?_
  refine cf_R_if (b := am_cnd .ge x4 (tb_get s 18 x2 (Int32.ofInt 4))) (p := 73) (q := 41) (fun hb => ?_) (fun hb => ?_)
  · replace h := h.1 (of_decide_eq_true hb)
    exact cf_R_ret (pc := 73) rp_179 rfl rfl rfl ⟨rfl, h⟩
  · replace h := h.2 (of_decide_eq_false hb)
    refine cf_R_w rp_179 (rf_bk am_t179 22 6) 41 [(0, .ref 25), (1, .int x1), (2, .int x2), (3, .int x3), (4, .int x4)] [] s (by repeat (first | exact trivial | refine ⟨rfl, ?_⟩)) (by decide +kernel) ?_
    refine cf_R_call (pc := 50) (q := ([.ref 25, .int x3], [.int x4, .int x1, .ref 26])) rp_179 rfl rfl (by decide) (by decide) rp_172 rfl (Nat.le_of_ble_eq_true rfl) ⟨rfl, Nat.le_of_ble_eq_true rfl⟩ h (fun v s1 h => ?_)
    obtain ⟨r1, rfl, h⟩ := h
    refine cf_R_call (pc := 53) (q := ([.ref 26, .int x1, .int x4, .long r1], [])) rp_179 rfl rfl (by decide) (by decide) rp_138 rfl (Nat.le_of_ble_eq_true rfl) ⟨rfl, Nat.le_of_ble_eq_true rfl⟩ h (fun v s2 h => ?_)
    obtain ⟨rfl, h⟩ := h
    refine cf_R_w rp_179 (rf_bk am_t179 30 4) 56 [(0, .ref 25), (1, .int x1), (2, .int x2), (3, .int x3), (4, .int x4)] [] s2 (by repeat (first | exact trivial | refine ⟨rfl, ?_⟩)) (by decide +kernel) ?_
    refine cf_R_prim (pc := 63) (q := ([.ref 18, .int x3, .int ((Int8.ofInt 6).toInt32)], [])) rp_179 rfl rfl (by decide) (by decide) rp_273 rfl (Nat.le_of_ble_eq_true rfl) ⟨rfl, Nat.le_of_ble_eq_true rfl⟩ (cq_get rfl) ?_
    refine cf_R_w rp_179 (rf_bk am_t179 35 3) 66 [(0, .ref 25), (1, .int x1), (2, .int x2), (3, .int x3), (4, .int x4)] [.int (tb_get s2 18 x3 ((Int8.ofInt 6).toInt32))] s2 (by repeat (first | exact trivial | refine ⟨rfl, ?_⟩)) (by decide +kernel) ?_
    exact cf_R_le (l := [(0, .ref 25), (1, .int x1), (2, .int x2), (3, .int (tb_get s2 18 x3 ((Int8.ofInt 6).toInt32))), (4, .int (x4 + Int32.ofInt 1))]) rfl rfl (⟨rfl, rfl, rfl, rfl, rfl, trivial⟩) h
/-- LazyHouse$Machine.fill (II)V, from 0 on -/
def wc_Machine_fill (d : Nat) (x1 : Int32) (x2 : Int32) (s : cf_S) (Q : cf_S → Prop) : Prop := ((¬ (tb_get s 18 x2 ((Int8.ofInt 13).toInt32)) = (Int32.ofInt 2) → cf_R (d + 10) 179 (88, [(0, .ref 25), (1, .int x1), (2, .int x2), (3, .int (tb_get s 18 x2 ((Int8.ofInt 11).toInt32))), (4, .int (Int32.ofInt 0))], [], s) (cf_qV Q)) ∧ ((tb_get s 18 x2 ((Int8.ofInt 13).toInt32)) = (Int32.ofInt 2) → cf_R (d + 10) 179 (27, [(0, .ref 25), (1, .int x1), (2, .int x2), (3, .int (tb_get s 18 x2 (Int32.ofInt 3))), (4, .int (Int32.ofInt 0))], [], s) (cf_qV Q)))
set_option maxRecDepth 20000 in
theorem wc_Machine_fill_ok {d : Nat} {x1 : Int32} {x2 : Int32} {s : cf_S} {Q : cf_S → Prop} (h : wc_Machine_fill d x1 x2 s Q) : cf_V (d + 10) 179 [(0, .ref 25), (1, .int x1), (2, .int x2)] s Q := by
  unfold wc_Machine_fill at h
  unfold cf_V
  refine cf_R_w rp_179 (rf_bk am_t179 0 4) 0 [(0, .ref 25), (1, .int x1), (2, .int x2)] [] s (by repeat (first | exact trivial | refine ⟨rfl, ?_⟩)) (by decide +kernel) ?_
  refine cf_R_prim (pc := 7) (q := ([.ref 18, .int x2, .int ((Int8.ofInt 13).toInt32)], [])) rp_179 rfl rfl (by decide) (by decide) rp_273 rfl (Nat.le_of_ble_eq_true rfl) ⟨rfl, Nat.le_of_ble_eq_true rfl⟩ (cq_get rfl) ?_
  refine cf_R_w rp_179 (rf_bk am_t179 5 2) 10 [(0, .ref 25), (1, .int x1), (2, .int x2)] [.int (tb_get s 18 x2 ((Int8.ofInt 13).toInt32))] s (by repeat (first | exact trivial | refine ⟨rfl, ?_⟩)) (by decide +kernel) ?_
  refine cf_R_if (b := am_cnd .ne (tb_get s 18 x2 ((Int8.ofInt 13).toInt32)) (Int32.ofInt 2)) (p := 74) (q := 14) (fun hb => ?_) (fun hb => ?_)
  · replace h := h.1 (of_decide_eq_true hb)
    refine cf_R_w rp_179 (rf_bk am_t179 39 4) 74 [(0, .ref 25), (1, .int x1), (2, .int x2)] [] s (by repeat (first | exact trivial | refine ⟨rfl, ?_⟩)) (by decide +kernel) ?_
    refine cf_R_prim (pc := 81) (q := ([.ref 18, .int x2, .int ((Int8.ofInt 11).toInt32)], [])) rp_179 rfl rfl (by decide) (by decide) rp_273 rfl (Nat.le_of_ble_eq_true rfl) ⟨rfl, Nat.le_of_ble_eq_true rfl⟩ (cq_get rfl) ?_
    refine cf_R_w rp_179 (rf_bk am_t179 44 3) 84 [(0, .ref 25), (1, .int x1), (2, .int x2)] [.int (tb_get s 18 x2 ((Int8.ofInt 11).toInt32))] s (by repeat (first | exact trivial | refine ⟨rfl, ?_⟩)) (by decide +kernel) ?_
    exact cf_R_le (l := [(0, .ref 25), (1, .int x1), (2, .int x2), (3, .int (tb_get s 18 x2 ((Int8.ofInt 11).toInt32))), (4, .int (Int32.ofInt 0))]) rfl rfl (⟨rfl, rfl, rfl, rfl, rfl, trivial⟩) h
  · replace h := h.2 (Decidable.not_not.mp (of_decide_eq_false hb))
    refine cf_R_w rp_179 (rf_bk am_t179 7 4) 14 [(0, .ref 25), (1, .int x1), (2, .int x2)] [] s (by repeat (first | exact trivial | refine ⟨rfl, ?_⟩)) (by decide +kernel) ?_
    refine cf_R_prim (pc := 20) (q := ([.ref 18, .int x2, .int (Int32.ofInt 3)], [])) rp_179 rfl rfl (by decide) (by decide) rp_273 rfl (Nat.le_of_ble_eq_true rfl) ⟨rfl, Nat.le_of_ble_eq_true rfl⟩ (cq_get rfl) ?_
    refine cf_R_w rp_179 (rf_bk am_t179 12 3) 23 [(0, .ref 25), (1, .int x1), (2, .int x2)] [.int (tb_get s 18 x2 (Int32.ofInt 3))] s (by repeat (first | exact trivial | refine ⟨rfl, ?_⟩)) (by decide +kernel) ?_
    exact cf_R_le (l := [(0, .ref 25), (1, .int x1), (2, .int x2), (3, .int (tb_get s 18 x2 (Int32.ofInt 3))), (4, .int (Int32.ofInt 0))]) rfl rfl (⟨rfl, rfl, rfl, rfl, rfl, trivial⟩) h
/-- LazyHouse$Machine.release (II)V, from 14 on -/
def wc_Machine_release_14 (d : Nat) (x1 : Int32) (x2 : Int32) (x3 : Int32) (x4 : Int32) (s : cf_S) (Q : cf_S → Prop) : Prop := (((tb_get s 18 x2 ((Int8.ofInt 12).toInt32)) ≤ x4 → Q s) ∧ (¬ ((tb_get s 18 x2 ((Int8.ofInt 12).toInt32)) ≤ x4) → cf_J (d + 9) 137 [(0, .ref 26), (1, .int x1), (2, .int x4)] s (fun r1 s1 => cf_R (d + 10) 180 (14, [(0, .ref 25), (1, .int x1), (2, .int x2), (3, .int x3), (4, .int (x4 + Int32.ofInt 1))], [], (wd_s s1 36 (tb_get s 20 (x3 + x4) (Int32.ofInt 0)) r1)) (cf_qV Q))))
set_option maxRecDepth 20000 in
theorem wc_Machine_release_14_ok {d : Nat} {x1 : Int32} {x2 : Int32} {x3 : Int32} {x4 : Int32} {s : cf_S} {Q : cf_S → Prop} (h : wc_Machine_release_14 d x1 x2 x3 x4 s Q) : cf_R (d + 10) 180 (14, [(0, .ref 25), (1, .int x1), (2, .int x2), (3, .int x3), (4, .int x4)], [], s) (cf_qV Q) := by
  unfold wc_Machine_release_14 at h
  refine cf_R_w rp_180 (rf_bk am_t180 8 5) 14 [(0, .ref 25), (1, .int x1), (2, .int x2), (3, .int x3), (4, .int x4)] [] s (by repeat (first | exact trivial | refine ⟨rfl, ?_⟩)) (by decide +kernel) ?_
  refine cf_R_prim (pc := 23) (q := ([.ref 18, .int x2, .int ((Int8.ofInt 12).toInt32)], [.int x4])) rp_180 rfl rfl (by decide) (by decide) rp_273 rfl (Nat.le_of_ble_eq_true rfl) ⟨rfl, Nat.le_of_ble_eq_true rfl⟩ (cq_get rfl) ?_
  refine cf_R_w rp_180 (rf_bk am_t180 14 1) 26 [(0, .ref 25), (1, .int x1), (2, .int x2), (3, .int x3), (4, .int x4)] [.int (tb_get s 18 x2 ((Int8.ofInt 12).toInt32)), .int x4] s (by repeat (first | exact trivial | refine ⟨rfl, ?_⟩)) (by decide +kernel) ?_
  refine cf_R_if (b := am_cnd .ge x4 (tb_get s 18 x2 ((Int8.ofInt 12).toInt32))) (p := 64) (q := 29) (fun hb => ?_) (fun hb => ?_)
  · replace h := h.1 (of_decide_eq_true hb)
    exact cf_R_ret (pc := 64) rp_180 rfl rfl rfl ⟨rfl, h⟩
  · replace h := h.2 (of_decide_eq_false hb)
    refine cf_R_w rp_180 (rf_bk am_t180 15 8) 29 [(0, .ref 25), (1, .int x1), (2, .int x2), (3, .int x3), (4, .int x4)] [] s (by repeat (first | exact trivial | refine ⟨rfl, ?_⟩)) (by decide +kernel) ?_
    refine cf_R_prim (pc := 42) (q := ([.ref 20, .int (x3 + x4), .int (Int32.ofInt 0)], [.ref 36])) rp_180 rfl rfl (by decide) (by decide) rp_273 rfl (Nat.le_of_ble_eq_true rfl) ⟨rfl, Nat.le_of_ble_eq_true rfl⟩ (cq_get rfl) ?_
    refine cf_R_w rp_180 (rf_bk am_t180 24 4) 45 [(0, .ref 25), (1, .int x1), (2, .int x2), (3, .int x3), (4, .int x4)] [.int (tb_get s 20 (x3 + x4) (Int32.ofInt 0)), .ref 36] s (by repeat (first | exact trivial | refine ⟨rfl, ?_⟩)) (by decide +kernel) ?_
    refine cf_R_call (pc := 52) (q := ([.ref 26, .int x1, .int x4], [.int (tb_get s 20 (x3 + x4) (Int32.ofInt 0)), .ref 36])) rp_180 rfl rfl (by decide) (by decide) rp_137 rfl (Nat.le_of_ble_eq_true rfl) ⟨rfl, Nat.le_of_ble_eq_true rfl⟩ h (fun v s1 h => ?_)
    obtain ⟨r1, rfl, h⟩ := h
    refine cf_R_prim (pc := 55) (q := ([.ref 36, .int (tb_get s 20 (x3 + x4) (Int32.ofInt 0)), .long r1], [])) rp_180 rfl rfl (by decide) (by decide) rp_281 rfl (Nat.le_of_ble_eq_true rfl) ⟨rfl, Nat.le_of_ble_eq_true rfl⟩ (cq_wset rfl) ?_
    refine cf_R_w rp_180 (rf_bk am_t180 30 2) 58 [(0, .ref 25), (1, .int x1), (2, .int x2), (3, .int x3), (4, .int x4)] [] (wd_s s1 36 (tb_get s 20 (x3 + x4) (Int32.ofInt 0)) r1) (by repeat (first | exact trivial | refine ⟨rfl, ?_⟩)) (by decide +kernel) ?_
    exact cf_R_le (l := [(0, .ref 25), (1, .int x1), (2, .int x2), (3, .int x3), (4, .int (x4 + Int32.ofInt 1))]) rfl rfl (⟨rfl, rfl, rfl, rfl, rfl, trivial⟩) h
/-- LazyHouse$Machine.release (II)V, from 0 on -/
def wc_Machine_release (d : Nat) (x1 : Int32) (x2 : Int32) (s : cf_S) (Q : cf_S → Prop) : Prop := cf_R (d + 10) 180 (14, [(0, .ref 25), (1, .int x1), (2, .int x2), (3, .int (tb_get s 18 x2 ((Int8.ofInt 11).toInt32))), (4, .int (Int32.ofInt 0))], [], s) (cf_qV Q)
set_option maxRecDepth 20000 in
theorem wc_Machine_release_ok {d : Nat} {x1 : Int32} {x2 : Int32} {s : cf_S} {Q : cf_S → Prop} (h : wc_Machine_release d x1 x2 s Q) : cf_V (d + 10) 180 [(0, .ref 25), (1, .int x1), (2, .int x2)] s Q := by
  unfold wc_Machine_release at h
  unfold cf_V
  refine cf_R_w rp_180 (rf_bk am_t180 0 4) 0 [(0, .ref 25), (1, .int x1), (2, .int x2)] [] s (by repeat (first | exact trivial | refine ⟨rfl, ?_⟩)) (by decide +kernel) ?_
  refine cf_R_prim (pc := 7) (q := ([.ref 18, .int x2, .int ((Int8.ofInt 11).toInt32)], [])) rp_180 rfl rfl (by decide) (by decide) rp_273 rfl (Nat.le_of_ble_eq_true rfl) ⟨rfl, Nat.le_of_ble_eq_true rfl⟩ (cq_get rfl) ?_
  refine cf_R_w rp_180 (rf_bk am_t180 5 3) 10 [(0, .ref 25), (1, .int x1), (2, .int x2)] [.int (tb_get s 18 x2 ((Int8.ofInt 11).toInt32))] s (by repeat (first | exact trivial | refine ⟨rfl, ?_⟩)) (by decide +kernel) ?_
  exact cf_R_le (l := [(0, .ref 25), (1, .int x1), (2, .int x2), (3, .int (tb_get s 18 x2 ((Int8.ofInt 11).toInt32))), (4, .int (Int32.ofInt 0))]) rfl rfl (⟨rfl, rfl, rfl, rfl, rfl, trivial⟩) h
/-- LazyHouse$Machine.releaseFrame (I)V, from 13 on -/
def wc_Machine_releaseFrame_13 (d : Nat) (x1 : Int32) (x2 : Int32) (x3 : Int32) (s : cf_S) (Q : cf_S → Prop) : Prop := (((tb_get s 18 x1 ((Int8.ofInt 12).toInt32)) ≤ x3 → Q s) ∧ (¬ ((tb_get s 18 x1 ((Int8.ofInt 12).toInt32)) ≤ x3) → cf_J (d + 9) 264 [(0, .ref 31), (1, .int x3)] s (fun r1 s1 => cf_R (d + 10) 181 (13, [(0, .ref 25), (1, .int x1), (2, .int x2), (3, .int (x3 + Int32.ofInt 1))], [], (wd_s s1 36 (tb_get s 20 (x2 + x3) (Int32.ofInt 0)) r1)) (cf_qV Q))))
set_option maxRecDepth 20000 in
theorem wc_Machine_releaseFrame_13_ok {d : Nat} {x1 : Int32} {x2 : Int32} {x3 : Int32} {s : cf_S} {Q : cf_S → Prop} (h : wc_Machine_releaseFrame_13 d x1 x2 x3 s Q) : cf_R (d + 10) 181 (13, [(0, .ref 25), (1, .int x1), (2, .int x2), (3, .int x3)], [], s) (cf_qV Q) := by
  unfold wc_Machine_releaseFrame_13 at h
  refine cf_R_w rp_181 (rf_bk am_t181 8 5) 13 [(0, .ref 25), (1, .int x1), (2, .int x2), (3, .int x3)] [] s (by repeat (first | exact trivial | refine ⟨rfl, ?_⟩)) (by decide +kernel) ?_
  refine cf_R_prim (pc := 21) (q := ([.ref 18, .int x1, .int ((Int8.ofInt 12).toInt32)], [.int x3])) rp_181 rfl rfl (by decide) (by decide) rp_273 rfl (Nat.le_of_ble_eq_true rfl) ⟨rfl, Nat.le_of_ble_eq_true rfl⟩ (cq_get rfl) ?_
  refine cf_R_w rp_181 (rf_bk am_t181 14 1) 24 [(0, .ref 25), (1, .int x1), (2, .int x2), (3, .int x3)] [.int (tb_get s 18 x1 ((Int8.ofInt 12).toInt32)), .int x3] s (by repeat (first | exact trivial | refine ⟨rfl, ?_⟩)) (by decide +kernel) ?_
  refine cf_R_if (b := am_cnd .ge x3 (tb_get s 18 x1 ((Int8.ofInt 12).toInt32))) (p := 59) (q := 27) (fun hb => ?_) (fun hb => ?_)
  · replace h := h.1 (of_decide_eq_true hb)
    exact cf_R_ret (pc := 59) rp_181 rfl rfl rfl ⟨rfl, h⟩
  · replace h := h.2 (of_decide_eq_false hb)
    refine cf_R_w rp_181 (rf_bk am_t181 15 8) 27 [(0, .ref 25), (1, .int x1), (2, .int x2), (3, .int x3)] [] s (by repeat (first | exact trivial | refine ⟨rfl, ?_⟩)) (by decide +kernel) ?_
    refine cf_R_prim (pc := 39) (q := ([.ref 20, .int (x2 + x3), .int (Int32.ofInt 0)], [.ref 36])) rp_181 rfl rfl (by decide) (by decide) rp_273 rfl (Nat.le_of_ble_eq_true rfl) ⟨rfl, Nat.le_of_ble_eq_true rfl⟩ (cq_get rfl) ?_
    refine cf_R_w rp_181 (rf_bk am_t181 24 3) 42 [(0, .ref 25), (1, .int x1), (2, .int x2), (3, .int x3)] [.int (tb_get s 20 (x2 + x3) (Int32.ofInt 0)), .ref 36] s (by repeat (first | exact trivial | refine ⟨rfl, ?_⟩)) (by decide +kernel) ?_
    refine cf_R_call (pc := 47) (q := ([.ref 31, .int x3], [.int (tb_get s 20 (x2 + x3) (Int32.ofInt 0)), .ref 36])) rp_181 rfl rfl (by decide) (by decide) rp_264 rfl (Nat.le_of_ble_eq_true rfl) ⟨rfl, Nat.le_of_ble_eq_true rfl⟩ h (fun v s1 h => ?_)
    obtain ⟨r1, rfl, h⟩ := h
    refine cf_R_prim (pc := 50) (q := ([.ref 36, .int (tb_get s 20 (x2 + x3) (Int32.ofInt 0)), .long r1], [])) rp_181 rfl rfl (by decide) (by decide) rp_281 rfl (Nat.le_of_ble_eq_true rfl) ⟨rfl, Nat.le_of_ble_eq_true rfl⟩ (cq_wset rfl) ?_
    refine cf_R_w rp_181 (rf_bk am_t181 29 2) 53 [(0, .ref 25), (1, .int x1), (2, .int x2), (3, .int x3)] [] (wd_s s1 36 (tb_get s 20 (x2 + x3) (Int32.ofInt 0)) r1) (by repeat (first | exact trivial | refine ⟨rfl, ?_⟩)) (by decide +kernel) ?_
    exact cf_R_le (l := [(0, .ref 25), (1, .int x1), (2, .int x2), (3, .int (x3 + Int32.ofInt 1))]) rfl rfl (⟨rfl, rfl, rfl, rfl, trivial⟩) h
/-- LazyHouse$Machine.releaseFrame (I)V, from 0 on -/
def wc_Machine_releaseFrame (d : Nat) (x1 : Int32) (s : cf_S) (Q : cf_S → Prop) : Prop := cf_R (d + 10) 181 (13, [(0, .ref 25), (1, .int x1), (2, .int (tb_get s 18 x1 ((Int8.ofInt 11).toInt32))), (3, .int (Int32.ofInt 0))], [], s) (cf_qV Q)
set_option maxRecDepth 20000 in
theorem wc_Machine_releaseFrame_ok {d : Nat} {x1 : Int32} {s : cf_S} {Q : cf_S → Prop} (h : wc_Machine_releaseFrame d x1 s Q) : cf_V (d + 10) 181 [(0, .ref 25), (1, .int x1)] s Q := by
  unfold wc_Machine_releaseFrame at h
  unfold cf_V
  refine cf_R_w rp_181 (rf_bk am_t181 0 4) 0 [(0, .ref 25), (1, .int x1)] [] s (by repeat (first | exact trivial | refine ⟨rfl, ?_⟩)) (by decide +kernel) ?_
  refine cf_R_prim (pc := 7) (q := ([.ref 18, .int x1, .int ((Int8.ofInt 11).toInt32)], [])) rp_181 rfl rfl (by decide) (by decide) rp_273 rfl (Nat.le_of_ble_eq_true rfl) ⟨rfl, Nat.le_of_ble_eq_true rfl⟩ (cq_get rfl) ?_
  refine cf_R_w rp_181 (rf_bk am_t181 5 3) 10 [(0, .ref 25), (1, .int x1)] [.int (tb_get s 18 x1 ((Int8.ofInt 11).toInt32))] s (by repeat (first | exact trivial | refine ⟨rfl, ?_⟩)) (by decide +kernel) ?_
  exact cf_R_le (l := [(0, .ref 25), (1, .int x1), (2, .int (tb_get s 18 x1 ((Int8.ofInt 11).toInt32))), (3, .int (Int32.ofInt 0))]) rfl rfl (⟨rfl, rfl, rfl, rfl, trivial⟩) h
/-- LazyHouse$Machine.enter ()V, from 0 on -/
def wc_Machine_enter (d : Nat) (s : cf_S) (Q : cf_S → Prop) : Prop := ((¬ (rf_isOf (s.2.1 25 10)) = (Int32.ofInt 2) → cf_I (d + 9) 139 [(0, .ref 26), (1, .long (s.2.1 25 10))] s (fun r1 s1 => ((r1 = 1 → cf_V (d + 9) 184 [(0, .ref 25)] s1 (fun s2 => cf_I (d + 9) 134 [(0, .ref 26), (1, .int ((s.2.1 25 10).toInt32))] s2 (fun r3 s3 => cf_V (d + 9) 180 [(0, .ref 25), (1, .int ((s.2.1 25 10).toInt32)), (2, .int r3)] s3 (fun s4 => cf_I (d + 9) 134 [(0, .ref 26), (1, .int ((s.2.1 25 10).toInt32))] s4 (fun r5 s5 => cf_V (d + 9) 161 [(0, .ref 25), (1, .int r5)] s5 (fun s6 => cf_V (d + 9) 140 [(0, .ref 26), (1, .int ((s.2.1 25 10).toInt32))] s6 (fun s7 => Q s7))))))) ∧ (¬ (r1 = 1) → ((r1 = 2 → cf_V (d + 9) 164 [(0, .ref 25), (1, .int (Int32.ofInt 1))] s1 (fun s8 => Q s8)) ∧ (¬ (r1 = 2) → ((r1 = 3 → cf_J (d + 9) 142 [(0, .ref 26), (1, .int ((s.2.1 25 10).toInt32))] s1 (fun r9 s9 => cf_V (d + 9) 163 [(0, .ref 25), (1, .long r9)] s9 (fun s10 => Q s10))) ∧ (¬ (r1 = 3) → cf_V (d + 9) 163 [(0, .ref 25), (1, .long (s1.2.1 25 10))] s1 (fun s11 => Q s11))))))))) ∧ ((rf_isOf (s.2.1 25 10)) = (Int32.ofInt 2) → cf_V (d + 9) 183 [(0, .ref 25), (1, .int ((s.2.1 25 10).toInt32))] s (fun s12 => Q s12)))
set_option maxRecDepth 20000 in
theorem wc_Machine_enter_ok {d : Nat} {s : cf_S} {Q : cf_S → Prop} (h : wc_Machine_enter d s Q) : cf_V (d + 10) 182 [(0, .ref 25)] s Q := by
  unfold wc_Machine_enter at h
  unfold cf_V
  refine cf_R_w rp_182 (rf_bk am_t182 0 2) 0 [(0, .ref 25)] [] s (by repeat (first | exact trivial | refine ⟨rfl, ?_⟩)) (by decide +kernel) ?_
  refine cf_R_prim (pc := 4) (q := ([.long (s.2.1 25 10)], [])) rp_182 rfl rfl (by decide) (by decide) rp_276 rfl (Nat.le_of_ble_eq_true rfl) ⟨rfl, Nat.le_of_ble_eq_true rfl⟩ (cq_tag) ?_
  refine cf_R_w rp_182 (rf_bk am_t182 3 2) 7 [(0, .ref 25)] [.int (rf_isOf (s.2.1 25 10))] s (by repeat (first | exact trivial | refine ⟨rfl, ?_⟩)) (by decide +kernel) ?_
  refine cf_R_if (b := am_cnd .ne (rf_isOf (s.2.1 25 10)) (Int32.ofInt 2)) (p := 23) (q := 11) (fun hb => ?_) (fun hb => ?_)
  · replace h := h.1 (of_decide_eq_true hb)
    refine cf_R_w rp_182 (rf_bk am_t182 11 2) 23 [(0, .ref 25)] [] s (by repeat (first | exact trivial | refine ⟨rfl, ?_⟩)) (by decide +kernel) ?_
    refine cf_R_prim (pc := 27) (q := ([.long (s.2.1 25 10)], [])) rp_182 rfl rfl (by decide) (by decide) rp_277 rfl (Nat.le_of_ble_eq_true rfl) ⟨rfl, Nat.le_of_ble_eq_true rfl⟩ (cq_value) ?_
    refine cf_R_w rp_182 (rf_bk am_t182 14 5) 30 [(0, .ref 25)] [.int ((s.2.1 25 10).toInt32)] s (by repeat (first | exact trivial | refine ⟨rfl, ?_⟩)) (by decide +kernel) ?_
    refine cf_R_call (pc := 39) (q := ([.ref 26, .long (s.2.1 25 10)], [])) rp_182 rfl rfl (by decide) (by decide) rp_139 rfl (Nat.le_of_ble_eq_true rfl) ⟨rfl, Nat.le_of_ble_eq_true rfl⟩ h (fun v s1 h => ?_)
    obtain ⟨r1, rfl, h⟩ := h
    refine cf_R_w rp_182 (rf_bk am_t182 20 1) 42 [(1, .int ((s.2.1 25 10).toInt32)), (0, .ref 25)] [.int r1] s1 (by repeat (first | exact trivial | refine ⟨rfl, ?_⟩)) (by decide +kernel) ?_
    refine cf_R_sw (fun hb => ?_) (fun hb => ?_)
    · replace h := h.1 hb
      refine cf_R_w rp_182 (rf_bk am_t182 32 1) 91 [(1, .int ((s.2.1 25 10).toInt32)), (0, .ref 25)] [] s1 (by repeat (first | exact trivial | refine ⟨rfl, ?_⟩)) (by decide +kernel) ?_
      refine cf_R_call (pc := 92) (q := ([.ref 25], [])) rp_182 rfl rfl (by decide) (by decide) rp_184 rfl (Nat.le_of_ble_eq_true rfl) ⟨rfl, Nat.le_of_ble_eq_true rfl⟩ h (fun v s2 h => ?_)
      obtain ⟨rfl, h⟩ := h
      refine cf_R_w rp_182 (rf_bk am_t182 34 5) 95 [(1, .int ((s.2.1 25 10).toInt32)), (0, .ref 25)] [] s2 (by repeat (first | exact trivial | refine ⟨rfl, ?_⟩)) (by decide +kernel) ?_
      refine cf_R_call (pc := 102) (q := ([.ref 26, .int ((s.2.1 25 10).toInt32)], [.int ((s.2.1 25 10).toInt32), .ref 25])) rp_182 rfl rfl (by decide) (by decide) rp_134 rfl (Nat.le_of_ble_eq_true rfl) ⟨rfl, Nat.le_of_ble_eq_true rfl⟩ h (fun v s3 h => ?_)
      obtain ⟨r3, rfl, h⟩ := h
      refine cf_R_call (pc := 105) (q := ([.ref 25, .int ((s.2.1 25 10).toInt32), .int r3], [])) rp_182 rfl rfl (by decide) (by decide) rp_180 rfl (Nat.le_of_ble_eq_true rfl) ⟨rfl, Nat.le_of_ble_eq_true rfl⟩ h (fun v s4 h => ?_)
      obtain ⟨rfl, h⟩ := h
      refine cf_R_w rp_182 (rf_bk am_t182 41 4) 108 [(1, .int ((s.2.1 25 10).toInt32)), (0, .ref 25)] [] s4 (by repeat (first | exact trivial | refine ⟨rfl, ?_⟩)) (by decide +kernel) ?_
      refine cf_R_call (pc := 114) (q := ([.ref 26, .int ((s.2.1 25 10).toInt32)], [.ref 25])) rp_182 rfl rfl (by decide) (by decide) rp_134 rfl (Nat.le_of_ble_eq_true rfl) ⟨rfl, Nat.le_of_ble_eq_true rfl⟩ h (fun v s5 h => ?_)
      obtain ⟨r5, rfl, h⟩ := h
      refine cf_R_call (pc := 117) (q := ([.ref 25, .int r5], [])) rp_182 rfl rfl (by decide) (by decide) rp_161 rfl (Nat.le_of_ble_eq_true rfl) ⟨rfl, Nat.le_of_ble_eq_true rfl⟩ h (fun v s6 h => ?_)
      obtain ⟨rfl, h⟩ := h
      refine cf_R_w rp_182 (rf_bk am_t182 47 3) 120 [(1, .int ((s.2.1 25 10).toInt32)), (0, .ref 25)] [] s6 (by repeat (first | exact trivial | refine ⟨rfl, ?_⟩)) (by decide +kernel) ?_
      refine cf_R_call (pc := 125) (q := ([.ref 26, .int ((s.2.1 25 10).toInt32)], [])) rp_182 rfl rfl (by decide) (by decide) rp_140 rfl (Nat.le_of_ble_eq_true rfl) ⟨rfl, Nat.le_of_ble_eq_true rfl⟩ h (fun v s7 h => ?_)
      obtain ⟨rfl, h⟩ := h
      refine cf_R_w rp_182 (rf_bk am_t182 51 1) 128 [(1, .int ((s.2.1 25 10).toInt32)), (0, .ref 25)] [] s7 (by repeat (first | exact trivial | refine ⟨rfl, ?_⟩)) (by decide +kernel) ?_
      exact cf_R_ret (pc := 139) rp_182 rfl rfl rfl ⟨rfl, h⟩
    replace h := h.2 hb
    refine cf_R_sw (fun hb => ?_) (fun hb => ?_)
    · replace h := h.1 hb
      refine cf_R_w rp_182 (rf_bk am_t182 21 2) 68 [(1, .int ((s.2.1 25 10).toInt32)), (0, .ref 25)] [] s1 (by repeat (first | exact trivial | refine ⟨rfl, ?_⟩)) (by decide +kernel) ?_
      refine cf_R_call (pc := 70) (q := ([.ref 25, .int (Int32.ofInt 1)], [])) rp_182 rfl rfl (by decide) (by decide) rp_164 rfl (Nat.le_of_ble_eq_true rfl) ⟨rfl, Nat.le_of_ble_eq_true rfl⟩ h (fun v s8 h => ?_)
      obtain ⟨rfl, h⟩ := h
      refine cf_R_w rp_182 (rf_bk am_t182 24 1) 73 [(1, .int ((s.2.1 25 10).toInt32)), (0, .ref 25)] [] s8 (by repeat (first | exact trivial | refine ⟨rfl, ?_⟩)) (by decide +kernel) ?_
      exact cf_R_ret (pc := 139) rp_182 rfl rfl rfl ⟨rfl, h⟩
    replace h := h.2 hb
    refine cf_R_sw (fun hb => ?_) (fun hb => ?_)
    · replace h := h.1 hb
      refine cf_R_w rp_182 (rf_bk am_t182 25 4) 76 [(1, .int ((s.2.1 25 10).toInt32)), (0, .ref 25)] [] s1 (by repeat (first | exact trivial | refine ⟨rfl, ?_⟩)) (by decide +kernel) ?_
      refine cf_R_call (pc := 82) (q := ([.ref 26, .int ((s.2.1 25 10).toInt32)], [.ref 25])) rp_182 rfl rfl (by decide) (by decide) rp_142 rfl (Nat.le_of_ble_eq_true rfl) ⟨rfl, Nat.le_of_ble_eq_true rfl⟩ h (fun v s9 h => ?_)
      obtain ⟨r9, rfl, h⟩ := h
      refine cf_R_call (pc := 85) (q := ([.ref 25, .long r9], [])) rp_182 rfl rfl (by decide) (by decide) rp_163 rfl (Nat.le_of_ble_eq_true rfl) ⟨rfl, Nat.le_of_ble_eq_true rfl⟩ h (fun v s10 h => ?_)
      obtain ⟨rfl, h⟩ := h
      refine cf_R_w rp_182 (rf_bk am_t182 31 1) 88 [(1, .int ((s.2.1 25 10).toInt32)), (0, .ref 25)] [] s10 (by repeat (first | exact trivial | refine ⟨rfl, ?_⟩)) (by decide +kernel) ?_
      exact cf_R_ret (pc := 139) rp_182 rfl rfl rfl ⟨rfl, h⟩
    replace h := h.2 hb
    show cf_R (d + 10) 182 (131, _, _, _) _
    refine cf_R_w rp_182 (rf_bk am_t182 52 3) 131 [(1, .int ((s.2.1 25 10).toInt32)), (0, .ref 25)] [] s1 (by repeat (first | exact trivial | refine ⟨rfl, ?_⟩)) (by decide +kernel) ?_
    refine cf_R_call (pc := 136) (q := ([.ref 25, .long (s1.2.1 25 10)], [])) rp_182 rfl rfl (by decide) (by decide) rp_163 rfl (Nat.le_of_ble_eq_true rfl) ⟨rfl, Nat.le_of_ble_eq_true rfl⟩ h (fun v s11 h => ?_)
    obtain ⟨rfl, h⟩ := h
    exact cf_R_ret (pc := 139) rp_182 rfl rfl rfl ⟨rfl, h⟩
  · replace h := h.2 (Decidable.not_not.mp (of_decide_eq_false hb))
    refine cf_R_w rp_182 (rf_bk am_t182 5 3) 11 [(0, .ref 25)] [] s (by repeat (first | exact trivial | refine ⟨rfl, ?_⟩)) (by decide +kernel) ?_
    refine cf_R_prim (pc := 16) (q := ([.long (s.2.1 25 10)], [.ref 25])) rp_182 rfl rfl (by decide) (by decide) rp_277 rfl (Nat.le_of_ble_eq_true rfl) ⟨rfl, Nat.le_of_ble_eq_true rfl⟩ (cq_value) ?_
    refine cf_R_call (pc := 19) (q := ([.ref 25, .int ((s.2.1 25 10).toInt32)], [])) rp_182 rfl rfl (by decide) (by decide) rp_183 rfl (Nat.le_of_ble_eq_true rfl) ⟨rfl, Nat.le_of_ble_eq_true rfl⟩ h (fun v s12 h => ?_)
    obtain ⟨rfl, h⟩ := h
    exact cf_R_ret (pc := 22) rp_182 rfl rfl rfl ⟨rfl, h⟩
/-- LazyHouse$Machine.enterDefinition (I)V, from 0 on -/
def wc_Machine_enterDefinition (d : Nat) (x1 : Int32) (s : cf_S) (Q : cf_S → Prop) : Prop := cf_I (d + 9) 238 [(0, .ref 3), (1, .int x1)] s (fun r1 s1 => ((r1 = 0 → (((rf_isOf (wd_g s1 38 x1)) = 4 → cf_V (d + 9) 184 [(0, .ref 25)] s1 (fun s2 => cf_V (d + 9) 161 [(0, .ref 25), (1, .int (tb_get (wd_s s2 38 x1 (rf_word (Int32.ofInt 5) (Int32.ofInt 0))) 10 x1 (Int32.ofInt 2)))] (wd_s s2 38 x1 (rf_word (Int32.ofInt 5) (Int32.ofInt 0))) (fun s3 => Q s3))) ∧ (¬ ((rf_isOf (wd_g s1 38 x1)) = 4) → (((rf_isOf (wd_g s1 38 x1)) = 5 → cf_V (d + 9) 164 [(0, .ref 25), (1, .int (Int32.ofInt 1))] s1 (fun s4 => Q s4)) ∧ (¬ ((rf_isOf (wd_g s1 38 x1)) = 5) → cf_V (d + 9) 163 [(0, .ref 25), (1, .long (wd_g s1 38 x1))] s1 (fun s5 => Q s5)))))) ∧ (¬ (r1 = 0) → cf_V (d + 9) 163 [(0, .ref 25), (1, .long (s1.2.1 25 10))] s1 (fun s6 => Q s6))))
set_option maxRecDepth 20000 in
theorem wc_Machine_enterDefinition_ok {d : Nat} {x1 : Int32} {s : cf_S} {Q : cf_S → Prop} (h : wc_Machine_enterDefinition d x1 s Q) : cf_V (d + 10) 183 [(0, .ref 25), (1, .int x1)] s Q := by
  unfold wc_Machine_enterDefinition at h
  unfold cf_V
  refine cf_R_w rp_183 (rf_bk am_t183 0 3) 0 [(0, .ref 25), (1, .int x1)] [] s (by repeat (first | exact trivial | refine ⟨rfl, ?_⟩)) (by decide +kernel) ?_
  refine cf_R_call (pc := 5) (q := ([.ref 3, .int x1], [])) rp_183 rfl rfl (by decide) (by decide) rp_238 rfl (Nat.le_of_ble_eq_true rfl) ⟨rfl, Nat.le_of_ble_eq_true rfl⟩ h (fun v s1 h => ?_)
  obtain ⟨r1, rfl, h⟩ := h
  refine cf_R_w rp_183 (rf_bk am_t183 4 1) 8 [(0, .ref 25), (1, .int x1)] [.int r1] s1 (by repeat (first | exact trivial | refine ⟨rfl, ?_⟩)) (by decide +kernel) ?_
  refine cf_R_if (b := am_cnd .eq r1 0) (p := 20) (q := 11) (fun hb => ?_) (fun hb => ?_)
  · replace h := h.1 (of_decide_eq_true hb)
    refine cf_R_w rp_183 (rf_bk am_t183 10 3) 20 [(0, .ref 25), (1, .int x1)] [] s1 (by repeat (first | exact trivial | refine ⟨rfl, ?_⟩)) (by decide +kernel) ?_
    refine cf_R_prim (pc := 25) (q := ([.ref 38, .int x1], [])) rp_183 rfl rfl (by decide) (by decide) rp_280 rfl (Nat.le_of_ble_eq_true rfl) ⟨rfl, Nat.le_of_ble_eq_true rfl⟩ (cq_wget rfl) ?_
    refine cf_R_w rp_183 (rf_bk am_t183 14 2) 28 [(0, .ref 25), (1, .int x1)] [.long (wd_g s1 38 x1)] s1 (by repeat (first | exact trivial | refine ⟨rfl, ?_⟩)) (by decide +kernel) ?_
    refine cf_R_prim (pc := 30) (q := ([.long (wd_g s1 38 x1)], [])) rp_183 rfl rfl (by decide) (by decide) rp_276 rfl (Nat.le_of_ble_eq_true rfl) ⟨rfl, Nat.le_of_ble_eq_true rfl⟩ (cq_tag) ?_
    refine cf_R_w rp_183 (rf_bk am_t183 17 1) 33 [(2, .long (wd_g s1 38 x1)), (0, .ref 25), (1, .int x1)] [.int (rf_isOf (wd_g s1 38 x1))] s1 (by repeat (first | exact trivial | refine ⟨rfl, ?_⟩)) (by decide +kernel) ?_
    refine cf_R_sw (fun hb => ?_) (fun hb => ?_)
    · replace h := h.1 hb
      refine cf_R_w rp_183 (rf_bk am_t183 22 1) 68 [(2, .long (wd_g s1 38 x1)), (0, .ref 25), (1, .int x1)] [] s1 (by repeat (first | exact trivial | refine ⟨rfl, ?_⟩)) (by decide +kernel) ?_
      refine cf_R_call (pc := 69) (q := ([.ref 25], [])) rp_183 rfl rfl (by decide) (by decide) rp_184 rfl (Nat.le_of_ble_eq_true rfl) ⟨rfl, Nat.le_of_ble_eq_true rfl⟩ h (fun v s2 h => ?_)
      obtain ⟨rfl, h⟩ := h
      refine cf_R_w rp_183 (rf_bk am_t183 24 5) 72 [(2, .long (wd_g s1 38 x1)), (0, .ref 25), (1, .int x1)] [] s2 (by repeat (first | exact trivial | refine ⟨rfl, ?_⟩)) (by decide +kernel) ?_
      refine cf_R_prim (pc := 79) (q := ([.int (Int32.ofInt 5), .int (Int32.ofInt 0)], [.int x1, .ref 38])) rp_183 rfl rfl (by decide) (by decide) rp_275 rfl (Nat.le_of_ble_eq_true rfl) ⟨rfl, Nat.le_of_ble_eq_true rfl⟩ (cq_of) ?_
      refine cf_R_prim (pc := 82) (q := ([.ref 38, .int x1, .long (rf_word (Int32.ofInt 5) (Int32.ofInt 0))], [])) rp_183 rfl rfl (by decide) (by decide) rp_281 rfl (Nat.le_of_ble_eq_true rfl) ⟨rfl, Nat.le_of_ble_eq_true rfl⟩ (cq_wset rfl) ?_
      refine cf_R_w rp_183 (rf_bk am_t183 31 6) 85 [(2, .long (wd_g s1 38 x1)), (0, .ref 25), (1, .int x1)] [] (wd_s s2 38 x1 (rf_word (Int32.ofInt 5) (Int32.ofInt 0))) (by repeat (first | exact trivial | refine ⟨rfl, ?_⟩)) (by decide +kernel) ?_
      refine cf_R_prim (pc := 95) (q := ([.ref 10, .int x1, .int (Int32.ofInt 2)], [.ref 25])) rp_183 rfl rfl (by decide) (by decide) rp_273 rfl (Nat.le_of_ble_eq_true rfl) ⟨rfl, Nat.le_of_ble_eq_true rfl⟩ (cq_get rfl) ?_
      refine cf_R_call (pc := 98) (q := ([.ref 25, .int (tb_get (wd_s s2 38 x1 (rf_word (Int32.ofInt 5) (Int32.ofInt 0))) 10 x1 (Int32.ofInt 2))], [])) rp_183 rfl rfl (by decide) (by decide) rp_161 rfl (Nat.le_of_ble_eq_true rfl) ⟨rfl, Nat.le_of_ble_eq_true rfl⟩ h (fun v s3 h => ?_)
      obtain ⟨rfl, h⟩ := h
      refine cf_R_w rp_183 (rf_bk am_t183 39 1) 101 [(2, .long (wd_g s1 38 x1)), (0, .ref 25), (1, .int x1)] [] s3 (by repeat (first | exact trivial | refine ⟨rfl, ?_⟩)) (by decide +kernel) ?_
      exact cf_R_ret (pc := 109) rp_183 rfl rfl rfl ⟨rfl, h⟩
    replace h := h.2 hb
    refine cf_R_sw (fun hb => ?_) (fun hb => ?_)
    · replace h := h.1 hb
      refine cf_R_w rp_183 (rf_bk am_t183 18 2) 60 [(2, .long (wd_g s1 38 x1)), (0, .ref 25), (1, .int x1)] [] s1 (by repeat (first | exact trivial | refine ⟨rfl, ?_⟩)) (by decide +kernel) ?_
      refine cf_R_call (pc := 62) (q := ([.ref 25, .int (Int32.ofInt 1)], [])) rp_183 rfl rfl (by decide) (by decide) rp_164 rfl (Nat.le_of_ble_eq_true rfl) ⟨rfl, Nat.le_of_ble_eq_true rfl⟩ h (fun v s4 h => ?_)
      obtain ⟨rfl, h⟩ := h
      refine cf_R_w rp_183 (rf_bk am_t183 21 1) 65 [(2, .long (wd_g s1 38 x1)), (0, .ref 25), (1, .int x1)] [] s4 (by repeat (first | exact trivial | refine ⟨rfl, ?_⟩)) (by decide +kernel) ?_
      exact cf_R_ret (pc := 109) rp_183 rfl rfl rfl ⟨rfl, h⟩
    replace h := h.2 hb
    show cf_R (d + 10) 183 (104, _, _, _) _
    refine cf_R_w rp_183 (rf_bk am_t183 40 2) 104 [(2, .long (wd_g s1 38 x1)), (0, .ref 25), (1, .int x1)] [] s1 (by repeat (first | exact trivial | refine ⟨rfl, ?_⟩)) (by decide +kernel) ?_
    refine cf_R_call (pc := 106) (q := ([.ref 25, .long (wd_g s1 38 x1)], [])) rp_183 rfl rfl (by decide) (by decide) rp_163 rfl (Nat.le_of_ble_eq_true rfl) ⟨rfl, Nat.le_of_ble_eq_true rfl⟩ h (fun v s5 h => ?_)
    obtain ⟨rfl, h⟩ := h
    exact cf_R_ret (pc := 109) rp_183 rfl rfl rfl ⟨rfl, h⟩
  · replace h := h.2 (of_decide_eq_false hb)
    refine cf_R_w rp_183 (rf_bk am_t183 5 3) 11 [(0, .ref 25), (1, .int x1)] [] s1 (by repeat (first | exact trivial | refine ⟨rfl, ?_⟩)) (by decide +kernel) ?_
    refine cf_R_call (pc := 16) (q := ([.ref 25, .long (s1.2.1 25 10)], [])) rp_183 rfl rfl (by decide) (by decide) rp_163 rfl (Nat.le_of_ble_eq_true rfl) ⟨rfl, Nat.le_of_ble_eq_true rfl⟩ h (fun v s6 h => ?_)
    obtain ⟨rfl, h⟩ := h
    exact cf_R_ret (pc := 19) rp_183 rfl rfl rfl ⟨rfl, h⟩
/-- LazyHouse$Machine.pushUpdate ()V, from 0 on -/
def wc_Machine_pushUpdate (d : Nat) (s : cf_S) (Q : cf_S → Prop) : Prop := cf_V (d + 9) 260 [(0, .ref 31), (1, .int (Int32.ofInt 1)), (2, .int (Int32.ofInt 0)), (3, .int (Int32.ofInt 1))] s (fun s1 => cf_V (d + 9) 265 [(0, .ref 31), (1, .int (Int32.ofInt 0)), (2, .long (s1.2.1 25 10))] s1 (fun s2 => Q (cf_si s2 25 13 ((s2.1 25 13) + (Int32.ofInt 1)))))
set_option maxRecDepth 20000 in
theorem wc_Machine_pushUpdate_ok {d : Nat} {s : cf_S} {Q : cf_S → Prop} (h : wc_Machine_pushUpdate d s Q) : cf_V (d + 10) 184 [(0, .ref 25)] s Q := by
  unfold wc_Machine_pushUpdate at h
  unfold cf_V
  refine cf_R_w rp_184 (rf_bk am_t184 0 5) 0 [(0, .ref 25)] [] s (by repeat (first | exact trivial | refine ⟨rfl, ?_⟩)) (by decide +kernel) ?_
  refine cf_R_call (pc := 7) (q := ([.ref 31, .int (Int32.ofInt 1), .int (Int32.ofInt 0), .int (Int32.ofInt 1)], [])) rp_184 rfl rfl (by decide) (by decide) rp_260 rfl (Nat.le_of_ble_eq_true rfl) ⟨rfl, Nat.le_of_ble_eq_true rfl⟩ h (fun v s1 h => ?_)
  obtain ⟨rfl, h⟩ := h
  refine cf_R_w rp_184 (rf_bk am_t184 6 5) 10 [(0, .ref 25)] [] s1 (by repeat (first | exact trivial | refine ⟨rfl, ?_⟩)) (by decide +kernel) ?_
  refine cf_R_call (pc := 19) (q := ([.ref 31, .int (Int32.ofInt 0), .long (s1.2.1 25 10)], [])) rp_184 rfl rfl (by decide) (by decide) rp_265 rfl (Nat.le_of_ble_eq_true rfl) ⟨rfl, Nat.le_of_ble_eq_true rfl⟩ h (fun v s2 h => ?_)
  obtain ⟨rfl, h⟩ := h
  refine cf_R_w rp_184 (rf_bk am_t184 12 6) 22 [(0, .ref 25)] [] s2 (by repeat (first | exact trivial | refine ⟨rfl, ?_⟩)) (by decide +kernel) ?_
  refine And.intro rfl ?_
  exact cf_R_ret (pc := 32) rp_184 rfl rfl rfl ⟨rfl, h⟩
/-- LazyHouse$Machine.give ()V, from 0 on -/
def wc_Machine_give (d : Nat) (s : cf_S) (Q : cf_S → Prop) : Prop := cf_I (d + 9) 261 [(0, .ref 31)] s (fun r1 s1 => ((r1 = 1 → cf_V (d + 9) 186 [(0, .ref 25)] s1 (fun s2 => Q s2)) ∧ (¬ (r1 = 1) → ((r1 = 2 → cf_V (d + 9) 187 [(0, .ref 25)] s1 (fun s3 => Q s3)) ∧ (¬ (r1 = 2) → ((r1 = 3 → cf_V (d + 9) 190 [(0, .ref 25)] s1 (fun s4 => Q s4)) ∧ (¬ (r1 = 3) → ((r1 = 4 → cf_V (d + 9) 191 [(0, .ref 25)] s1 (fun s5 => Q s5)) ∧ (¬ (r1 = 4) → ((r1 = 5 → cf_V (d + 9) 194 [(0, .ref 25)] s1 (fun s6 => Q s6)) ∧ (¬ (r1 = 5) → ((r1 = 6 → cf_V (d + 9) 201 [(0, .ref 25)] s1 (fun s7 => Q s7)) ∧ (¬ (r1 = 6) → Q (cf_si s1 25 8 (Int32.ofInt 4)))))))))))))))
set_option maxRecDepth 20000 in
theorem wc_Machine_give_ok {d : Nat} {s : cf_S} {Q : cf_S → Prop} (h : wc_Machine_give d s Q) : cf_V (d + 10) 185 [(0, .ref 25)] s Q := by
  unfold wc_Machine_give at h
  unfold cf_V
  refine cf_R_w rp_185 (rf_bk am_t185 0 2) 0 [(0, .ref 25)] [] s (by repeat (first | exact trivial | refine ⟨rfl, ?_⟩)) (by decide +kernel) ?_
  refine cf_R_call (pc := 4) (q := ([.ref 31], [])) rp_185 rfl rfl (by decide) (by decide) rp_261 rfl (Nat.le_of_ble_eq_true rfl) ⟨rfl, Nat.le_of_ble_eq_true rfl⟩ h (fun v s1 h => ?_)
  obtain ⟨r1, rfl, h⟩ := h
  refine cf_R_w rp_185 (rf_bk am_t185 3 1) 7 [(0, .ref 25)] [.int r1] s1 (by repeat (first | exact trivial | refine ⟨rfl, ?_⟩)) (by decide +kernel) ?_
  refine cf_R_sw (fun hb => ?_) (fun hb => ?_)
  · replace h := h.1 hb
    refine cf_R_w rp_185 (rf_bk am_t185 4 1) 44 [(0, .ref 25)] [] s1 (by repeat (first | exact trivial | refine ⟨rfl, ?_⟩)) (by decide +kernel) ?_
    refine cf_R_call (pc := 45) (q := ([.ref 25], [])) rp_185 rfl rfl (by decide) (by decide) rp_186 rfl (Nat.le_of_ble_eq_true rfl) ⟨rfl, Nat.le_of_ble_eq_true rfl⟩ h (fun v s2 h => ?_)
    obtain ⟨rfl, h⟩ := h
    refine cf_R_w rp_185 (rf_bk am_t185 6 1) 48 [(0, .ref 25)] [] s2 (by repeat (first | exact trivial | refine ⟨rfl, ?_⟩)) (by decide +kernel) ?_
    exact cf_R_ret (pc := 91) rp_185 rfl rfl rfl ⟨rfl, h⟩
  replace h := h.2 hb
  refine cf_R_sw (fun hb => ?_) (fun hb => ?_)
  · replace h := h.1 hb
    refine cf_R_w rp_185 (rf_bk am_t185 7 1) 51 [(0, .ref 25)] [] s1 (by repeat (first | exact trivial | refine ⟨rfl, ?_⟩)) (by decide +kernel) ?_
    refine cf_R_call (pc := 52) (q := ([.ref 25], [])) rp_185 rfl rfl (by decide) (by decide) rp_187 rfl (Nat.le_of_ble_eq_true rfl) ⟨rfl, Nat.le_of_ble_eq_true rfl⟩ h (fun v s3 h => ?_)
    obtain ⟨rfl, h⟩ := h
    refine cf_R_w rp_185 (rf_bk am_t185 9 1) 55 [(0, .ref 25)] [] s3 (by repeat (first | exact trivial | refine ⟨rfl, ?_⟩)) (by decide +kernel) ?_
    exact cf_R_ret (pc := 91) rp_185 rfl rfl rfl ⟨rfl, h⟩
  replace h := h.2 hb
  refine cf_R_sw (fun hb => ?_) (fun hb => ?_)
  · replace h := h.1 hb
    refine cf_R_w rp_185 (rf_bk am_t185 10 1) 58 [(0, .ref 25)] [] s1 (by repeat (first | exact trivial | refine ⟨rfl, ?_⟩)) (by decide +kernel) ?_
    refine cf_R_call (pc := 59) (q := ([.ref 25], [])) rp_185 rfl rfl (by decide) (by decide) rp_190 rfl (Nat.le_of_ble_eq_true rfl) ⟨rfl, Nat.le_of_ble_eq_true rfl⟩ h (fun v s4 h => ?_)
    obtain ⟨rfl, h⟩ := h
    refine cf_R_w rp_185 (rf_bk am_t185 12 1) 62 [(0, .ref 25)] [] s4 (by repeat (first | exact trivial | refine ⟨rfl, ?_⟩)) (by decide +kernel) ?_
    exact cf_R_ret (pc := 91) rp_185 rfl rfl rfl ⟨rfl, h⟩
  replace h := h.2 hb
  refine cf_R_sw (fun hb => ?_) (fun hb => ?_)
  · replace h := h.1 hb
    refine cf_R_w rp_185 (rf_bk am_t185 13 1) 65 [(0, .ref 25)] [] s1 (by repeat (first | exact trivial | refine ⟨rfl, ?_⟩)) (by decide +kernel) ?_
    refine cf_R_call (pc := 66) (q := ([.ref 25], [])) rp_185 rfl rfl (by decide) (by decide) rp_191 rfl (Nat.le_of_ble_eq_true rfl) ⟨rfl, Nat.le_of_ble_eq_true rfl⟩ h (fun v s5 h => ?_)
    obtain ⟨rfl, h⟩ := h
    refine cf_R_w rp_185 (rf_bk am_t185 15 1) 69 [(0, .ref 25)] [] s5 (by repeat (first | exact trivial | refine ⟨rfl, ?_⟩)) (by decide +kernel) ?_
    exact cf_R_ret (pc := 91) rp_185 rfl rfl rfl ⟨rfl, h⟩
  replace h := h.2 hb
  refine cf_R_sw (fun hb => ?_) (fun hb => ?_)
  · replace h := h.1 hb
    refine cf_R_w rp_185 (rf_bk am_t185 16 1) 72 [(0, .ref 25)] [] s1 (by repeat (first | exact trivial | refine ⟨rfl, ?_⟩)) (by decide +kernel) ?_
    refine cf_R_call (pc := 73) (q := ([.ref 25], [])) rp_185 rfl rfl (by decide) (by decide) rp_194 rfl (Nat.le_of_ble_eq_true rfl) ⟨rfl, Nat.le_of_ble_eq_true rfl⟩ h (fun v s6 h => ?_)
    obtain ⟨rfl, h⟩ := h
    refine cf_R_w rp_185 (rf_bk am_t185 18 1) 76 [(0, .ref 25)] [] s6 (by repeat (first | exact trivial | refine ⟨rfl, ?_⟩)) (by decide +kernel) ?_
    exact cf_R_ret (pc := 91) rp_185 rfl rfl rfl ⟨rfl, h⟩
  replace h := h.2 hb
  refine cf_R_sw (fun hb => ?_) (fun hb => ?_)
  · replace h := h.1 hb
    refine cf_R_w rp_185 (rf_bk am_t185 19 1) 79 [(0, .ref 25)] [] s1 (by repeat (first | exact trivial | refine ⟨rfl, ?_⟩)) (by decide +kernel) ?_
    refine cf_R_call (pc := 80) (q := ([.ref 25], [])) rp_185 rfl rfl (by decide) (by decide) rp_201 rfl (Nat.le_of_ble_eq_true rfl) ⟨rfl, Nat.le_of_ble_eq_true rfl⟩ h (fun v s7 h => ?_)
    obtain ⟨rfl, h⟩ := h
    refine cf_R_w rp_185 (rf_bk am_t185 21 1) 83 [(0, .ref 25)] [] s7 (by repeat (first | exact trivial | refine ⟨rfl, ?_⟩)) (by decide +kernel) ?_
    exact cf_R_ret (pc := 91) rp_185 rfl rfl rfl ⟨rfl, h⟩
  replace h := h.2 hb
  show cf_R (d + 10) 185 (86, _, _, _) _
  refine cf_R_w rp_185 (rf_bk am_t185 22 3) 86 [(0, .ref 25)] [] s1 (by repeat (first | exact trivial | refine ⟨rfl, ?_⟩)) (by decide +kernel) ?_
  refine And.intro rfl ?_
  exact cf_R_ret (pc := 91) rp_185 rfl rfl rfl ⟨rfl, h⟩
/-- LazyHouse$Machine.giveToUpdate ()V, from 0 on -/
def wc_Machine_giveToUpdate (d : Nat) (s : cf_S) (Q : cf_S → Prop) : Prop := cf_J (d + 9) 264 [(0, .ref 31), (1, .int (Int32.ofInt 0))] s (fun r1 s1 => cf_V (d + 9) 266 [(0, .ref 31)] s1 (fun s2 => ((¬ (rf_isOf r1) = (Int32.ofInt 2) → cf_V (d + 9) 141 [(0, .ref 26), (1, .int (r1.toInt32)), (2, .long (s2.2.1 25 10))] s2 (fun s3 => Q s3)) ∧ ((rf_isOf r1) = (Int32.ofInt 2) → Q (wd_s s2 38 (r1.toInt32) (s2.2.1 25 10))))))
set_option maxRecDepth 20000 in
theorem wc_Machine_giveToUpdate_ok {d : Nat} {s : cf_S} {Q : cf_S → Prop} (h : wc_Machine_giveToUpdate d s Q) : cf_V (d + 10) 186 [(0, .ref 25)] s Q := by
  unfold wc_Machine_giveToUpdate at h
  unfold cf_V
  refine cf_R_w rp_186 (rf_bk am_t186 0 3) 0 [(0, .ref 25)] [] s (by repeat (first | exact trivial | refine ⟨rfl, ?_⟩)) (by decide +kernel) ?_
  refine cf_R_call (pc := 5) (q := ([.ref 31, .int (Int32.ofInt 0)], [])) rp_186 rfl rfl (by decide) (by decide) rp_264 rfl (Nat.le_of_ble_eq_true rfl) ⟨rfl, Nat.le_of_ble_eq_true rfl⟩ h (fun v s1 h => ?_)
  obtain ⟨r1, rfl, h⟩ := h
  refine cf_R_w rp_186 (rf_bk am_t186 4 3) 8 [(0, .ref 25)] [.long r1] s1 (by repeat (first | exact trivial | refine ⟨rfl, ?_⟩)) (by decide +kernel) ?_
  refine cf_R_call (pc := 13) (q := ([.ref 31], [])) rp_186 rfl rfl (by decide) (by decide) rp_266 rfl (Nat.le_of_ble_eq_true rfl) ⟨rfl, Nat.le_of_ble_eq_true rfl⟩ h (fun v s2 h => ?_)
  obtain ⟨rfl, h⟩ := h
  refine cf_R_w rp_186 (rf_bk am_t186 8 1) 16 [(1, .long r1), (0, .ref 25)] [] s2 (by repeat (first | exact trivial | refine ⟨rfl, ?_⟩)) (by decide +kernel) ?_
  refine cf_R_prim (pc := 17) (q := ([.long r1], [])) rp_186 rfl rfl (by decide) (by decide) rp_276 rfl (Nat.le_of_ble_eq_true rfl) ⟨rfl, Nat.le_of_ble_eq_true rfl⟩ (cq_tag) ?_
  refine cf_R_w rp_186 (rf_bk am_t186 10 2) 20 [(1, .long r1), (0, .ref 25)] [.int (rf_isOf r1)] s2 (by repeat (first | exact trivial | refine ⟨rfl, ?_⟩)) (by decide +kernel) ?_
  refine cf_R_if (b := am_cnd .ne (rf_isOf r1) (Int32.ofInt 2)) (p := 42) (q := 24) (fun hb => ?_) (fun hb => ?_)
  · replace h := h.1 (of_decide_eq_true hb)
    refine cf_R_w rp_186 (rf_bk am_t186 20 3) 42 [(1, .long r1), (0, .ref 25)] [] s2 (by repeat (first | exact trivial | refine ⟨rfl, ?_⟩)) (by decide +kernel) ?_
    refine cf_R_prim (pc := 47) (q := ([.long r1], [.ref 26])) rp_186 rfl rfl (by decide) (by decide) rp_277 rfl (Nat.le_of_ble_eq_true rfl) ⟨rfl, Nat.le_of_ble_eq_true rfl⟩ (cq_value) ?_
    refine cf_R_w rp_186 (rf_bk am_t186 24 2) 50 [(1, .long r1), (0, .ref 25)] [.int (r1.toInt32), .ref 26] s2 (by repeat (first | exact trivial | refine ⟨rfl, ?_⟩)) (by decide +kernel) ?_
    refine cf_R_call (pc := 54) (q := ([.ref 26, .int (r1.toInt32), .long (s2.2.1 25 10)], [])) rp_186 rfl rfl (by decide) (by decide) rp_141 rfl (Nat.le_of_ble_eq_true rfl) ⟨rfl, Nat.le_of_ble_eq_true rfl⟩ h (fun v s3 h => ?_)
    obtain ⟨rfl, h⟩ := h
    exact cf_R_ret (pc := 57) rp_186 rfl rfl rfl ⟨rfl, h⟩
  · replace h := h.2 (Decidable.not_not.mp (of_decide_eq_false hb))
    refine cf_R_w rp_186 (rf_bk am_t186 12 3) 24 [(1, .long r1), (0, .ref 25)] [] s2 (by repeat (first | exact trivial | refine ⟨rfl, ?_⟩)) (by decide +kernel) ?_
    refine cf_R_prim (pc := 29) (q := ([.long r1], [.ref 38])) rp_186 rfl rfl (by decide) (by decide) rp_277 rfl (Nat.le_of_ble_eq_true rfl) ⟨rfl, Nat.le_of_ble_eq_true rfl⟩ (cq_value) ?_
    refine cf_R_w rp_186 (rf_bk am_t186 16 2) 32 [(1, .long r1), (0, .ref 25)] [.int (r1.toInt32), .ref 38] s2 (by repeat (first | exact trivial | refine ⟨rfl, ?_⟩)) (by decide +kernel) ?_
    refine cf_R_prim (pc := 36) (q := ([.ref 38, .int (r1.toInt32), .long (s2.2.1 25 10)], [])) rp_186 rfl rfl (by decide) (by decide) rp_281 rfl (Nat.le_of_ble_eq_true rfl) ⟨rfl, Nat.le_of_ble_eq_true rfl⟩ (cq_wset rfl) ?_
    refine cf_R_w rp_186 (rf_bk am_t186 19 1) 39 [(1, .long r1), (0, .ref 25)] [] (wd_s s2 38 (r1.toInt32) (s2.2.1 25 10)) (by repeat (first | exact trivial | refine ⟨rfl, ?_⟩)) (by decide +kernel) ?_
    exact cf_R_ret (pc := 57) rp_186 rfl rfl rfl ⟨rfl, h⟩
/-- LazyHouse$Machine.giveToChoice ()V, from 75 on -/
def wc_Machine_giveToChoice_75 (d : Nat) (x2 : Int32) (x3 : Int32) (x4 : Int32) (s : cf_S) (Q : cf_S → Prop) : Prop := (((tb_get s 18 x2 (Int32.ofInt 4)) ≤ x4 → cf_V (d + 9) 161 [(0, .ref 25), (1, .int (tb_get s 18 x2 (Int32.ofInt 2)))] s (fun s1 => Q s1)) ∧ (¬ ((tb_get s 18 x2 (Int32.ofInt 4)) ≤ x4) → cf_J (d + 9) 137 [(0, .ref 26), (1, .int ((s.2.1 25 10).toInt32)), (2, .int x4)] s (fun r2 s2 => cf_R (d + 10) 187 (75, [(0, .ref 25), (2, .int x2), (3, .int x3), (4, .int (x4 + Int32.ofInt 1))], [], (wd_s s2 36 (x3 + x4) r2)) (cf_qV Q))))
set_option maxRecDepth 20000 in
theorem wc_Machine_giveToChoice_75_ok {d : Nat} {x2 : Int32} {x3 : Int32} {x4 : Int32} {s : cf_S} {Q : cf_S → Prop} (h : wc_Machine_giveToChoice_75 d x2 x3 x4 s Q) : cf_R (d + 10) 187 (75, [(0, .ref 25), (2, .int x2), (3, .int x3), (4, .int x4)], [], s) (cf_qV Q) := by
  unfold wc_Machine_giveToChoice_75 at h
  refine cf_R_w rp_187 (rf_bk am_t187 41 5) 75 [(0, .ref 25), (2, .int x2), (3, .int x3), (4, .int x4)] [] s (by repeat (first | exact trivial | refine ⟨rfl, ?_⟩)) (by decide +kernel) ?_
  refine cf_R_prim (pc := 83) (q := ([.ref 18, .int x2, .int (Int32.ofInt 4)], [.int x4])) rp_187 rfl rfl (by decide) (by decide) rp_273 rfl (Nat.le_of_ble_eq_true rfl) ⟨rfl, Nat.le_of_ble_eq_true rfl⟩ (cq_get rfl) ?_
  refine cf_R_w rp_187 (rf_bk am_t187 47 1) 86 [(0, .ref 25), (2, .int x2), (3, .int x3), (4, .int x4)] [.int (tb_get s 18 x2 (Int32.ofInt 4)), .int x4] s (by repeat (first | exact trivial | refine ⟨rfl, ?_⟩)) (by decide +kernel) ?_
  refine cf_R_if (b := am_cnd .ge x4 (tb_get s 18 x2 (Int32.ofInt 4))) (p := 122) (q := 89) (fun hb => ?_) (fun hb => ?_)
  · replace h := h.1 (of_decide_eq_true hb)
    refine cf_R_w rp_187 (rf_bk am_t187 63 5) 122 [(0, .ref 25), (2, .int x2), (3, .int x3), (4, .int x4)] [] s (by repeat (first | exact trivial | refine ⟨rfl, ?_⟩)) (by decide +kernel) ?_
    refine cf_R_prim (pc := 129) (q := ([.ref 18, .int x2, .int (Int32.ofInt 2)], [.ref 25])) rp_187 rfl rfl (by decide) (by decide) rp_273 rfl (Nat.le_of_ble_eq_true rfl) ⟨rfl, Nat.le_of_ble_eq_true rfl⟩ (cq_get rfl) ?_
    refine cf_R_call (pc := 132) (q := ([.ref 25, .int (tb_get s 18 x2 (Int32.ofInt 2))], [])) rp_187 rfl rfl (by decide) (by decide) rp_161 rfl (Nat.le_of_ble_eq_true rfl) ⟨rfl, Nat.le_of_ble_eq_true rfl⟩ h (fun v s1 h => ?_)
    obtain ⟨rfl, h⟩ := h
    exact cf_R_ret (pc := 135) rp_187 rfl rfl rfl ⟨rfl, h⟩
  · replace h := h.2 (of_decide_eq_false hb)
    refine cf_R_w rp_187 (rf_bk am_t187 48 9) 89 [(0, .ref 25), (2, .int x2), (3, .int x3), (4, .int x4)] [] s (by repeat (first | exact trivial | refine ⟨rfl, ?_⟩)) (by decide +kernel) ?_
    refine cf_R_prim (pc := 105) (q := ([.long (s.2.1 25 10)], [.ref 26, .int (x3 + x4), .ref 36])) rp_187 rfl rfl (by decide) (by decide) rp_277 rfl (Nat.le_of_ble_eq_true rfl) ⟨rfl, Nat.le_of_ble_eq_true rfl⟩ (cq_value) ?_
    refine cf_R_w rp_187 (rf_bk am_t187 58 1) 108 [(0, .ref 25), (2, .int x2), (3, .int x3), (4, .int x4)] [.int ((s.2.1 25 10).toInt32), .ref 26, .int (x3 + x4), .ref 36] s (by repeat (first | exact trivial | refine ⟨rfl, ?_⟩)) (by decide +kernel) ?_
    refine cf_R_call (pc := 110) (q := ([.ref 26, .int ((s.2.1 25 10).toInt32), .int x4], [.int (x3 + x4), .ref 36])) rp_187 rfl rfl (by decide) (by decide) rp_137 rfl (Nat.le_of_ble_eq_true rfl) ⟨rfl, Nat.le_of_ble_eq_true rfl⟩ h (fun v s2 h => ?_)
    obtain ⟨r2, rfl, h⟩ := h
    refine cf_R_prim (pc := 113) (q := ([.ref 36, .int (x3 + x4), .long r2], [])) rp_187 rfl rfl (by decide) (by decide) rp_281 rfl (Nat.le_of_ble_eq_true rfl) ⟨rfl, Nat.le_of_ble_eq_true rfl⟩ (cq_wset rfl) ?_
    refine cf_R_w rp_187 (rf_bk am_t187 61 2) 116 [(0, .ref 25), (2, .int x2), (3, .int x3), (4, .int x4)] [] (wd_s s2 36 (x3 + x4) r2) (by repeat (first | exact trivial | refine ⟨rfl, ?_⟩)) (by decide +kernel) ?_
    exact cf_R_le (l := [(0, .ref 25), (2, .int x2), (3, .int x3), (4, .int (x4 + Int32.ofInt 1))]) rfl rfl (⟨rfl, rfl, rfl, rfl, trivial⟩) h
/-- LazyHouse$Machine.giveToChoice ()V, from 72 on -/
def wc_Machine_giveToChoice_72 (d : Nat) (x2 : Int32) (x3 : Int32) (s : cf_S) (Q : cf_S → Prop) : Prop := cf_R (d + 10) 187 (75, [(0, .ref 25), (2, .int x2), (3, .int x3), (4, .int (Int32.ofInt 0))], [], s) (cf_qV Q)
set_option maxRecDepth 20000 in
theorem wc_Machine_giveToChoice_72_ok {d : Nat} {x2 : Int32} {x3 : Int32} {s : cf_S} {Q : cf_S → Prop} (h : wc_Machine_giveToChoice_72 d x2 x3 s Q) : cf_R (d + 10) 187 (72, [(0, .ref 25), (2, .int x2), (3, .int x3)], [], s) (cf_qV Q) := by
  unfold wc_Machine_giveToChoice_72 at h
  refine cf_R_w rp_187 (rf_bk am_t187 39 2) 72 [(0, .ref 25), (2, .int x2), (3, .int x3)] [] s (by repeat (first | exact trivial | refine ⟨rfl, ?_⟩)) (by decide +kernel) ?_
  exact cf_R_le (l := [(0, .ref 25), (2, .int x2), (3, .int x3), (4, .int (Int32.ofInt 0))]) rfl rfl (⟨rfl, rfl, rfl, rfl, trivial⟩) h
/-- LazyHouse$Machine.giveToChoice ()V, from 0 on -/
def wc_Machine_giveToChoice (d : Nat) (s : cf_S) (Q : cf_S → Prop) : Prop := cf_I (d + 9) 262 [(0, .ref 31)] s (fun r1 s1 => cf_I (d + 9) 188 [(0, .ref 25), (1, .int r1)] s1 (fun r2 s2 => ((¬ r2 = 0 → cf_V (d + 9) 181 [(0, .ref 25), (1, .int r1)] s2 (fun s3 => cf_V (d + 9) 266 [(0, .ref 31)] s3 (fun s4 => ((¬ (tb_get s4 18 r2 (Int32.ofInt 0)) = ((Int8.ofInt 15).toInt32) → wc_Machine_giveToChoice_72 d r2 (tb_get s4 18 r2 (Int32.ofInt 5)) s4 Q) ∧ ((tb_get s4 18 r2 (Int32.ofInt 0)) = ((Int8.ofInt 15).toInt32) → wc_Machine_giveToChoice_72 d r2 (tb_get s4 18 r2 (Int32.ofInt 5)) (wd_s s4 36 (tb_get s4 18 r2 (Int32.ofInt 5)) (s4.2.1 25 10)) Q))))) ∧ (r2 = 0 → cf_V (d + 9) 164 [(0, .ref 25), (1, .int (Int32.ofInt 3))] s2 (fun s5 => Q s5)))))
set_option maxRecDepth 20000 in
theorem wc_Machine_giveToChoice_ok {d : Nat} {s : cf_S} {Q : cf_S → Prop} (h : wc_Machine_giveToChoice d s Q) : cf_V (d + 10) 187 [(0, .ref 25)] s Q := by
  unfold wc_Machine_giveToChoice at h
  unfold cf_V
  refine cf_R_w rp_187 (rf_bk am_t187 0 2) 0 [(0, .ref 25)] [] s (by repeat (first | exact trivial | refine ⟨rfl, ?_⟩)) (by decide +kernel) ?_
  refine cf_R_call (pc := 4) (q := ([.ref 31], [])) rp_187 rfl rfl (by decide) (by decide) rp_262 rfl (Nat.le_of_ble_eq_true rfl) ⟨rfl, Nat.le_of_ble_eq_true rfl⟩ h (fun v s1 h => ?_)
  obtain ⟨r1, rfl, h⟩ := h
  refine cf_R_w rp_187 (rf_bk am_t187 3 3) 7 [(0, .ref 25)] [.int r1] s1 (by repeat (first | exact trivial | refine ⟨rfl, ?_⟩)) (by decide +kernel) ?_
  refine cf_R_call (pc := 10) (q := ([.ref 25, .int r1], [])) rp_187 rfl rfl (by decide) (by decide) rp_188 rfl (Nat.le_of_ble_eq_true rfl) ⟨rfl, Nat.le_of_ble_eq_true rfl⟩ h (fun v s2 h => ?_)
  obtain ⟨r2, rfl, h⟩ := h
  refine cf_R_w rp_187 (rf_bk am_t187 7 3) 13 [(1, .int r1), (0, .ref 25)] [.int r2] s2 (by repeat (first | exact trivial | refine ⟨rfl, ?_⟩)) (by decide +kernel) ?_
  refine cf_R_if (b := am_cnd .ne r2 0) (p := 24) (q := 18) (fun hb => ?_) (fun hb => ?_)
  · replace h := h.1 (of_decide_eq_true hb)
    refine cf_R_w rp_187 (rf_bk am_t187 14 2) 24 [(2, .int r2), (1, .int r1), (0, .ref 25)] [] s2 (by repeat (first | exact trivial | refine ⟨rfl, ?_⟩)) (by decide +kernel) ?_
    refine cf_R_call (pc := 26) (q := ([.ref 25, .int r1], [])) rp_187 rfl rfl (by decide) (by decide) rp_181 rfl (Nat.le_of_ble_eq_true rfl) ⟨rfl, Nat.le_of_ble_eq_true rfl⟩ h (fun v s3 h => ?_)
    obtain ⟨rfl, h⟩ := h
    refine cf_R_w rp_187 (rf_bk am_t187 17 2) 29 [(2, .int r2), (1, .int r1), (0, .ref 25)] [] s3 (by repeat (first | exact trivial | refine ⟨rfl, ?_⟩)) (by decide +kernel) ?_
    refine cf_R_call (pc := 33) (q := ([.ref 31], [])) rp_187 rfl rfl (by decide) (by decide) rp_266 rfl (Nat.le_of_ble_eq_true rfl) ⟨rfl, Nat.le_of_ble_eq_true rfl⟩ h (fun v s4 h => ?_)
    obtain ⟨rfl, h⟩ := h
    refine cf_R_w rp_187 (rf_bk am_t187 20 4) 36 [(2, .int r2), (1, .int r1), (0, .ref 25)] [] s4 (by repeat (first | exact trivial | refine ⟨rfl, ?_⟩)) (by decide +kernel) ?_
    refine cf_R_prim (pc := 42) (q := ([.ref 18, .int r2, .int (Int32.ofInt 5)], [])) rp_187 rfl rfl (by decide) (by decide) rp_273 rfl (Nat.le_of_ble_eq_true rfl) ⟨rfl, Nat.le_of_ble_eq_true rfl⟩ (cq_get rfl) ?_
    refine cf_R_w rp_187 (rf_bk am_t187 25 5) 45 [(2, .int r2), (1, .int r1), (0, .ref 25)] [.int (tb_get s4 18 r2 (Int32.ofInt 5))] s4 (by repeat (first | exact trivial | refine ⟨rfl, ?_⟩)) (by decide +kernel) ?_
    refine cf_R_prim (pc := 52) (q := ([.ref 18, .int r2, .int (Int32.ofInt 0)], [])) rp_187 rfl rfl (by decide) (by decide) rp_273 rfl (Nat.le_of_ble_eq_true rfl) ⟨rfl, Nat.le_of_ble_eq_true rfl⟩ (cq_get rfl) ?_
    refine cf_R_w rp_187 (rf_bk am_t187 31 2) 55 [(3, .int (tb_get s4 18 r2 (Int32.ofInt 5))), (2, .int r2), (1, .int r1), (0, .ref 25)] [.int (tb_get s4 18 r2 (Int32.ofInt 0))] s4 (by repeat (first | exact trivial | refine ⟨rfl, ?_⟩)) (by decide +kernel) ?_
    refine cf_R_if (b := am_cnd .ne (tb_get s4 18 r2 (Int32.ofInt 0)) ((Int8.ofInt 15).toInt32)) (p := 72) (q := 60) (fun hb => ?_) (fun hb => ?_)
    · replace h := h.1 (of_decide_eq_true hb)
      exact cf_R_le (l := [(0, .ref 25), (2, .int r2), (3, .int (tb_get s4 18 r2 (Int32.ofInt 5)))]) rfl rfl (⟨rfl, rfl, rfl, trivial⟩) (wc_Machine_giveToChoice_72_ok h)
    · replace h := h.2 (Decidable.not_not.mp (of_decide_eq_false hb))
      refine cf_R_w rp_187 (rf_bk am_t187 33 5) 60 [(3, .int (tb_get s4 18 r2 (Int32.ofInt 5))), (2, .int r2), (1, .int r1), (0, .ref 25)] [] s4 (by repeat (first | exact trivial | refine ⟨rfl, ?_⟩)) (by decide +kernel) ?_
      refine cf_R_prim (pc := 69) (q := ([.ref 36, .int (tb_get s4 18 r2 (Int32.ofInt 5)), .long (s4.2.1 25 10)], [])) rp_187 rfl rfl (by decide) (by decide) rp_281 rfl (Nat.le_of_ble_eq_true rfl) ⟨rfl, Nat.le_of_ble_eq_true rfl⟩ (cq_wset rfl) ?_
      exact cf_R_le (l := [(0, .ref 25), (2, .int r2), (3, .int (tb_get s4 18 r2 (Int32.ofInt 5)))]) rfl rfl (⟨rfl, rfl, rfl, trivial⟩) (wc_Machine_giveToChoice_72_ok h)
  · replace h := h.2 (Decidable.not_not.mp (of_decide_eq_false hb))
    refine cf_R_w rp_187 (rf_bk am_t187 10 2) 18 [(2, .int r2), (1, .int r1), (0, .ref 25)] [] s2 (by repeat (first | exact trivial | refine ⟨rfl, ?_⟩)) (by decide +kernel) ?_
    refine cf_R_call (pc := 20) (q := ([.ref 25, .int (Int32.ofInt 3)], [])) rp_187 rfl rfl (by decide) (by decide) rp_164 rfl (Nat.le_of_ble_eq_true rfl) ⟨rfl, Nat.le_of_ble_eq_true rfl⟩ h (fun v s5 h => ?_)
    obtain ⟨rfl, h⟩ := h
    exact cf_R_ret (pc := 23) rp_187 rfl rfl rfl ⟨rfl, h⟩
/-- LazyHouse$Machine.findAlternative (I)I, from 89 on -/
def wc_Machine_findAlternative_89 (d : Nat) (x1 : Int32) (x3 : Int32) (x4 : Int64) (x6 : Int32) (x7 : Int32) (s : cf_S) (Q : Int32 → cf_S → Prop) : Prop := (((tb_get s 18 x1 (Int32.ofInt 4)) ≤ x7 → Q (Int32.ofInt 0) s) ∧ (¬ ((tb_get s 18 x1 (Int32.ofInt 4)) ≤ x7) → cf_I (d + 9) 189 [(0, .ref 25), (1, .int x6), (2, .long x4), (4, .int x3)] s (fun r1 s1 => ((r1 = 0 → cf_R (d + 10) 188 (89, [(0, .ref 25), (1, .int x1), (3, .int x3), (4, .long x4), (6, .int (tb_get s1 18 x6 ((Int8.ofInt 6).toInt32))), (7, .int (x7 + Int32.ofInt 1))], [], s1) (cf_qI Q)) ∧ (¬ (r1 = 0) → Q x6 s1)))))
set_option maxRecDepth 20000 in
theorem wc_Machine_findAlternative_89_ok {d : Nat} {x1 : Int32} {x3 : Int32} {x4 : Int64} {x6 : Int32} {x7 : Int32} {s : cf_S} {Q : Int32 → cf_S → Prop} (h : wc_Machine_findAlternative_89 d x1 x3 x4 x6 x7 s Q) : cf_R (d + 10) 188 (89, [(0, .ref 25), (1, .int x1), (3, .int x3), (4, .long x4), (6, .int x6), (7, .int x7)], [], s) (cf_qI Q) := by
  unfold wc_Machine_findAlternative_89 at h
  refine cf_R_w rp_188 (rf_bk am_t188 44 5) 89 [(0, .ref 25), (1, .int x1), (3, .int x3), (4, .long x4), (6, .int x6), (7, .int x7)] [] s (by repeat (first | exact trivial | refine ⟨rfl, ?_⟩)) (by decide +kernel) ?_
  refine cf_R_prim (pc := 97) (q := ([.ref 18, .int x1, .int (Int32.ofInt 4)], [.int x7])) rp_188 rfl rfl (by decide) (by decide) rp_273 rfl (Nat.le_of_ble_eq_true rfl) ⟨rfl, Nat.le_of_ble_eq_true rfl⟩ (cq_get rfl) ?_
  refine cf_R_w rp_188 (rf_bk am_t188 50 1) 100 [(0, .ref 25), (1, .int x1), (3, .int x3), (4, .long x4), (6, .int x6), (7, .int x7)] [.int (tb_get s 18 x1 (Int32.ofInt 4)), .int x7] s (by repeat (first | exact trivial | refine ⟨rfl, ?_⟩)) (by decide +kernel) ?_
  refine cf_R_if (b := am_cnd .ge x7 (tb_get s 18 x1 (Int32.ofInt 4))) (p := 137) (q := 103) (fun hb => ?_) (fun hb => ?_)
  · replace h := h.1 (of_decide_eq_true hb)
    refine cf_R_w rp_188 (rf_bk am_t188 67 1) 137 [(0, .ref 25), (1, .int x1), (3, .int x3), (4, .long x4), (6, .int x6), (7, .int x7)] [] s (by repeat (first | exact trivial | refine ⟨rfl, ?_⟩)) (by decide +kernel) ?_
    exact cf_R_ret (pc := 138) (v := some (.int (Int32.ofInt 0))) rp_188 rfl rfl rfl ⟨_, rfl, h⟩
  · replace h := h.2 (of_decide_eq_false hb)
    refine cf_R_w rp_188 (rf_bk am_t188 51 4) 103 [(0, .ref 25), (1, .int x1), (3, .int x3), (4, .long x4), (6, .int x6), (7, .int x7)] [] s (by repeat (first | exact trivial | refine ⟨rfl, ?_⟩)) (by decide +kernel) ?_
    refine cf_R_call (pc := 109) (q := ([.ref 25, .int x6, .long x4, .int x3], [])) rp_188 rfl rfl (by decide) (by decide) rp_189 rfl (Nat.le_of_ble_eq_true rfl) ⟨rfl, Nat.le_of_ble_eq_true rfl⟩ h (fun v s1 h => ?_)
    obtain ⟨r1, rfl, h⟩ := h
    refine cf_R_w rp_188 (rf_bk am_t188 56 1) 112 [(0, .ref 25), (1, .int x1), (3, .int x3), (4, .long x4), (6, .int x6), (7, .int x7)] [.int r1] s1 (by repeat (first | exact trivial | refine ⟨rfl, ?_⟩)) (by decide +kernel) ?_
    refine cf_R_if (b := am_cnd .eq r1 0) (p := 118) (q := 115) (fun hb => ?_) (fun hb => ?_)
    · replace h := h.1 (of_decide_eq_true hb)
      refine cf_R_w rp_188 (rf_bk am_t188 59 4) 118 [(0, .ref 25), (1, .int x1), (3, .int x3), (4, .long x4), (6, .int x6), (7, .int x7)] [] s1 (by repeat (first | exact trivial | refine ⟨rfl, ?_⟩)) (by decide +kernel) ?_
      refine cf_R_prim (pc := 126) (q := ([.ref 18, .int x6, .int ((Int8.ofInt 6).toInt32)], [])) rp_188 rfl rfl (by decide) (by decide) rp_273 rfl (Nat.le_of_ble_eq_true rfl) ⟨rfl, Nat.le_of_ble_eq_true rfl⟩ (cq_get rfl) ?_
      refine cf_R_w rp_188 (rf_bk am_t188 64 3) 129 [(0, .ref 25), (1, .int x1), (3, .int x3), (4, .long x4), (6, .int x6), (7, .int x7)] [.int (tb_get s1 18 x6 ((Int8.ofInt 6).toInt32))] s1 (by repeat (first | exact trivial | refine ⟨rfl, ?_⟩)) (by decide +kernel) ?_
      exact cf_R_le (l := [(0, .ref 25), (1, .int x1), (3, .int x3), (4, .long x4), (6, .int (tb_get s1 18 x6 ((Int8.ofInt 6).toInt32))), (7, .int (x7 + Int32.ofInt 1))]) rfl rfl (⟨rfl, rfl, rfl, rfl, rfl, rfl, trivial⟩) h
    · replace h := h.2 (of_decide_eq_false hb)
      refine cf_R_w rp_188 (rf_bk am_t188 57 1) 115 [(0, .ref 25), (1, .int x1), (3, .int x3), (4, .long x4), (6, .int x6), (7, .int x7)] [] s1 (by repeat (first | exact trivial | refine ⟨rfl, ?_⟩)) (by decide +kernel) ?_
      exact cf_R_ret (pc := 117) (v := some (.int x6)) rp_188 rfl rfl rfl ⟨_, rfl, h⟩
/-- LazyHouse$Machine.findAlternative (I)I, from 73 on -/
def wc_Machine_findAlternative_73 (d : Nat) (x1 : Int32) (x3 : Int32) (y0 : Int64) (s : cf_S) (Q : Int32 → cf_S → Prop) : Prop := cf_R (d + 10) 188 (89, [(0, .ref 25), (1, .int x1), (3, .int x3), (4, .long y0), (6, .int (tb_get s 18 x1 (Int32.ofInt 3))), (7, .int (Int32.ofInt 0))], [], s) (cf_qI Q)
set_option maxRecDepth 20000 in
theorem wc_Machine_findAlternative_73_ok {d : Nat} {x1 : Int32} {x3 : Int32} {y0 : Int64} {s : cf_S} {Q : Int32 → cf_S → Prop} (h : wc_Machine_findAlternative_73 d x1 x3 y0 s Q) : cf_R (d + 10) 188 (73, [(0, .ref 25), (1, .int x1), (3, .int x3)], [.long y0], s) (cf_qI Q) := by
  unfold wc_Machine_findAlternative_73 at h
  refine cf_R_w rp_188 (rf_bk am_t188 35 5) 73 [(0, .ref 25), (1, .int x1), (3, .int x3)] [.long y0] s (by repeat (first | exact trivial | refine ⟨rfl, ?_⟩)) (by decide +kernel) ?_
  refine cf_R_prim (pc := 81) (q := ([.ref 18, .int x1, .int (Int32.ofInt 3)], [])) rp_188 rfl rfl (by decide) (by decide) rp_273 rfl (Nat.le_of_ble_eq_true rfl) ⟨rfl, Nat.le_of_ble_eq_true rfl⟩ (cq_get rfl) ?_
  refine cf_R_w rp_188 (rf_bk am_t188 41 3) 84 [(4, .long y0), (0, .ref 25), (1, .int x1), (3, .int x3)] [.int (tb_get s 18 x1 (Int32.ofInt 3))] s (by repeat (first | exact trivial | refine ⟨rfl, ?_⟩)) (by decide +kernel) ?_
  exact cf_R_le (l := [(0, .ref 25), (1, .int x1), (3, .int x3), (4, .long y0), (6, .int (tb_get s 18 x1 (Int32.ofInt 3))), (7, .int (Int32.ofInt 0))]) rfl rfl (⟨rfl, rfl, rfl, rfl, rfl, rfl, trivial⟩) h
/-- LazyHouse$Machine.findAlternative (I)I, from 43 on -/
def wc_Machine_findAlternative_43 (d : Nat) (x1 : Int32) (x2 : Int32) (y0 : Int32) (s : cf_S) (Q : Int32 → cf_S → Prop) : Prop := ((x2 = 0 → wc_Machine_findAlternative_73 d x1 y0 (s.2.1 25 10) s Q) ∧ (¬ (x2 = 0) → cf_I (d + 9) 134 [(0, .ref 26), (1, .int ((s.2.1 25 10).toInt32))] s (fun r1 s1 => wc_Machine_findAlternative_73 d x1 y0 (rf_word (Int32.ofInt 1) r1) s1 Q)))
set_option maxRecDepth 20000 in
theorem wc_Machine_findAlternative_43_ok {d : Nat} {x1 : Int32} {x2 : Int32} {y0 : Int32} {s : cf_S} {Q : Int32 → cf_S → Prop} (h : wc_Machine_findAlternative_43 d x1 x2 y0 s Q) : cf_R (d + 10) 188 (43, [(0, .ref 25), (1, .int x1), (2, .int x2)], [.int y0], s) (cf_qI Q) := by
  unfold wc_Machine_findAlternative_43 at h
  refine cf_R_w rp_188 (rf_bk am_t188 21 3) 43 [(0, .ref 25), (1, .int x1), (2, .int x2)] [.int y0] s (by repeat (first | exact trivial | refine ⟨rfl, ?_⟩)) (by decide +kernel) ?_
  refine cf_R_if (b := am_cnd .eq x2 0) (p := 69) (q := 48) (fun hb => ?_) (fun hb => ?_)
  · replace h := h.1 (of_decide_eq_true hb)
    refine cf_R_w rp_188 (rf_bk am_t188 33 2) 69 [(3, .int y0), (0, .ref 25), (1, .int x1), (2, .int x2)] [] s (by repeat (first | exact trivial | refine ⟨rfl, ?_⟩)) (by decide +kernel) ?_
    exact cf_R_le (l := [(0, .ref 25), (1, .int x1), (3, .int y0)]) rfl rfl (⟨rfl, rfl, rfl, trivial⟩) (wc_Machine_findAlternative_73_ok h)
  · replace h := h.2 (of_decide_eq_false hb)
    refine cf_R_w rp_188 (rf_bk am_t188 24 5) 48 [(3, .int y0), (0, .ref 25), (1, .int x1), (2, .int x2)] [] s (by repeat (first | exact trivial | refine ⟨rfl, ?_⟩)) (by decide +kernel) ?_
    refine cf_R_prim (pc := 57) (q := ([.long (s.2.1 25 10)], [.ref 26, .int (Int32.ofInt 1)])) rp_188 rfl rfl (by decide) (by decide) rp_277 rfl (Nat.le_of_ble_eq_true rfl) ⟨rfl, Nat.le_of_ble_eq_true rfl⟩ (cq_value) ?_
    refine cf_R_call (pc := 60) (q := ([.ref 26, .int ((s.2.1 25 10).toInt32)], [.int (Int32.ofInt 1)])) rp_188 rfl rfl (by decide) (by decide) rp_134 rfl (Nat.le_of_ble_eq_true rfl) ⟨rfl, Nat.le_of_ble_eq_true rfl⟩ h (fun v s1 h => ?_)
    obtain ⟨r1, rfl, h⟩ := h
    refine cf_R_prim (pc := 63) (q := ([.int (Int32.ofInt 1), .int r1], [])) rp_188 rfl rfl (by decide) (by decide) rp_275 rfl (Nat.le_of_ble_eq_true rfl) ⟨rfl, Nat.le_of_ble_eq_true rfl⟩ (cq_of) ?_
    refine cf_R_w rp_188 (rf_bk am_t188 32 1) 66 [(3, .int y0), (0, .ref 25), (1, .int x1), (2, .int x2)] [.long (rf_word (Int32.ofInt 1) r1)] s1 (by repeat (first | exact trivial | refine ⟨rfl, ?_⟩)) (by decide +kernel) ?_
    exact cf_R_le (l := [(0, .ref 25), (1, .int x1), (3, .int y0)]) rfl rfl (⟨rfl, rfl, rfl, trivial⟩) (wc_Machine_findAlternative_73_ok h)
/-- LazyHouse$Machine.findAlternative (I)I, from 20 on -/
def wc_Machine_findAlternative_20 (d : Nat) (x1 : Int32) (y0 : Int32) (s : cf_S) (Q : Int32 → cf_S → Prop) : Prop := ((y0 = 0 → wc_Machine_findAlternative_43 d x1 y0 (Int32.ofInt 0) s Q) ∧ (¬ (y0 = 0) → cf_I (d + 9) 135 [(0, .ref 26), (1, .int ((s.2.1 25 10).toInt32))] s (fun r1 s1 => wc_Machine_findAlternative_43 d x1 y0 r1 s1 Q)))
set_option maxRecDepth 20000 in
theorem wc_Machine_findAlternative_20_ok {d : Nat} {x1 : Int32} {y0 : Int32} {s : cf_S} {Q : Int32 → cf_S → Prop} (h : wc_Machine_findAlternative_20 d x1 y0 s Q) : cf_R (d + 10) 188 (20, [(0, .ref 25), (1, .int x1)], [.int y0], s) (cf_qI Q) := by
  unfold wc_Machine_findAlternative_20 at h
  refine cf_R_w rp_188 (rf_bk am_t188 10 3) 20 [(0, .ref 25), (1, .int x1)] [.int y0] s (by repeat (first | exact trivial | refine ⟨rfl, ?_⟩)) (by decide +kernel) ?_
  refine cf_R_if (b := am_cnd .eq y0 0) (p := 42) (q := 25) (fun hb => ?_) (fun hb => ?_)
  · replace h := h.1 (of_decide_eq_true hb)
    refine cf_R_w rp_188 (rf_bk am_t188 20 1) 42 [(2, .int y0), (0, .ref 25), (1, .int x1)] [] s (by repeat (first | exact trivial | refine ⟨rfl, ?_⟩)) (by decide +kernel) ?_
    exact cf_R_le (l := [(0, .ref 25), (1, .int x1), (2, .int y0)]) rfl rfl (⟨rfl, rfl, rfl, trivial⟩) (wc_Machine_findAlternative_43_ok h)
  · replace h := h.2 (of_decide_eq_false hb)
    refine cf_R_w rp_188 (rf_bk am_t188 13 4) 25 [(2, .int y0), (0, .ref 25), (1, .int x1)] [] s (by repeat (first | exact trivial | refine ⟨rfl, ?_⟩)) (by decide +kernel) ?_
    refine cf_R_prim (pc := 33) (q := ([.long (s.2.1 25 10)], [.ref 26])) rp_188 rfl rfl (by decide) (by decide) rp_277 rfl (Nat.le_of_ble_eq_true rfl) ⟨rfl, Nat.le_of_ble_eq_true rfl⟩ (cq_value) ?_
    refine cf_R_call (pc := 36) (q := ([.ref 26, .int ((s.2.1 25 10).toInt32)], [])) rp_188 rfl rfl (by decide) (by decide) rp_135 rfl (Nat.le_of_ble_eq_true rfl) ⟨rfl, Nat.le_of_ble_eq_true rfl⟩ h (fun v s1 h => ?_)
    obtain ⟨r1, rfl, h⟩ := h
    refine cf_R_w rp_188 (rf_bk am_t188 19 1) 39 [(2, .int y0), (0, .ref 25), (1, .int x1)] [.int r1] s1 (by repeat (first | exact trivial | refine ⟨rfl, ?_⟩)) (by decide +kernel) ?_
    exact cf_R_le (l := [(0, .ref 25), (1, .int x1), (2, .int y0)]) rfl rfl (⟨rfl, rfl, rfl, trivial⟩) (wc_Machine_findAlternative_43_ok h)
/-- LazyHouse$Machine.findAlternative (I)I, from 0 on -/
def wc_Machine_findAlternative (d : Nat) (x1 : Int32) (s : cf_S) (Q : Int32 → cf_S → Prop) : Prop := cf_I (d + 9) 139 [(0, .ref 26), (1, .long (s.2.1 25 10))] s (fun r1 s1 => ((¬ r1 = (Int32.ofInt 5) → wc_Machine_findAlternative_20 d x1 (Int32.ofInt 0) s1 Q) ∧ (r1 = (Int32.ofInt 5) → wc_Machine_findAlternative_20 d x1 (Int32.ofInt 1) s1 Q)))
set_option maxRecDepth 20000 in
theorem wc_Machine_findAlternative_ok {d : Nat} {x1 : Int32} {s : cf_S} {Q : Int32 → cf_S → Prop} (h : wc_Machine_findAlternative d x1 s Q) : cf_I (d + 10) 188 [(0, .ref 25), (1, .int x1)] s Q := by
  unfold wc_Machine_findAlternative at h
  unfold cf_I
  refine cf_R_w rp_188 (rf_bk am_t188 0 4) 0 [(0, .ref 25), (1, .int x1)] [] s (by repeat (first | exact trivial | refine ⟨rfl, ?_⟩)) (by decide +kernel) ?_
  refine cf_R_call (pc := 8) (q := ([.ref 26, .long (s.2.1 25 10)], [])) rp_188 rfl rfl (by decide) (by decide) rp_139 rfl (Nat.le_of_ble_eq_true rfl) ⟨rfl, Nat.le_of_ble_eq_true rfl⟩ h (fun v s1 h => ?_)
  obtain ⟨r1, rfl, h⟩ := h
  refine cf_R_w rp_188 (rf_bk am_t188 5 2) 11 [(0, .ref 25), (1, .int x1)] [.int r1] s1 (by repeat (first | exact trivial | refine ⟨rfl, ?_⟩)) (by decide +kernel) ?_
  refine cf_R_if (b := am_cnd .ne r1 (Int32.ofInt 5)) (p := 19) (q := 15) (fun hb => ?_) (fun hb => ?_)
  · replace h := h.1 (of_decide_eq_true hb)
    refine cf_R_w rp_188 (rf_bk am_t188 9 1) 19 [(0, .ref 25), (1, .int x1)] [] s1 (by repeat (first | exact trivial | refine ⟨rfl, ?_⟩)) (by decide +kernel) ?_
    exact cf_R_le (l := [(0, .ref 25), (1, .int x1)]) rfl rfl (⟨rfl, rfl, trivial⟩) (wc_Machine_findAlternative_20_ok h)
  · replace h := h.2 (Decidable.not_not.mp (of_decide_eq_false hb))
    refine cf_R_w rp_188 (rf_bk am_t188 7 2) 15 [(0, .ref 25), (1, .int x1)] [] s1 (by repeat (first | exact trivial | refine ⟨rfl, ?_⟩)) (by decide +kernel) ?_
    exact cf_R_le (l := [(0, .ref 25), (1, .int x1)]) rfl rfl (⟨rfl, rfl, trivial⟩) (wc_Machine_findAlternative_20_ok h)
/-- LazyHouse$Machine.isFor (IJI)Z, from 0 on -/
def wc_Machine_isFor (d : Nat) (x1 : Int32) (x2 : Int64) (x4 : Int32) (s : cf_S) (Q : Int32 → cf_S → Prop) : Prop := (((tb_get s 18 x1 (Int32.ofInt 0)) = 13 → ((¬ (lg_cmp x2 (rf_word (Int32.ofInt 0) (tb_get s 18 x1 (Int32.ofInt 1)))) = 0 → Q (Int32.ofInt 0) s) ∧ ((lg_cmp x2 (rf_word (Int32.ofInt 0) (tb_get s 18 x1 (Int32.ofInt 1)))) = 0 → Q (Int32.ofInt 1) s))) ∧ (¬ ((tb_get s 18 x1 (Int32.ofInt 0)) = 13) → (((tb_get s 18 x1 (Int32.ofInt 0)) = 15 → Q (Int32.ofInt 1) s) ∧ (¬ ((tb_get s 18 x1 (Int32.ofInt 0)) = 15) → ((¬ (lg_cmp x2 (rf_word (Int32.ofInt 1) (tb_get s 18 x1 (Int32.ofInt 1)))) = 0 → Q (Int32.ofInt 0) s) ∧ ((lg_cmp x2 (rf_word (Int32.ofInt 1) (tb_get s 18 x1 (Int32.ofInt 1)))) = 0 → ((¬ x4 = (tb_get s 18 x1 (Int32.ofInt 4)) → Q (Int32.ofInt 0) s) ∧ (x4 = (tb_get s 18 x1 (Int32.ofInt 4)) → Q (Int32.ofInt 1) s))))))))
set_option maxRecDepth 20000 in
theorem wc_Machine_isFor_ok {d : Nat} {x1 : Int32} {x2 : Int64} {x4 : Int32} {s : cf_S} {Q : Int32 → cf_S → Prop} (h : wc_Machine_isFor d x1 x2 x4 s Q) : cf_I (d + 10) 189 [(0, .ref 25), (1, .int x1), (2, .long x2), (4, .int x4)] s Q := by
  unfold wc_Machine_isFor at h
  unfold cf_I
  refine cf_R_w rp_189 (rf_bk am_t189 0 4) 0 [(0, .ref 25), (1, .int x1), (2, .long x2), (4, .int x4)] [] s (by repeat (first | exact trivial | refine ⟨rfl, ?_⟩)) (by decide +kernel) ?_
  refine cf_R_prim (pc := 6) (q := ([.ref 18, .int x1, .int (Int32.ofInt 1)], [])) rp_189 rfl rfl (by decide) (by decide) rp_273 rfl (Nat.le_of_ble_eq_true rfl) ⟨rfl, Nat.le_of_ble_eq_true rfl⟩ (cq_get rfl) ?_
  refine cf_R_w rp_189 (rf_bk am_t189 5 5) 9 [(0, .ref 25), (1, .int x1), (2, .long x2), (4, .int x4)] [.int (tb_get s 18 x1 (Int32.ofInt 1))] s (by repeat (first | exact trivial | refine ⟨rfl, ?_⟩)) (by decide +kernel) ?_
  refine cf_R_prim (pc := 17) (q := ([.ref 18, .int x1, .int (Int32.ofInt 0)], [])) rp_189 rfl rfl (by decide) (by decide) rp_273 rfl (Nat.le_of_ble_eq_true rfl) ⟨rfl, Nat.le_of_ble_eq_true rfl⟩ (cq_get rfl) ?_
  refine cf_R_w rp_189 (rf_bk am_t189 11 1) 20 [(5, .int (tb_get s 18 x1 (Int32.ofInt 1))), (0, .ref 25), (1, .int x1), (2, .long x2), (4, .int x4)] [.int (tb_get s 18 x1 (Int32.ofInt 0))] s (by repeat (first | exact trivial | refine ⟨rfl, ?_⟩)) (by decide +kernel) ?_
  refine cf_R_sw (fun hb => ?_) (fun hb => ?_)
  · replace h := h.1 hb
    refine cf_R_w rp_189 (rf_bk am_t189 14 3) 50 [(5, .int (tb_get s 18 x1 (Int32.ofInt 1))), (0, .ref 25), (1, .int x1), (2, .long x2), (4, .int x4)] [] s (by repeat (first | exact trivial | refine ⟨rfl, ?_⟩)) (by decide +kernel) ?_
    refine cf_R_prim (pc := 54) (q := ([.int (Int32.ofInt 0), .int (tb_get s 18 x1 (Int32.ofInt 1))], [.long x2])) rp_189 rfl rfl (by decide) (by decide) rp_275 rfl (Nat.le_of_ble_eq_true rfl) ⟨rfl, Nat.le_of_ble_eq_true rfl⟩ (cq_of) ?_
    refine cf_R_w rp_189 (rf_bk am_t189 18 2) 57 [(5, .int (tb_get s 18 x1 (Int32.ofInt 1))), (0, .ref 25), (1, .int x1), (2, .long x2), (4, .int x4)] [.long (rf_word (Int32.ofInt 0) (tb_get s 18 x1 (Int32.ofInt 1))), .long x2] s (by repeat (first | exact trivial | refine ⟨rfl, ?_⟩)) (by decide +kernel) ?_
    refine cf_R_if (b := am_cnd .ne (lg_cmp x2 (rf_word (Int32.ofInt 0) (tb_get s 18 x1 (Int32.ofInt 1)))) 0) (p := 65) (q := 61) (fun hb => ?_) (fun hb => ?_)
    · replace h := h.1 (of_decide_eq_true hb)
      refine cf_R_w rp_189 (rf_bk am_t189 22 1) 65 [(5, .int (tb_get s 18 x1 (Int32.ofInt 1))), (0, .ref 25), (1, .int x1), (2, .long x2), (4, .int x4)] [] s (by repeat (first | exact trivial | refine ⟨rfl, ?_⟩)) (by decide +kernel) ?_
      exact cf_R_ret (pc := 66) (v := some (.int (Int32.ofInt 0))) rp_189 rfl rfl rfl ⟨_, rfl, h⟩
    · replace h := h.2 (Decidable.not_not.mp (of_decide_eq_false hb))
      refine cf_R_w rp_189 (rf_bk am_t189 20 2) 61 [(5, .int (tb_get s 18 x1 (Int32.ofInt 1))), (0, .ref 25), (1, .int x1), (2, .long x2), (4, .int x4)] [] s (by repeat (first | exact trivial | refine ⟨rfl, ?_⟩)) (by decide +kernel) ?_
      exact cf_R_ret (pc := 66) (v := some (.int (Int32.ofInt 1))) rp_189 rfl rfl rfl ⟨_, rfl, h⟩
  replace h := h.2 hb
  refine cf_R_sw (fun hb => ?_) (fun hb => ?_)
  · replace h := h.1 hb
    refine cf_R_w rp_189 (rf_bk am_t189 12 1) 48 [(5, .int (tb_get s 18 x1 (Int32.ofInt 1))), (0, .ref 25), (1, .int x1), (2, .long x2), (4, .int x4)] [] s (by repeat (first | exact trivial | refine ⟨rfl, ?_⟩)) (by decide +kernel) ?_
    exact cf_R_ret (pc := 49) (v := some (.int (Int32.ofInt 1))) rp_189 rfl rfl rfl ⟨_, rfl, h⟩
  replace h := h.2 hb
  show cf_R (d + 10) 189 (67, _, _, _) _
  refine cf_R_w rp_189 (rf_bk am_t189 24 3) 67 [(5, .int (tb_get s 18 x1 (Int32.ofInt 1))), (0, .ref 25), (1, .int x1), (2, .long x2), (4, .int x4)] [] s (by repeat (first | exact trivial | refine ⟨rfl, ?_⟩)) (by decide +kernel) ?_
  refine cf_R_prim (pc := 71) (q := ([.int (Int32.ofInt 1), .int (tb_get s 18 x1 (Int32.ofInt 1))], [.long x2])) rp_189 rfl rfl (by decide) (by decide) rp_275 rfl (Nat.le_of_ble_eq_true rfl) ⟨rfl, Nat.le_of_ble_eq_true rfl⟩ (cq_of) ?_
  refine cf_R_w rp_189 (rf_bk am_t189 28 2) 74 [(5, .int (tb_get s 18 x1 (Int32.ofInt 1))), (0, .ref 25), (1, .int x1), (2, .long x2), (4, .int x4)] [.long (rf_word (Int32.ofInt 1) (tb_get s 18 x1 (Int32.ofInt 1))), .long x2] s (by repeat (first | exact trivial | refine ⟨rfl, ?_⟩)) (by decide +kernel) ?_
  refine cf_R_if (b := am_cnd .ne (lg_cmp x2 (rf_word (Int32.ofInt 1) (tb_get s 18 x1 (Int32.ofInt 1)))) 0) (p := 96) (q := 78) (fun hb => ?_) (fun hb => ?_)
  · replace h := h.1 (of_decide_eq_true hb)
    refine cf_R_w rp_189 (rf_bk am_t189 39 1) 96 [(5, .int (tb_get s 18 x1 (Int32.ofInt 1))), (0, .ref 25), (1, .int x1), (2, .long x2), (4, .int x4)] [] s (by repeat (first | exact trivial | refine ⟨rfl, ?_⟩)) (by decide +kernel) ?_
    exact cf_R_ret (pc := 97) (v := some (.int (Int32.ofInt 0))) rp_189 rfl rfl rfl ⟨_, rfl, h⟩
  · replace h := h.2 (Decidable.not_not.mp (of_decide_eq_false hb))
    refine cf_R_w rp_189 (rf_bk am_t189 30 5) 78 [(5, .int (tb_get s 18 x1 (Int32.ofInt 1))), (0, .ref 25), (1, .int x1), (2, .long x2), (4, .int x4)] [] s (by repeat (first | exact trivial | refine ⟨rfl, ?_⟩)) (by decide +kernel) ?_
    refine cf_R_prim (pc := 86) (q := ([.ref 18, .int x1, .int (Int32.ofInt 4)], [.int x4])) rp_189 rfl rfl (by decide) (by decide) rp_273 rfl (Nat.le_of_ble_eq_true rfl) ⟨rfl, Nat.le_of_ble_eq_true rfl⟩ (cq_get rfl) ?_
    refine cf_R_w rp_189 (rf_bk am_t189 36 1) 89 [(5, .int (tb_get s 18 x1 (Int32.ofInt 1))), (0, .ref 25), (1, .int x1), (2, .long x2), (4, .int x4)] [.int (tb_get s 18 x1 (Int32.ofInt 4)), .int x4] s (by repeat (first | exact trivial | refine ⟨rfl, ?_⟩)) (by decide +kernel) ?_
    refine cf_R_if (b := am_cnd .ne x4 (tb_get s 18 x1 (Int32.ofInt 4))) (p := 96) (q := 92) (fun hb => ?_) (fun hb => ?_)
    · replace h := h.1 (of_decide_eq_true hb)
      refine cf_R_w rp_189 (rf_bk am_t189 39 1) 96 [(5, .int (tb_get s 18 x1 (Int32.ofInt 1))), (0, .ref 25), (1, .int x1), (2, .long x2), (4, .int x4)] [] s (by repeat (first | exact trivial | refine ⟨rfl, ?_⟩)) (by decide +kernel) ?_
      exact cf_R_ret (pc := 97) (v := some (.int (Int32.ofInt 0))) rp_189 rfl rfl rfl ⟨_, rfl, h⟩
    · replace h := h.2 (Decidable.not_not.mp (of_decide_eq_false hb))
      refine cf_R_w rp_189 (rf_bk am_t189 37 2) 92 [(5, .int (tb_get s 18 x1 (Int32.ofInt 1))), (0, .ref 25), (1, .int x1), (2, .long x2), (4, .int x4)] [] s (by repeat (first | exact trivial | refine ⟨rfl, ?_⟩)) (by decide +kernel) ?_
      exact cf_R_ret (pc := 97) (v := some (.int (Int32.ofInt 1))) rp_189 rfl rfl rfl ⟨_, rfl, h⟩
/-- LazyHouse$Machine.giveToLeft ()V, from 0 on -/
def wc_Machine_giveToLeft (d : Nat) (s : cf_S) (Q : cf_S → Prop) : Prop := (((rf_isOf (s.2.1 25 10)) = 0 → cf_I (d + 9) 262 [(0, .ref 31)] s (fun r1 s1 => cf_V (d + 9) 181 [(0, .ref 25), (1, .int (tb_get s1 18 r1 (Int32.ofInt 3)))] s1 (fun s2 => cf_V (d + 9) 266 [(0, .ref 31)] s2 (fun s3 => cf_V (d + 9) 260 [(0, .ref 31), (1, .int (Int32.ofInt 4)), (2, .int (tb_get s3 18 r1 (Int32.ofInt 1))), (3, .int (Int32.ofInt 1))] s3 (fun s4 => cf_V (d + 9) 265 [(0, .ref 31), (1, .int (Int32.ofInt 0)), (2, .long (s4.2.1 25 10))] s4 (fun s5 => cf_V (d + 9) 161 [(0, .ref 25), (1, .int (tb_get s1 18 r1 (Int32.ofInt 3)))] s5 (fun s6 => Q s6))))))) ∧ (¬ ((rf_isOf (s.2.1 25 10)) = 0) → cf_V (d + 9) 164 [(0, .ref 25), (1, .int (Int32.ofInt 4))] s (fun s7 => Q s7)))
set_option maxRecDepth 20000 in
theorem wc_Machine_giveToLeft_ok {d : Nat} {s : cf_S} {Q : cf_S → Prop} (h : wc_Machine_giveToLeft d s Q) : cf_V (d + 10) 190 [(0, .ref 25)] s Q := by
  unfold wc_Machine_giveToLeft at h
  unfold cf_V
  refine cf_R_w rp_190 (rf_bk am_t190 0 2) 0 [(0, .ref 25)] [] s (by repeat (first | exact trivial | refine ⟨rfl, ?_⟩)) (by decide +kernel) ?_
  refine cf_R_prim (pc := 4) (q := ([.long (s.2.1 25 10)], [])) rp_190 rfl rfl (by decide) (by decide) rp_276 rfl (Nat.le_of_ble_eq_true rfl) ⟨rfl, Nat.le_of_ble_eq_true rfl⟩ (cq_tag) ?_
  refine cf_R_w rp_190 (rf_bk am_t190 3 1) 7 [(0, .ref 25)] [.int (rf_isOf (s.2.1 25 10))] s (by repeat (first | exact trivial | refine ⟨rfl, ?_⟩)) (by decide +kernel) ?_
  refine cf_R_if (b := am_cnd .eq (rf_isOf (s.2.1 25 10)) 0) (p := 16) (q := 10) (fun hb => ?_) (fun hb => ?_)
  · replace h := h.1 (of_decide_eq_true hb)
    refine cf_R_w rp_190 (rf_bk am_t190 8 2) 16 [(0, .ref 25)] [] s (by repeat (first | exact trivial | refine ⟨rfl, ?_⟩)) (by decide +kernel) ?_
    refine cf_R_call (pc := 20) (q := ([.ref 31], [])) rp_190 rfl rfl (by decide) (by decide) rp_262 rfl (Nat.le_of_ble_eq_true rfl) ⟨rfl, Nat.le_of_ble_eq_true rfl⟩ h (fun v s1 h => ?_)
    obtain ⟨r1, rfl, h⟩ := h
    refine cf_R_w rp_190 (rf_bk am_t190 11 5) 23 [(0, .ref 25)] [.int r1] s1 (by repeat (first | exact trivial | refine ⟨rfl, ?_⟩)) (by decide +kernel) ?_
    refine cf_R_prim (pc := 30) (q := ([.ref 18, .int r1, .int (Int32.ofInt 3)], [])) rp_190 rfl rfl (by decide) (by decide) rp_273 rfl (Nat.le_of_ble_eq_true rfl) ⟨rfl, Nat.le_of_ble_eq_true rfl⟩ (cq_get rfl) ?_
    refine cf_R_w rp_190 (rf_bk am_t190 17 3) 33 [(1, .int r1), (0, .ref 25)] [.int (tb_get s1 18 r1 (Int32.ofInt 3))] s1 (by repeat (first | exact trivial | refine ⟨rfl, ?_⟩)) (by decide +kernel) ?_
    refine cf_R_call (pc := 36) (q := ([.ref 25, .int (tb_get s1 18 r1 (Int32.ofInt 3))], [])) rp_190 rfl rfl (by decide) (by decide) rp_181 rfl (Nat.le_of_ble_eq_true rfl) ⟨rfl, Nat.le_of_ble_eq_true rfl⟩ h (fun v s2 h => ?_)
    obtain ⟨rfl, h⟩ := h
    refine cf_R_w rp_190 (rf_bk am_t190 21 2) 39 [(2, .int (tb_get s1 18 r1 (Int32.ofInt 3))), (1, .int r1), (0, .ref 25)] [] s2 (by repeat (first | exact trivial | refine ⟨rfl, ?_⟩)) (by decide +kernel) ?_
    refine cf_R_call (pc := 43) (q := ([.ref 31], [])) rp_190 rfl rfl (by decide) (by decide) rp_266 rfl (Nat.le_of_ble_eq_true rfl) ⟨rfl, Nat.le_of_ble_eq_true rfl⟩ h (fun v s3 h => ?_)
    obtain ⟨rfl, h⟩ := h
    refine cf_R_w rp_190 (rf_bk am_t190 24 7) 46 [(2, .int (tb_get s1 18 r1 (Int32.ofInt 3))), (1, .int r1), (0, .ref 25)] [] s3 (by repeat (first | exact trivial | refine ⟨rfl, ?_⟩)) (by decide +kernel) ?_
    refine cf_R_prim (pc := 57) (q := ([.ref 18, .int r1, .int (Int32.ofInt 1)], [.int (Int32.ofInt 4), .ref 31])) rp_190 rfl rfl (by decide) (by decide) rp_273 rfl (Nat.le_of_ble_eq_true rfl) ⟨rfl, Nat.le_of_ble_eq_true rfl⟩ (cq_get rfl) ?_
    refine cf_R_w rp_190 (rf_bk am_t190 32 1) 60 [(2, .int (tb_get s1 18 r1 (Int32.ofInt 3))), (1, .int r1), (0, .ref 25)] [.int (tb_get s3 18 r1 (Int32.ofInt 1)), .int (Int32.ofInt 4), .ref 31] s3 (by repeat (first | exact trivial | refine ⟨rfl, ?_⟩)) (by decide +kernel) ?_
    refine cf_R_call (pc := 61) (q := ([.ref 31, .int (Int32.ofInt 4), .int (tb_get s3 18 r1 (Int32.ofInt 1)), .int (Int32.ofInt 1)], [])) rp_190 rfl rfl (by decide) (by decide) rp_260 rfl (Nat.le_of_ble_eq_true rfl) ⟨rfl, Nat.le_of_ble_eq_true rfl⟩ h (fun v s4 h => ?_)
    obtain ⟨rfl, h⟩ := h
    refine cf_R_w rp_190 (rf_bk am_t190 34 5) 64 [(2, .int (tb_get s1 18 r1 (Int32.ofInt 3))), (1, .int r1), (0, .ref 25)] [] s4 (by repeat (first | exact trivial | refine ⟨rfl, ?_⟩)) (by decide +kernel) ?_
    refine cf_R_call (pc := 73) (q := ([.ref 31, .int (Int32.ofInt 0), .long (s4.2.1 25 10)], [])) rp_190 rfl rfl (by decide) (by decide) rp_265 rfl (Nat.le_of_ble_eq_true rfl) ⟨rfl, Nat.le_of_ble_eq_true rfl⟩ h (fun v s5 h => ?_)
    obtain ⟨rfl, h⟩ := h
    refine cf_R_w rp_190 (rf_bk am_t190 40 2) 76 [(2, .int (tb_get s1 18 r1 (Int32.ofInt 3))), (1, .int r1), (0, .ref 25)] [] s5 (by repeat (first | exact trivial | refine ⟨rfl, ?_⟩)) (by decide +kernel) ?_
    refine cf_R_call (pc := 78) (q := ([.ref 25, .int (tb_get s1 18 r1 (Int32.ofInt 3))], [])) rp_190 rfl rfl (by decide) (by decide) rp_161 rfl (Nat.le_of_ble_eq_true rfl) ⟨rfl, Nat.le_of_ble_eq_true rfl⟩ h (fun v s6 h => ?_)
    obtain ⟨rfl, h⟩ := h
    exact cf_R_ret (pc := 81) rp_190 rfl rfl rfl ⟨rfl, h⟩
  · replace h := h.2 (of_decide_eq_false hb)
    refine cf_R_w rp_190 (rf_bk am_t190 4 2) 10 [(0, .ref 25)] [] s (by repeat (first | exact trivial | refine ⟨rfl, ?_⟩)) (by decide +kernel) ?_
    refine cf_R_call (pc := 12) (q := ([.ref 25, .int (Int32.ofInt 4)], [])) rp_190 rfl rfl (by decide) (by decide) rp_164 rfl (Nat.le_of_ble_eq_true rfl) ⟨rfl, Nat.le_of_ble_eq_true rfl⟩ h (fun v s7 h => ?_)
    obtain ⟨rfl, h⟩ := h
    exact cf_R_ret (pc := 15) rp_190 rfl rfl rfl ⟨rfl, h⟩
/-- LazyHouse$Machine.giveToRight ()V, from 116 on -/
def wc_Machine_giveToRight_116 (d : Nat) (y0 : Int32) (s : cf_S) (Q : cf_S → Prop) : Prop := cf_J (d + 9) 192 [(0, .int y0)] s (fun r1 s1 => cf_V (d + 9) 163 [(0, .ref 25), (1, .long r1)] s1 (fun s2 => Q s2))
set_option maxRecDepth 20000 in
theorem wc_Machine_giveToRight_116_ok {d : Nat} {y0 : Int32} {s : cf_S} {Q : cf_S → Prop} (h : wc_Machine_giveToRight_116 d y0 s Q) : cf_R (d + 10) 191 (116, [], [.int y0, .ref 25], s) (cf_qV Q) := by
  unfold wc_Machine_giveToRight_116 at h
  refine cf_R_call (pc := 116) (q := ([.int y0], [.ref 25])) rp_191 rfl rfl (by decide) (by decide) rp_192 rfl (Nat.le_of_ble_eq_true rfl) ⟨rfl, Nat.le_of_ble_eq_true rfl⟩ h (fun v s1 h => ?_)
  obtain ⟨r1, rfl, h⟩ := h
  refine cf_R_call (pc := 119) (q := ([.ref 25, .long r1], [])) rp_191 rfl rfl (by decide) (by decide) rp_163 rfl (Nat.le_of_ble_eq_true rfl) ⟨rfl, Nat.le_of_ble_eq_true rfl⟩ h (fun v s2 h => ?_)
  obtain ⟨rfl, h⟩ := h
  refine cf_R_w rp_191 (rf_bk am_t191 62 1) 122 [] [] s2 (by repeat (first | exact trivial | refine ⟨rfl, ?_⟩)) (by decide +kernel) ?_
  exact cf_R_ret (pc := 139) rp_191 rfl rfl rfl ⟨rfl, h⟩
/-- LazyHouse$Machine.giveToRight ()V, from 90 on -/
def wc_Machine_giveToRight_90 (d : Nat) (y0 : Int32) (s : cf_S) (Q : cf_S → Prop) : Prop := cf_J (d + 9) 192 [(0, .int y0)] s (fun r1 s1 => cf_V (d + 9) 163 [(0, .ref 25), (1, .long r1)] s1 (fun s2 => Q s2))
set_option maxRecDepth 20000 in
theorem wc_Machine_giveToRight_90_ok {d : Nat} {y0 : Int32} {s : cf_S} {Q : cf_S → Prop} (h : wc_Machine_giveToRight_90 d y0 s Q) : cf_R (d + 10) 191 (90, [], [.int y0, .ref 25], s) (cf_qV Q) := by
  unfold wc_Machine_giveToRight_90 at h
  refine cf_R_call (pc := 90) (q := ([.int y0], [.ref 25])) rp_191 rfl rfl (by decide) (by decide) rp_192 rfl (Nat.le_of_ble_eq_true rfl) ⟨rfl, Nat.le_of_ble_eq_true rfl⟩ h (fun v s1 h => ?_)
  obtain ⟨r1, rfl, h⟩ := h
  refine cf_R_call (pc := 93) (q := ([.ref 25, .long r1], [])) rp_191 rfl rfl (by decide) (by decide) rp_163 rfl (Nat.le_of_ble_eq_true rfl) ⟨rfl, Nat.le_of_ble_eq_true rfl⟩ h (fun v s2 h => ?_)
  obtain ⟨rfl, h⟩ := h
  refine cf_R_w rp_191 (rf_bk am_t191 49 1) 96 [] [] s2 (by repeat (first | exact trivial | refine ⟨rfl, ?_⟩)) (by decide +kernel) ?_
  exact cf_R_ret (pc := 139) rp_191 rfl rfl rfl ⟨rfl, h⟩
/-- LazyHouse$Machine.giveToRight ()V, from 66 on -/
def wc_Machine_giveToRight_66 (d : Nat) (x1 : Int32) (x2 : Int32) (x3 : Int32) (s : cf_S) (Q : cf_S → Prop) : Prop := cf_V (d + 9) 266 [(0, .ref 31)] s (fun s1 => ((¬ x1 = ((Int8.ofInt 10).toInt32) → ((¬ x1 = ((Int8.ofInt 60).toInt32) → cf_I (d + 9) 193 [(0, .int x1), (1, .int x2), (2, .int x3)] s1 (fun r2 s2 => cf_V (d + 9) 163 [(0, .ref 25), (1, .long (rf_word (Int32.ofInt 0) r2))] s2 (fun s3 => Q s3))) ∧ (x1 = ((Int8.ofInt 60).toInt32) → ((x3 ≤ x2 → wc_Machine_giveToRight_116 d (Int32.ofInt 0) s1 Q) ∧ (¬ (x3 ≤ x2) → wc_Machine_giveToRight_116 d (Int32.ofInt 1) s1 Q))))) ∧ (x1 = ((Int8.ofInt 10).toInt32) → ((¬ x2 = x3 → wc_Machine_giveToRight_90 d (Int32.ofInt 0) s1 Q) ∧ (x2 = x3 → wc_Machine_giveToRight_90 d (Int32.ofInt 1) s1 Q)))))
set_option maxRecDepth 20000 in
theorem wc_Machine_giveToRight_66_ok {d : Nat} {x1 : Int32} {x2 : Int32} {x3 : Int32} {s : cf_S} {Q : cf_S → Prop} (h : wc_Machine_giveToRight_66 d x1 x2 x3 s Q) : cf_R (d + 10) 191 (66, [(0, .ref 25), (1, .int x1), (2, .int x2), (3, .int x3)], [], s) (cf_qV Q) := by
  unfold wc_Machine_giveToRight_66 at h
  refine cf_R_w rp_191 (rf_bk am_t191 34 2) 66 [(0, .ref 25), (1, .int x1), (2, .int x2), (3, .int x3)] [] s (by repeat (first | exact trivial | refine ⟨rfl, ?_⟩)) (by decide +kernel) ?_
  refine cf_R_call (pc := 70) (q := ([.ref 31], [])) rp_191 rfl rfl (by decide) (by decide) rp_266 rfl (Nat.le_of_ble_eq_true rfl) ⟨rfl, Nat.le_of_ble_eq_true rfl⟩ h (fun v s1 h => ?_)
  obtain ⟨rfl, h⟩ := h
  refine cf_R_w rp_191 (rf_bk am_t191 37 3) 73 [(0, .ref 25), (1, .int x1), (2, .int x2), (3, .int x3)] [] s1 (by repeat (first | exact trivial | refine ⟨rfl, ?_⟩)) (by decide +kernel) ?_
  refine cf_R_if (b := am_cnd .ne x1 ((Int8.ofInt 10).toInt32)) (p := 99) (q := 79) (fun hb => ?_) (fun hb => ?_)
  · replace h := h.1 (of_decide_eq_true hb)
    refine cf_R_w rp_191 (rf_bk am_t191 50 3) 99 [(0, .ref 25), (1, .int x1), (2, .int x2), (3, .int x3)] [] s1 (by repeat (first | exact trivial | refine ⟨rfl, ?_⟩)) (by decide +kernel) ?_
    refine cf_R_if (b := am_cnd .ne x1 ((Int8.ofInt 60).toInt32)) (p := 125) (q := 105) (fun hb => ?_) (fun hb => ?_)
    · replace h := h.1 (of_decide_eq_true hb)
      refine cf_R_w rp_191 (rf_bk am_t191 63 5) 125 [(0, .ref 25), (1, .int x1), (2, .int x2), (3, .int x3)] [] s1 (by repeat (first | exact trivial | refine ⟨rfl, ?_⟩)) (by decide +kernel) ?_
      refine cf_R_call (pc := 130) (q := ([.int x1, .int x2, .int x3], [.int (Int32.ofInt 0), .ref 25])) rp_191 rfl rfl (by decide) (by decide) rp_193 rfl (Nat.le_of_ble_eq_true rfl) ⟨rfl, Nat.le_of_ble_eq_true rfl⟩ h (fun v s2 h => ?_)
      obtain ⟨r2, rfl, h⟩ := h
      refine cf_R_prim (pc := 133) (q := ([.int (Int32.ofInt 0), .int r2], [.ref 25])) rp_191 rfl rfl (by decide) (by decide) rp_275 rfl (Nat.le_of_ble_eq_true rfl) ⟨rfl, Nat.le_of_ble_eq_true rfl⟩ (cq_of) ?_
      refine cf_R_call (pc := 136) (q := ([.ref 25, .long (rf_word (Int32.ofInt 0) r2)], [])) rp_191 rfl rfl (by decide) (by decide) rp_163 rfl (Nat.le_of_ble_eq_true rfl) ⟨rfl, Nat.le_of_ble_eq_true rfl⟩ h (fun v s3 h => ?_)
      obtain ⟨rfl, h⟩ := h
      exact cf_R_ret (pc := 139) rp_191 rfl rfl rfl ⟨rfl, h⟩
    · replace h := h.2 (Decidable.not_not.mp (of_decide_eq_false hb))
      refine cf_R_w rp_191 (rf_bk am_t191 53 4) 105 [(0, .ref 25), (1, .int x1), (2, .int x2), (3, .int x3)] [] s1 (by repeat (first | exact trivial | refine ⟨rfl, ?_⟩)) (by decide +kernel) ?_
      refine cf_R_if (b := am_cnd .ge x2 x3) (p := 115) (q := 111) (fun hb => ?_) (fun hb => ?_)
      · replace h := h.1 (of_decide_eq_true hb)
        refine cf_R_w rp_191 (rf_bk am_t191 59 1) 115 [(0, .ref 25), (1, .int x1), (2, .int x2), (3, .int x3)] [.ref 25] s1 (by repeat (first | exact trivial | refine ⟨rfl, ?_⟩)) (by decide +kernel) ?_
        exact cf_R_le (l := []) rfl rfl trivial (wc_Machine_giveToRight_116_ok h)
      · replace h := h.2 (of_decide_eq_false hb)
        refine cf_R_w rp_191 (rf_bk am_t191 57 2) 111 [(0, .ref 25), (1, .int x1), (2, .int x2), (3, .int x3)] [.ref 25] s1 (by repeat (first | exact trivial | refine ⟨rfl, ?_⟩)) (by decide +kernel) ?_
        exact cf_R_le (l := []) rfl rfl trivial (wc_Machine_giveToRight_116_ok h)
  · replace h := h.2 (Decidable.not_not.mp (of_decide_eq_false hb))
    refine cf_R_w rp_191 (rf_bk am_t191 40 4) 79 [(0, .ref 25), (1, .int x1), (2, .int x2), (3, .int x3)] [] s1 (by repeat (first | exact trivial | refine ⟨rfl, ?_⟩)) (by decide +kernel) ?_
    refine cf_R_if (b := am_cnd .ne x2 x3) (p := 89) (q := 85) (fun hb => ?_) (fun hb => ?_)
    · replace h := h.1 (of_decide_eq_true hb)
      refine cf_R_w rp_191 (rf_bk am_t191 46 1) 89 [(0, .ref 25), (1, .int x1), (2, .int x2), (3, .int x3)] [.ref 25] s1 (by repeat (first | exact trivial | refine ⟨rfl, ?_⟩)) (by decide +kernel) ?_
      exact cf_R_le (l := []) rfl rfl trivial (wc_Machine_giveToRight_90_ok h)
    · replace h := h.2 (Decidable.not_not.mp (of_decide_eq_false hb))
      refine cf_R_w rp_191 (rf_bk am_t191 44 2) 85 [(0, .ref 25), (1, .int x1), (2, .int x2), (3, .int x3)] [.ref 25] s1 (by repeat (first | exact trivial | refine ⟨rfl, ?_⟩)) (by decide +kernel) ?_
      exact cf_R_le (l := []) rfl rfl trivial (wc_Machine_giveToRight_90_ok h)
/-- LazyHouse$Machine.giveToRight ()V, from 60 on -/
def wc_Machine_giveToRight_60 (d : Nat) (s : cf_S) (Q : cf_S → Prop) : Prop := cf_V (d + 9) 164 [(0, .ref 25), (1, .int (Int32.ofInt 5))] s (fun s1 => Q s1)
set_option maxRecDepth 20000 in
theorem wc_Machine_giveToRight_60_ok {d : Nat} {s : cf_S} {Q : cf_S → Prop} (h : wc_Machine_giveToRight_60 d s Q) : cf_R (d + 10) 191 (60, [(0, .ref 25)], [], s) (cf_qV Q) := by
  unfold wc_Machine_giveToRight_60 at h
  refine cf_R_w rp_191 (rf_bk am_t191 30 2) 60 [(0, .ref 25)] [] s (by repeat (first | exact trivial | refine ⟨rfl, ?_⟩)) (by decide +kernel) ?_
  refine cf_R_call (pc := 62) (q := ([.ref 25, .int (Int32.ofInt 5)], [])) rp_191 rfl rfl (by decide) (by decide) rp_164 rfl (Nat.le_of_ble_eq_true rfl) ⟨rfl, Nat.le_of_ble_eq_true rfl⟩ h (fun v s1 h => ?_)
  obtain ⟨rfl, h⟩ := h
  exact cf_R_ret (pc := 65) rp_191 rfl rfl rfl ⟨rfl, h⟩
/-- LazyHouse$Machine.giveToRight ()V, from 0 on -/
def wc_Machine_giveToRight (d : Nat) (s : cf_S) (Q : cf_S → Prop) : Prop := (((rf_isOf (s.2.1 25 10)) = 0 → cf_I (d + 9) 262 [(0, .ref 31)] s (fun r1 s1 => cf_J (d + 9) 264 [(0, .ref 31), (1, .int (Int32.ofInt 0))] s1 (fun r2 s2 => ((¬ ((s2.2.1 25 10).toInt32) = 0 → wc_Machine_giveToRight_66 d r1 (r2.toInt32) ((s2.2.1 25 10).toInt32) s2 Q) ∧ (((s2.2.1 25 10).toInt32) = 0 → ((r1 = ((Int8.ofInt 47).toInt32) → wc_Machine_giveToRight_60 d s2 Q) ∧ (¬ (r1 = ((Int8.ofInt 47).toInt32)) → ((¬ r1 = ((Int8.ofInt 37).toInt32) → wc_Machine_giveToRight_66 d r1 (r2.toInt32) ((s2.2.1 25 10).toInt32) s2 Q) ∧ (r1 = ((Int8.ofInt 37).toInt32) → wc_Machine_giveToRight_60 d s2 Q))))))))) ∧ (¬ ((rf_isOf (s.2.1 25 10)) = 0) → cf_V (d + 9) 164 [(0, .ref 25), (1, .int (Int32.ofInt 4))] s (fun s3 => Q s3)))
set_option maxRecDepth 20000 in
theorem wc_Machine_giveToRight_ok {d : Nat} {s : cf_S} {Q : cf_S → Prop} (h : wc_Machine_giveToRight d s Q) : cf_V (d + 10) 191 [(0, .ref 25)] s Q := by
  unfold wc_Machine_giveToRight at h
  unfold cf_V
  refine cf_R_w rp_191 (rf_bk am_t191 0 2) 0 [(0, .ref 25)] [] s (by repeat (first | exact trivial | refine ⟨rfl, ?_⟩)) (by decide +kernel) ?_
  refine cf_R_prim (pc := 4) (q := ([.long (s.2.1 25 10)], [])) rp_191 rfl rfl (by decide) (by decide) rp_276 rfl (Nat.le_of_ble_eq_true rfl) ⟨rfl, Nat.le_of_ble_eq_true rfl⟩ (cq_tag) ?_
  refine cf_R_w rp_191 (rf_bk am_t191 3 1) 7 [(0, .ref 25)] [.int (rf_isOf (s.2.1 25 10))] s (by repeat (first | exact trivial | refine ⟨rfl, ?_⟩)) (by decide +kernel) ?_
  refine cf_R_if (b := am_cnd .eq (rf_isOf (s.2.1 25 10)) 0) (p := 16) (q := 10) (fun hb => ?_) (fun hb => ?_)
  · replace h := h.1 (of_decide_eq_true hb)
    refine cf_R_w rp_191 (rf_bk am_t191 8 2) 16 [(0, .ref 25)] [] s (by repeat (first | exact trivial | refine ⟨rfl, ?_⟩)) (by decide +kernel) ?_
    refine cf_R_call (pc := 20) (q := ([.ref 31], [])) rp_191 rfl rfl (by decide) (by decide) rp_262 rfl (Nat.le_of_ble_eq_true rfl) ⟨rfl, Nat.le_of_ble_eq_true rfl⟩ h (fun v s1 h => ?_)
    obtain ⟨r1, rfl, h⟩ := h
    refine cf_R_w rp_191 (rf_bk am_t191 11 4) 23 [(0, .ref 25)] [.int r1] s1 (by repeat (first | exact trivial | refine ⟨rfl, ?_⟩)) (by decide +kernel) ?_
    refine cf_R_call (pc := 29) (q := ([.ref 31, .int (Int32.ofInt 0)], [])) rp_191 rfl rfl (by decide) (by decide) rp_264 rfl (Nat.le_of_ble_eq_true rfl) ⟨rfl, Nat.le_of_ble_eq_true rfl⟩ h (fun v s2 h => ?_)
    obtain ⟨r2, rfl, h⟩ := h
    refine cf_R_prim (pc := 32) (q := ([.long r2], [])) rp_191 rfl rfl (by decide) (by decide) rp_277 rfl (Nat.le_of_ble_eq_true rfl) ⟨rfl, Nat.le_of_ble_eq_true rfl⟩ (cq_value) ?_
    refine cf_R_w rp_191 (rf_bk am_t191 17 3) 35 [(1, .int r1), (0, .ref 25)] [.int (r2.toInt32)] s2 (by repeat (first | exact trivial | refine ⟨rfl, ?_⟩)) (by decide +kernel) ?_
    refine cf_R_prim (pc := 40) (q := ([.long (s2.2.1 25 10)], [])) rp_191 rfl rfl (by decide) (by decide) rp_277 rfl (Nat.le_of_ble_eq_true rfl) ⟨rfl, Nat.le_of_ble_eq_true rfl⟩ (cq_value) ?_
    refine cf_R_w rp_191 (rf_bk am_t191 21 3) 43 [(2, .int (r2.toInt32)), (1, .int r1), (0, .ref 25)] [.int ((s2.2.1 25 10).toInt32)] s2 (by repeat (first | exact trivial | refine ⟨rfl, ?_⟩)) (by decide +kernel) ?_
    refine cf_R_if (b := am_cnd .ne ((s2.2.1 25 10).toInt32) 0) (p := 66) (q := 48) (fun hb => ?_) (fun hb => ?_)
    · replace h := h.1 (of_decide_eq_true hb)
      exact cf_R_le (l := [(0, .ref 25), (1, .int r1), (2, .int (r2.toInt32)), (3, .int ((s2.2.1 25 10).toInt32))]) rfl rfl (⟨rfl, rfl, rfl, rfl, trivial⟩) (wc_Machine_giveToRight_66_ok h)
    · replace h := h.2 (Decidable.not_not.mp (of_decide_eq_false hb))
      refine cf_R_w rp_191 (rf_bk am_t191 24 3) 48 [(3, .int ((s2.2.1 25 10).toInt32)), (2, .int (r2.toInt32)), (1, .int r1), (0, .ref 25)] [] s2 (by repeat (first | exact trivial | refine ⟨rfl, ?_⟩)) (by decide +kernel) ?_
      refine cf_R_if (b := am_cnd .eq r1 ((Int8.ofInt 47).toInt32)) (p := 60) (q := 54) (fun hb => ?_) (fun hb => ?_)
      · replace h := h.1 (of_decide_eq_true hb)
        exact cf_R_le (l := [(0, .ref 25)]) rfl rfl (⟨rfl, trivial⟩) (wc_Machine_giveToRight_60_ok h)
      · replace h := h.2 (of_decide_eq_false hb)
        refine cf_R_w rp_191 (rf_bk am_t191 27 3) 54 [(3, .int ((s2.2.1 25 10).toInt32)), (2, .int (r2.toInt32)), (1, .int r1), (0, .ref 25)] [] s2 (by repeat (first | exact trivial | refine ⟨rfl, ?_⟩)) (by decide +kernel) ?_
        refine cf_R_if (b := am_cnd .ne r1 ((Int8.ofInt 37).toInt32)) (p := 66) (q := 60) (fun hb => ?_) (fun hb => ?_)
        · replace h := h.1 (of_decide_eq_true hb)
          exact cf_R_le (l := [(0, .ref 25), (1, .int r1), (2, .int (r2.toInt32)), (3, .int ((s2.2.1 25 10).toInt32))]) rfl rfl (⟨rfl, rfl, rfl, rfl, trivial⟩) (wc_Machine_giveToRight_66_ok h)
        · replace h := h.2 (Decidable.not_not.mp (of_decide_eq_false hb))
          exact cf_R_le (l := [(0, .ref 25)]) rfl rfl (⟨rfl, trivial⟩) (wc_Machine_giveToRight_60_ok h)
  · replace h := h.2 (of_decide_eq_false hb)
    refine cf_R_w rp_191 (rf_bk am_t191 4 2) 10 [(0, .ref 25)] [] s (by repeat (first | exact trivial | refine ⟨rfl, ?_⟩)) (by decide +kernel) ?_
    refine cf_R_call (pc := 12) (q := ([.ref 25, .int (Int32.ofInt 4)], [])) rp_191 rfl rfl (by decide) (by decide) rp_164 rfl (Nat.le_of_ble_eq_true rfl) ⟨rfl, Nat.le_of_ble_eq_true rfl⟩ h (fun v s3 h => ?_)
    obtain ⟨rfl, h⟩ := h
    exact cf_R_ret (pc := 15) rp_191 rfl rfl rfl ⟨rfl, h⟩
/-- LazyHouse$Machine.truth (Z)J, from 10 on -/
def wc_Machine_truth_10 (d : Nat) (y0 : Int32) (y1 : Int32) (s : cf_S) (Q : Int64 → cf_S → Prop) : Prop := Q (rf_word y1 y0) s
set_option maxRecDepth 20000 in
theorem wc_Machine_truth_10_ok {d : Nat} {y0 : Int32} {y1 : Int32} {s : cf_S} {Q : Int64 → cf_S → Prop} (h : wc_Machine_truth_10 d y0 y1 s Q) : cf_R (d + 10) 192 (10, [], [.int y0, .int y1], s) (cf_qJ Q) := by
  unfold wc_Machine_truth_10 at h
  refine cf_R_prim (pc := 10) (q := ([.int y1, .int y0], [])) rp_192 rfl rfl (by decide) (by decide) rp_275 rfl (Nat.le_of_ble_eq_true rfl) ⟨rfl, Nat.le_of_ble_eq_true rfl⟩ (cq_of) ?_
  exact cf_R_ret (pc := 13) (v := some (.long (rf_word y1 y0))) rp_192 rfl rfl rfl ⟨_, rfl, h⟩
/-- LazyHouse$Machine.truth (Z)J, from 0 on -/
def wc_Machine_truth (d : Nat) (x0 : Int32) (s : cf_S) (Q : Int64 → cf_S → Prop) : Prop := ((x0 = 0 → wc_Machine_truth_10 d (Int32.ofInt 2) (Int32.ofInt 1) s Q) ∧ (¬ (x0 = 0) → wc_Machine_truth_10 d (Int32.ofInt 1) (Int32.ofInt 1) s Q))
set_option maxRecDepth 20000 in
theorem wc_Machine_truth_ok {d : Nat} {x0 : Int32} {s : cf_S} {Q : Int64 → cf_S → Prop} (h : wc_Machine_truth d x0 s Q) : cf_J (d + 10) 192 [(0, .int x0)] s Q := by
  unfold wc_Machine_truth at h
  unfold cf_J
  refine cf_R_w rp_192 (rf_bk am_t192 0 3) 0 [(0, .int x0)] [] s (by repeat (first | exact trivial | refine ⟨rfl, ?_⟩)) (by decide +kernel) ?_
  refine cf_R_if (b := am_cnd .eq x0 0) (p := 9) (q := 5) (fun hb => ?_) (fun hb => ?_)
  · replace h := h.1 (of_decide_eq_true hb)
    refine cf_R_w rp_192 (rf_bk am_t192 5 1) 9 [(0, .int x0)] [.int (Int32.ofInt 1)] s (by repeat (first | exact trivial | refine ⟨rfl, ?_⟩)) (by decide +kernel) ?_
    exact cf_R_le (l := []) rfl rfl trivial (wc_Machine_truth_10_ok h)
  · replace h := h.2 (of_decide_eq_false hb)
    refine cf_R_w rp_192 (rf_bk am_t192 3 2) 5 [(0, .int x0)] [.int (Int32.ofInt 1)] s (by repeat (first | exact trivial | refine ⟨rfl, ?_⟩)) (by decide +kernel) ?_
    exact cf_R_le (l := []) rfl rfl trivial (wc_Machine_truth_10_ok h)
/-- LazyHouse$Machine.reckon (III)I, from 64 on -/
def wc_Machine_reckon_64 (d : Nat) (x1 : Int32) (x2 : Int32) (s : cf_S) (Q : Int32 → cf_S → Prop) : Prop := ((¬ x2 = 0 → (¬ x2 = 0 ∧ Q (x1 - x1 / x2 * x2) s)) ∧ (x2 = 0 → Q (Int32.ofInt 0) s))
set_option maxRecDepth 20000 in
theorem wc_Machine_reckon_64_ok {d : Nat} {x1 : Int32} {x2 : Int32} {s : cf_S} {Q : Int32 → cf_S → Prop} (h : wc_Machine_reckon_64 d x1 x2 s Q) : cf_R d 193 (64, [(1, .int x1), (2, .int x2)], [], s) (cf_qI Q) := by
  unfold wc_Machine_reckon_64 at h
  refine cf_R_w rp_193 (rf_bk am_t193 22 2) 64 [(1, .int x1), (2, .int x2)] [] s (by repeat (first | exact trivial | refine ⟨rfl, ?_⟩)) (by decide +kernel) ?_
  refine cf_R_if (b := am_cnd .ne x2 0) (p := 72) (q := 68) (fun hb => ?_) (fun hb => ?_)
  · replace h := h.1 (of_decide_eq_true hb)
    refine cf_R_w rp_193 (rf_bk am_t193 26 2) 72 [(1, .int x1), (2, .int x2)] [] s (by repeat (first | exact trivial | refine ⟨rfl, ?_⟩)) (by decide +kernel) ?_
    refine cf_R_sk (pc := 74) rp_193 rfl rfl (cf_sk_irem h.1) ?_
    replace h := h.2
    exact cf_R_ret (pc := 75) (v := some (.int (x1 - x1 / x2 * x2))) rp_193 rfl rfl rfl ⟨_, rfl, h⟩
  · replace h := h.2 (Decidable.not_not.mp (of_decide_eq_false hb))
    refine cf_R_w rp_193 (rf_bk am_t193 24 2) 68 [(1, .int x1), (2, .int x2)] [] s (by repeat (first | exact trivial | refine ⟨rfl, ?_⟩)) (by decide +kernel) ?_
    exact cf_R_ret (pc := 75) (v := some (.int (Int32.ofInt 0))) rp_193 rfl rfl rfl ⟨_, rfl, h⟩
/-- LazyHouse$Machine.reckon (III)I, from 0 on -/
def wc_Machine_reckon (d : Nat) (x0 : Int32) (x1 : Int32) (x2 : Int32) (s : cf_S) (Q : Int32 → cf_S → Prop) : Prop := ((x0 = 42 → Q (x1 * x2) s) ∧ (¬ (x0 = 42) → ((x0 = 43 → Q (x1 + x2) s) ∧ (¬ (x0 = 43) → ((x0 = 44 → wc_Machine_reckon_64 d x1 x2 s Q) ∧ (¬ (x0 = 44) → ((x0 = 45 → Q (x1 - x2) s) ∧ (¬ (x0 = 45) → ((x0 = 46 → wc_Machine_reckon_64 d x1 x2 s Q) ∧ (¬ (x0 = 46) → ((x0 = 47 → ((¬ x2 = 0 → (¬ x2 = 0 ∧ Q (x1 / x2) s)) ∧ (x2 = 0 → Q (Int32.ofInt 0) s))) ∧ (¬ (x0 = 47) → wc_Machine_reckon_64 d x1 x2 s Q))))))))))))
set_option maxRecDepth 20000 in
theorem wc_Machine_reckon_ok {d : Nat} {x0 : Int32} {x1 : Int32} {x2 : Int32} {s : cf_S} {Q : Int32 → cf_S → Prop} (h : wc_Machine_reckon d x0 x1 x2 s Q) : cf_I d 193 [(0, .int x0), (1, .int x1), (2, .int x2)] s Q := by
  unfold wc_Machine_reckon at h
  unfold cf_I
  refine cf_R_w rp_193 (rf_bk am_t193 0 2) 0 [(0, .int x0), (1, .int x1), (2, .int x2)] [] s (by repeat (first | exact trivial | refine ⟨rfl, ?_⟩)) (by decide +kernel) ?_
  refine cf_R_sw (fun hb => ?_) (fun hb => ?_)
  · replace h := h.1 hb
    refine cf_R_w rp_193 (rf_bk am_t193 10 3) 48 [(0, .int x0), (1, .int x1), (2, .int x2)] [] s (by repeat (first | exact trivial | refine ⟨rfl, ?_⟩)) (by decide +kernel) ?_
    exact cf_R_ret (pc := 51) (v := some (.int (x1 * x2))) rp_193 rfl rfl rfl ⟨_, rfl, h⟩
  replace h := h.2 hb
  refine cf_R_sw (fun hb => ?_) (fun hb => ?_)
  · replace h := h.1 hb
    refine cf_R_w rp_193 (rf_bk am_t193 2 3) 40 [(0, .int x0), (1, .int x1), (2, .int x2)] [] s (by repeat (first | exact trivial | refine ⟨rfl, ?_⟩)) (by decide +kernel) ?_
    exact cf_R_ret (pc := 43) (v := some (.int (x1 + x2))) rp_193 rfl rfl rfl ⟨_, rfl, h⟩
  replace h := h.2 hb
  refine cf_R_sw (fun hb => ?_) (fun hb => ?_)
  · replace h := h.1 hb
    exact cf_R_le (l := [(1, .int x1), (2, .int x2)]) rfl rfl (⟨rfl, rfl, trivial⟩) (wc_Machine_reckon_64_ok h)
  replace h := h.2 hb
  refine cf_R_sw (fun hb => ?_) (fun hb => ?_)
  · replace h := h.1 hb
    refine cf_R_w rp_193 (rf_bk am_t193 6 3) 44 [(0, .int x0), (1, .int x1), (2, .int x2)] [] s (by repeat (first | exact trivial | refine ⟨rfl, ?_⟩)) (by decide +kernel) ?_
    exact cf_R_ret (pc := 47) (v := some (.int (x1 - x2))) rp_193 rfl rfl rfl ⟨_, rfl, h⟩
  replace h := h.2 hb
  refine cf_R_sw (fun hb => ?_) (fun hb => ?_)
  · replace h := h.1 hb
    exact cf_R_le (l := [(1, .int x1), (2, .int x2)]) rfl rfl (⟨rfl, rfl, trivial⟩) (wc_Machine_reckon_64_ok h)
  replace h := h.2 hb
  refine cf_R_sw (fun hb => ?_) (fun hb => ?_)
  · replace h := h.1 hb
    refine cf_R_w rp_193 (rf_bk am_t193 14 2) 52 [(0, .int x0), (1, .int x1), (2, .int x2)] [] s (by repeat (first | exact trivial | refine ⟨rfl, ?_⟩)) (by decide +kernel) ?_
    refine cf_R_if (b := am_cnd .ne x2 0) (p := 60) (q := 56) (fun hb => ?_) (fun hb => ?_)
    · replace h := h.1 (of_decide_eq_true hb)
      refine cf_R_w rp_193 (rf_bk am_t193 18 2) 60 [(0, .int x0), (1, .int x1), (2, .int x2)] [] s (by repeat (first | exact trivial | refine ⟨rfl, ?_⟩)) (by decide +kernel) ?_
      refine cf_R_sk (pc := 62) rp_193 rfl rfl (cf_sk_idiv h.1) ?_
      replace h := h.2
      exact cf_R_ret (pc := 63) (v := some (.int (x1 / x2))) rp_193 rfl rfl rfl ⟨_, rfl, h⟩
    · replace h := h.2 (Decidable.not_not.mp (of_decide_eq_false hb))
      refine cf_R_w rp_193 (rf_bk am_t193 16 2) 56 [(0, .int x0), (1, .int x1), (2, .int x2)] [] s (by repeat (first | exact trivial | refine ⟨rfl, ?_⟩)) (by decide +kernel) ?_
      exact cf_R_ret (pc := 63) (v := some (.int (Int32.ofInt 0))) rp_193 rfl rfl rfl ⟨_, rfl, h⟩
  replace h := h.2 hb
  show cf_R d 193 (64, _, _, _) _
  exact cf_R_le (l := [(1, .int x1), (2, .int x2)]) rfl rfl (⟨rfl, rfl, trivial⟩) (wc_Machine_reckon_64_ok h)
