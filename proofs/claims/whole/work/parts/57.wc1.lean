/-! PART 57: the class, decompiled: LazyHouse.feed, LazyHouse.end, LazyHouse.program, LazyHouse.heap, LazyHouse.start, LazyHouse.step, LazyHouse.size, LazyHouse.text, LazyHouse.count, Binder.bind, Binder.bindUse, Binder.innermost, Binder.prepare, Binder.prepareList, Binder.formOf, Binder.isSimple, Binder.hasSimpleFields -/
/-- LazyHouse.feed (IIIII)I, from 0 on -/
def wc_House_feed (d : Nat) (x1 : Int32) (x2 : Int32) (x3 : Int32) (x4 : Int32) (x5 : Int32) (s : cf_S) (Q : Int32 → cf_S → Prop) : Prop := (((s.1 1 1) ≤ ((Int16.ofInt 1980).toInt32) → cf_V (d + 9) 123 [(0, .ref 1), (1, .int x1)] s (fun s1 => cf_V (d + 9) 123 [(0, .ref 1), (1, .int x2)] s1 (fun s2 => cf_V (d + 9) 123 [(0, .ref 1), (1, .int x3)] s2 (fun s3 => cf_V (d + 9) 123 [(0, .ref 1), (1, .int x4)] s3 (fun s4 => cf_V (d + 9) 123 [(0, .ref 1), (1, .int x5)] s4 (fun s5 => Q (s5.1 1 1) s5)))))) ∧ (¬ ((s.1 1 1) ≤ ((Int16.ofInt 1980).toInt32)) → Q (Int32.ofInt (-1)) s))
set_option maxRecDepth 20000 in
theorem wc_House_feed_ok {d : Nat} {x1 : Int32} {x2 : Int32} {x3 : Int32} {x4 : Int32} {x5 : Int32} {s : cf_S} {Q : Int32 → cf_S → Prop} (h : wc_House_feed d x1 x2 x3 x4 x5 s Q) : cf_I (d + 10) 98 [(0, .ref 0), (1, .int x1), (2, .int x2), (3, .int x3), (4, .int x4), (5, .int x5)] s Q := by
  unfold wc_House_feed at h
  unfold cf_I
  refine cf_R_w rp_98 (rf_bk am_t98 0 2) 0 [(0, .ref 0), (1, .int x1), (2, .int x2), (3, .int x3), (4, .int x4), (5, .int x5)] [] s (by repeat (first | exact trivial | refine ⟨rfl, ?_⟩)) (by decide +kernel) ?_
  refine cf_R_prim (pc := 4) (q := ([.ref 1], [])) rp_98 rfl rfl (by decide) (by decide) rp_118 rfl (Nat.le_of_ble_eq_true rfl) ⟨rfl, Nat.le_of_ble_eq_true rfl⟩ (cq_length rfl) ?_
  refine cf_R_w rp_98 (rf_bk am_t98 3 2) 7 [(0, .ref 0), (1, .int x1), (2, .int x2), (3, .int x3), (4, .int x4), (5, .int x5)] [.int (s.1 1 1)] s (by repeat (first | exact trivial | refine ⟨rfl, ?_⟩)) (by decide +kernel) ?_
  refine cf_R_if (b := am_cnd .le (s.1 1 1) ((Int16.ofInt 1980).toInt32)) (p := 15) (q := 13) (fun hb => ?_) (fun hb => ?_)
  · replace h := h.1 (of_decide_eq_true hb)
    refine cf_R_w rp_98 (rf_bk am_t98 7 3) 15 [(0, .ref 0), (1, .int x1), (2, .int x2), (3, .int x3), (4, .int x4), (5, .int x5)] [] s (by repeat (first | exact trivial | refine ⟨rfl, ?_⟩)) (by decide +kernel) ?_
    refine cf_R_call (pc := 20) (q := ([.ref 1, .int x1], [])) rp_98 rfl rfl (by decide) (by decide) rp_123 rfl (Nat.le_of_ble_eq_true rfl) ⟨rfl, Nat.le_of_ble_eq_true rfl⟩ h (fun v s1 h => ?_)
    obtain ⟨rfl, h⟩ := h
    refine cf_R_w rp_98 (rf_bk am_t98 11 3) 23 [(0, .ref 0), (1, .int x1), (2, .int x2), (3, .int x3), (4, .int x4), (5, .int x5)] [] s1 (by repeat (first | exact trivial | refine ⟨rfl, ?_⟩)) (by decide +kernel) ?_
    refine cf_R_call (pc := 28) (q := ([.ref 1, .int x2], [])) rp_98 rfl rfl (by decide) (by decide) rp_123 rfl (Nat.le_of_ble_eq_true rfl) ⟨rfl, Nat.le_of_ble_eq_true rfl⟩ h (fun v s2 h => ?_)
    obtain ⟨rfl, h⟩ := h
    refine cf_R_w rp_98 (rf_bk am_t98 15 3) 31 [(0, .ref 0), (1, .int x1), (2, .int x2), (3, .int x3), (4, .int x4), (5, .int x5)] [] s2 (by repeat (first | exact trivial | refine ⟨rfl, ?_⟩)) (by decide +kernel) ?_
    refine cf_R_call (pc := 36) (q := ([.ref 1, .int x3], [])) rp_98 rfl rfl (by decide) (by decide) rp_123 rfl (Nat.le_of_ble_eq_true rfl) ⟨rfl, Nat.le_of_ble_eq_true rfl⟩ h (fun v s3 h => ?_)
    obtain ⟨rfl, h⟩ := h
    refine cf_R_w rp_98 (rf_bk am_t98 19 3) 39 [(0, .ref 0), (1, .int x1), (2, .int x2), (3, .int x3), (4, .int x4), (5, .int x5)] [] s3 (by repeat (first | exact trivial | refine ⟨rfl, ?_⟩)) (by decide +kernel) ?_
    refine cf_R_call (pc := 45) (q := ([.ref 1, .int x4], [])) rp_98 rfl rfl (by decide) (by decide) rp_123 rfl (Nat.le_of_ble_eq_true rfl) ⟨rfl, Nat.le_of_ble_eq_true rfl⟩ h (fun v s4 h => ?_)
    obtain ⟨rfl, h⟩ := h
    refine cf_R_w rp_98 (rf_bk am_t98 23 3) 48 [(0, .ref 0), (1, .int x1), (2, .int x2), (3, .int x3), (4, .int x4), (5, .int x5)] [] s4 (by repeat (first | exact trivial | refine ⟨rfl, ?_⟩)) (by decide +kernel) ?_
    refine cf_R_call (pc := 54) (q := ([.ref 1, .int x5], [])) rp_98 rfl rfl (by decide) (by decide) rp_123 rfl (Nat.le_of_ble_eq_true rfl) ⟨rfl, Nat.le_of_ble_eq_true rfl⟩ h (fun v s5 h => ?_)
    obtain ⟨rfl, h⟩ := h
    refine cf_R_w rp_98 (rf_bk am_t98 27 2) 57 [(0, .ref 0), (1, .int x1), (2, .int x2), (3, .int x3), (4, .int x4), (5, .int x5)] [] s5 (by repeat (first | exact trivial | refine ⟨rfl, ?_⟩)) (by decide +kernel) ?_
    refine cf_R_prim (pc := 61) (q := ([.ref 1], [])) rp_98 rfl rfl (by decide) (by decide) rp_118 rfl (Nat.le_of_ble_eq_true rfl) ⟨rfl, Nat.le_of_ble_eq_true rfl⟩ (cq_length rfl) ?_
    exact cf_R_ret (pc := 64) (v := some (.int (s5.1 1 1))) rp_98 rfl rfl rfl ⟨_, rfl, h⟩
  · replace h := h.2 (of_decide_eq_false hb)
    refine cf_R_w rp_98 (rf_bk am_t98 5 1) 13 [(0, .ref 0), (1, .int x1), (2, .int x2), (3, .int x3), (4, .int x4), (5, .int x5)] [] s (by repeat (first | exact trivial | refine ⟨rfl, ?_⟩)) (by decide +kernel) ?_
    exact cf_R_ret (pc := 14) (v := some (.int (Int32.ofInt (-1)))) rp_98 rfl rfl rfl ⟨_, rfl, h⟩
/-- LazyHouse.end (I)I, from 0 on -/
def wc_House_end (d : Nat) (x1 : Int32) (s : cf_S) (Q : Int32 → cf_S → Prop) : Prop := ((x1 < 0 → Q (Int32.ofInt (-1)) s) ∧ (¬ (x1 < 0) → ((x1 ≤ (s.1 1 1) → Q x1 (by_c s 1 x1)) ∧ (¬ (x1 ≤ (s.1 1 1)) → Q (Int32.ofInt (-1)) s))))
set_option maxRecDepth 20000 in
theorem wc_House_end_ok {d : Nat} {x1 : Int32} {s : cf_S} {Q : Int32 → cf_S → Prop} (h : wc_House_end d x1 s Q) : cf_I (d + 10) 99 [(0, .ref 0), (1, .int x1)] s Q := by
  unfold wc_House_end at h
  unfold cf_I
  refine cf_R_w rp_99 (rf_bk am_t99 0 2) 0 [(0, .ref 0), (1, .int x1)] [] s (by repeat (first | exact trivial | refine ⟨rfl, ?_⟩)) (by decide +kernel) ?_
  refine cf_R_if (b := am_cnd .lt x1 0) (p := 15) (q := 4) (fun hb => ?_) (fun hb => ?_)
  · replace h := h.1 (of_decide_eq_true hb)
    refine cf_R_w rp_99 (rf_bk am_t99 7 1) 15 [(0, .ref 0), (1, .int x1)] [] s (by repeat (first | exact trivial | refine ⟨rfl, ?_⟩)) (by decide +kernel) ?_
    exact cf_R_ret (pc := 16) (v := some (.int (Int32.ofInt (-1)))) rp_99 rfl rfl rfl ⟨_, rfl, h⟩
  · replace h := h.2 (of_decide_eq_false hb)
    refine cf_R_w rp_99 (rf_bk am_t99 2 3) 4 [(0, .ref 0), (1, .int x1)] [] s (by repeat (first | exact trivial | refine ⟨rfl, ?_⟩)) (by decide +kernel) ?_
    refine cf_R_prim (pc := 9) (q := ([.ref 1], [.int x1])) rp_99 rfl rfl (by decide) (by decide) rp_118 rfl (Nat.le_of_ble_eq_true rfl) ⟨rfl, Nat.le_of_ble_eq_true rfl⟩ (cq_length rfl) ?_
    refine cf_R_w rp_99 (rf_bk am_t99 6 1) 12 [(0, .ref 0), (1, .int x1)] [.int (s.1 1 1), .int x1] s (by repeat (first | exact trivial | refine ⟨rfl, ?_⟩)) (by decide +kernel) ?_
    refine cf_R_if (b := am_cnd .le x1 (s.1 1 1)) (p := 17) (q := 15) (fun hb => ?_) (fun hb => ?_)
    · replace h := h.1 (of_decide_eq_true hb)
      refine cf_R_w rp_99 (rf_bk am_t99 9 3) 17 [(0, .ref 0), (1, .int x1)] [] s (by repeat (first | exact trivial | refine ⟨rfl, ?_⟩)) (by decide +kernel) ?_
      refine cf_R_prim (pc := 22) (q := ([.ref 1, .int x1], [])) rp_99 rfl rfl (by decide) (by decide) rp_121 rfl (Nat.le_of_ble_eq_true rfl) ⟨rfl, Nat.le_of_ble_eq_true rfl⟩ (cq_cut rfl) ?_
      refine cf_R_w rp_99 (rf_bk am_t99 13 1) 25 [(0, .ref 0), (1, .int x1)] [] (by_c s 1 x1) (by repeat (first | exact trivial | refine ⟨rfl, ?_⟩)) (by decide +kernel) ?_
      exact cf_R_ret (pc := 26) (v := some (.int x1)) rp_99 rfl rfl rfl ⟨_, rfl, h⟩
    · replace h := h.2 (of_decide_eq_false hb)
      refine cf_R_w rp_99 (rf_bk am_t99 7 1) 15 [(0, .ref 0), (1, .int x1)] [] s (by repeat (first | exact trivial | refine ⟨rfl, ?_⟩)) (by decide +kernel) ?_
      exact cf_R_ret (pc := 16) (v := some (.int (Int32.ofInt (-1)))) rp_99 rfl rfl rfl ⟨_, rfl, h⟩
/-- LazyHouse.program ()I, from 56 on -/
def wc_House_program_56 (d : Nat) (x1 : Int32) (y0 : Int32) (s : cf_S) (Q : Int32 → cf_S → Prop) : Prop := (am_fit .boolean (.int y0) = true ∧ ((y0 = 0 → Q ((Int32.ofInt (-1)) - x1) (cf_si s 0 5 y0)) ∧ (¬ (y0 = 0) → Q ((s.1 10 2) - (Int32.ofInt 1)) (cf_si s 0 5 y0))))
set_option maxRecDepth 20000 in
theorem wc_House_program_56_ok {d : Nat} {x1 : Int32} {y0 : Int32} {s : cf_S} {Q : Int32 → cf_S → Prop} (h : wc_House_program_56 d x1 y0 s Q) : cf_R (d + 10) 100 (56, [(0, .ref 0), (1, .int x1)], [.int y0, .ref 0], s) (cf_qI Q) := by
  unfold wc_House_program_56 at h
  refine cf_R_w rp_100 (rf_bk am_t100 28 1) 56 [(0, .ref 0), (1, .int x1)] [.int y0, .ref 0] s (by repeat (first | exact trivial | refine ⟨rfl, ?_⟩)) (by decide +kernel) ?_
  refine And.intro h.1 ?_
  replace h := h.2
  refine cf_R_w rp_100 (rf_bk am_t100 29 3) 59 [(0, .ref 0), (1, .int x1)] [] (cf_si s 0 5 y0) (by repeat (first | exact trivial | refine ⟨rfl, ?_⟩)) (by decide +kernel) ?_
  refine cf_R_if (b := am_cnd .eq y0 0) (p := 81) (q := 66) (fun hb => ?_) (fun hb => ?_)
  · replace h := h.1 (of_decide_eq_true hb)
    refine cf_R_w rp_100 (rf_bk am_t100 39 3) 81 [(0, .ref 0), (1, .int x1)] [] (cf_si s 0 5 y0) (by repeat (first | exact trivial | refine ⟨rfl, ?_⟩)) (by decide +kernel) ?_
    exact cf_R_ret (pc := 84) (v := some (.int ((Int32.ofInt (-1)) - x1))) rp_100 rfl rfl rfl ⟨_, rfl, h⟩
  · replace h := h.2 (of_decide_eq_false hb)
    refine cf_R_w rp_100 (rf_bk am_t100 32 3) 66 [(0, .ref 0), (1, .int x1)] [] (cf_si s 0 5 y0) (by repeat (first | exact trivial | refine ⟨rfl, ?_⟩)) (by decide +kernel) ?_
    refine cf_R_prim (pc := 73) (q := ([.ref 10], [])) rp_100 rfl rfl (by decide) (by decide) rp_270 rfl (Nat.le_of_ble_eq_true rfl) ⟨rfl, Nat.le_of_ble_eq_true rfl⟩ (cq_rows rfl) ?_
    refine cf_R_w rp_100 (rf_bk am_t100 36 3) 76 [(0, .ref 0), (1, .int x1)] [.int (s.1 10 2)] (cf_si s 0 5 y0) (by repeat (first | exact trivial | refine ⟨rfl, ?_⟩)) (by decide +kernel) ?_
    exact cf_R_ret (pc := 84) (v := some (.int ((s.1 10 2) - (Int32.ofInt 1)))) rp_100 rfl rfl rfl ⟨_, rfl, h⟩
/-- LazyHouse.program ()I, from 46 on -/
def wc_House_program_46 (d : Nat) (x1 : Int32) (s : cf_S) (Q : Int32 → cf_S → Prop) : Prop := ((0 ≤ x1 → wc_House_program_56 d x1 (Int32.ofInt 0) s Q) ∧ (¬ (0 ≤ x1) → wc_House_program_56 d x1 (Int32.ofInt 1) s Q))
set_option maxRecDepth 20000 in
theorem wc_House_program_46_ok {d : Nat} {x1 : Int32} {s : cf_S} {Q : Int32 → cf_S → Prop} (h : wc_House_program_46 d x1 s Q) : cf_R (d + 10) 100 (46, [(0, .ref 0), (1, .int x1)], [], s) (cf_qI Q) := by
  unfold wc_House_program_46 at h
  refine cf_R_w rp_100 (rf_bk am_t100 22 3) 46 [(0, .ref 0), (1, .int x1)] [] s (by repeat (first | exact trivial | refine ⟨rfl, ?_⟩)) (by decide +kernel) ?_
  refine cf_R_if (b := am_cnd .ge x1 0) (p := 55) (q := 51) (fun hb => ?_) (fun hb => ?_)
  · replace h := h.1 (of_decide_eq_true hb)
    refine cf_R_w rp_100 (rf_bk am_t100 27 1) 55 [(0, .ref 0), (1, .int x1)] [.ref 0] s (by repeat (first | exact trivial | refine ⟨rfl, ?_⟩)) (by decide +kernel) ?_
    exact cf_R_le (l := [(0, .ref 0), (1, .int x1)]) rfl rfl (⟨rfl, rfl, trivial⟩) (wc_House_program_56_ok h)
  · replace h := h.2 (of_decide_eq_false hb)
    refine cf_R_w rp_100 (rf_bk am_t100 25 2) 51 [(0, .ref 0), (1, .int x1)] [.ref 0] s (by repeat (first | exact trivial | refine ⟨rfl, ?_⟩)) (by decide +kernel) ?_
    exact cf_R_le (l := [(0, .ref 0), (1, .int x1)]) rfl rfl (⟨rfl, rfl, trivial⟩) (wc_House_program_56_ok h)
/-- LazyHouse.program ()I, from 0 on -/
def wc_House_program (d : Nat) (s : cf_S) (Q : Int32 → cf_S → Prop) : Prop := cf_V (d + 9) 156 [(0, .ref 25)] s (fun s1 => cf_V (d + 9) 232 [(0, .ref 3), (1, .ref 1)] s1 (fun s2 => cf_I (d + 9) 205 [(0, .ref 22)] (by_c s2 1 (Int32.ofInt 0)) (fun r3 s3 => ((0 ≤ r3 → wc_House_program_46 d r3 s3 Q) ∧ (¬ (0 ≤ r3) → cf_I (d + 9) 108 [(0, .ref 24)] s3 (fun r4 s4 => wc_House_program_46 d r4 s4 Q))))))
set_option maxRecDepth 20000 in
theorem wc_House_program_ok {d : Nat} {s : cf_S} {Q : Int32 → cf_S → Prop} (h : wc_House_program d s Q) : cf_I (d + 10) 100 [(0, .ref 0)] s Q := by
  unfold wc_House_program at h
  unfold cf_I
  refine cf_R_w rp_100 (rf_bk am_t100 0 2) 0 [(0, .ref 0)] [] s (by repeat (first | exact trivial | refine ⟨rfl, ?_⟩)) (by decide +kernel) ?_
  refine cf_R_call (pc := 4) (q := ([.ref 25], [])) rp_100 rfl rfl (by decide) (by decide) rp_156 rfl (Nat.le_of_ble_eq_true rfl) ⟨rfl, Nat.le_of_ble_eq_true rfl⟩ h (fun v s1 h => ?_)
  obtain ⟨rfl, h⟩ := h
  refine cf_R_w rp_100 (rf_bk am_t100 3 4) 7 [(0, .ref 0)] [] s1 (by repeat (first | exact trivial | refine ⟨rfl, ?_⟩)) (by decide +kernel) ?_
  refine cf_R_call (pc := 15) (q := ([.ref 3, .ref 1], [])) rp_100 rfl rfl (by decide) (by decide) rp_232 rfl (Nat.le_of_ble_eq_true rfl) ⟨rfl, Nat.le_of_ble_eq_true rfl⟩ h (fun v s2 h => ?_)
  obtain ⟨rfl, h⟩ := h
  refine cf_R_w rp_100 (rf_bk am_t100 8 3) 18 [(0, .ref 0)] [] s2 (by repeat (first | exact trivial | refine ⟨rfl, ?_⟩)) (by decide +kernel) ?_
  refine cf_R_prim (pc := 23) (q := ([.ref 1, .int (Int32.ofInt 0)], [])) rp_100 rfl rfl (by decide) (by decide) rp_121 rfl (Nat.le_of_ble_eq_true rfl) ⟨rfl, Nat.le_of_ble_eq_true rfl⟩ (cq_cut rfl) ?_
  refine cf_R_w rp_100 (rf_bk am_t100 12 2) 26 [(0, .ref 0)] [] (by_c s2 1 (Int32.ofInt 0)) (by repeat (first | exact trivial | refine ⟨rfl, ?_⟩)) (by decide +kernel) ?_
  refine cf_R_call (pc := 30) (q := ([.ref 22], [])) rp_100 rfl rfl (by decide) (by decide) rp_205 rfl (Nat.le_of_ble_eq_true rfl) ⟨rfl, Nat.le_of_ble_eq_true rfl⟩ h (fun v s3 h => ?_)
  obtain ⟨r3, rfl, h⟩ := h
  refine cf_R_w rp_100 (rf_bk am_t100 15 3) 33 [(0, .ref 0)] [.int r3] s3 (by repeat (first | exact trivial | refine ⟨rfl, ?_⟩)) (by decide +kernel) ?_
  refine cf_R_if (b := am_cnd .ge r3 0) (p := 46) (q := 38) (fun hb => ?_) (fun hb => ?_)
  · replace h := h.1 (of_decide_eq_true hb)
    exact cf_R_le (l := [(0, .ref 0), (1, .int r3)]) rfl rfl (⟨rfl, rfl, trivial⟩) (wc_House_program_46_ok h)
  · replace h := h.2 (of_decide_eq_false hb)
    refine cf_R_w rp_100 (rf_bk am_t100 18 2) 38 [(1, .int r3), (0, .ref 0)] [] s3 (by repeat (first | exact trivial | refine ⟨rfl, ?_⟩)) (by decide +kernel) ?_
    refine cf_R_call (pc := 42) (q := ([.ref 24], [])) rp_100 rfl rfl (by decide) (by decide) rp_108 rfl (Nat.le_of_ble_eq_true rfl) ⟨rfl, Nat.le_of_ble_eq_true rfl⟩ h (fun v s4 h => ?_)
    obtain ⟨r4, rfl, h⟩ := h
    refine cf_R_w rp_100 (rf_bk am_t100 21 1) 45 [(1, .int r3), (0, .ref 0)] [.int r4] s4 (by repeat (first | exact trivial | refine ⟨rfl, ?_⟩)) (by decide +kernel) ?_
    exact cf_R_le (l := [(0, .ref 0), (1, .int r4)]) rfl rfl (⟨rfl, rfl, trivial⟩) (wc_House_program_46_ok h)
/-- LazyHouse.heap (I)I, from 0 on -/
def wc_House_heap (d : Nat) (x1 : Int32) (s : cf_S) (Q : Int32 → cf_S → Prop) : Prop := ((x1 < ((Int8.ofInt 10).toInt32) → Q (Int32.ofInt (-1)) s) ∧ (¬ (x1 < ((Int8.ofInt 10).toInt32)) → ((x1 ≤ ((Int16.ofInt 20000).toInt32) → Q (Int32.ofInt 1) (cf_si s 0 6 x1)) ∧ (¬ (x1 ≤ ((Int16.ofInt 20000).toInt32)) → Q (Int32.ofInt (-1)) s))))
set_option maxRecDepth 20000 in
theorem wc_House_heap_ok {d : Nat} {x1 : Int32} {s : cf_S} {Q : Int32 → cf_S → Prop} (h : wc_House_heap d x1 s Q) : cf_I d 101 [(0, .ref 0), (1, .int x1)] s Q := by
  unfold wc_House_heap at h
  unfold cf_I
  refine cf_R_w rp_101 (rf_bk am_t101 0 3) 0 [(0, .ref 0), (1, .int x1)] [] s (by repeat (first | exact trivial | refine ⟨rfl, ?_⟩)) (by decide +kernel) ?_
  refine cf_R_if (b := am_cnd .lt x1 ((Int8.ofInt 10).toInt32)) (p := 13) (q := 6) (fun hb => ?_) (fun hb => ?_)
  · replace h := h.1 (of_decide_eq_true hb)
    refine cf_R_w rp_101 (rf_bk am_t101 6 1) 13 [(0, .ref 0), (1, .int x1)] [] s (by repeat (first | exact trivial | refine ⟨rfl, ?_⟩)) (by decide +kernel) ?_
    exact cf_R_ret (pc := 14) (v := some (.int (Int32.ofInt (-1)))) rp_101 rfl rfl rfl ⟨_, rfl, h⟩
  · replace h := h.2 (of_decide_eq_false hb)
    refine cf_R_w rp_101 (rf_bk am_t101 3 3) 6 [(0, .ref 0), (1, .int x1)] [] s (by repeat (first | exact trivial | refine ⟨rfl, ?_⟩)) (by decide +kernel) ?_
    refine cf_R_if (b := am_cnd .le x1 ((Int16.ofInt 20000).toInt32)) (p := 15) (q := 13) (fun hb => ?_) (fun hb => ?_)
    · replace h := h.1 (of_decide_eq_true hb)
      refine cf_R_w rp_101 (rf_bk am_t101 8 3) 15 [(0, .ref 0), (1, .int x1)] [] s (by repeat (first | exact trivial | refine ⟨rfl, ?_⟩)) (by decide +kernel) ?_
      refine And.intro rfl ?_
      refine cf_R_w rp_101 (rf_bk am_t101 11 1) 20 [(0, .ref 0), (1, .int x1)] [] (cf_si s 0 6 x1) (by repeat (first | exact trivial | refine ⟨rfl, ?_⟩)) (by decide +kernel) ?_
      exact cf_R_ret (pc := 21) (v := some (.int (Int32.ofInt 1))) rp_101 rfl rfl rfl ⟨_, rfl, h⟩
    · replace h := h.2 (of_decide_eq_false hb)
      refine cf_R_w rp_101 (rf_bk am_t101 6 1) 13 [(0, .ref 0), (1, .int x1)] [] s (by repeat (first | exact trivial | refine ⟨rfl, ?_⟩)) (by decide +kernel) ?_
      exact cf_R_ret (pc := 14) (v := some (.int (Int32.ofInt (-1)))) rp_101 rfl rfl rfl ⟨_, rfl, h⟩
/-- LazyHouse.start ()I, from 0 on -/
def wc_House_start (d : Nat) (s : cf_S) (Q : Int32 → cf_S → Prop) : Prop := ((¬ (s.1 0 5) = 0 → cf_V (d + 9) 158 [(0, .ref 25), (1, .int (s.1 0 6))] s (fun s1 => Q (Int32.ofInt 1) s1)) ∧ ((s.1 0 5) = 0 → Q (Int32.ofInt 0) s))
set_option maxRecDepth 20000 in
theorem wc_House_start_ok {d : Nat} {s : cf_S} {Q : Int32 → cf_S → Prop} (h : wc_House_start d s Q) : cf_I (d + 10) 102 [(0, .ref 0)] s Q := by
  unfold wc_House_start at h
  unfold cf_I
  refine cf_R_w rp_102 (rf_bk am_t102 0 3) 0 [(0, .ref 0)] [] s (by repeat (first | exact trivial | refine ⟨rfl, ?_⟩)) (by decide +kernel) ?_
  refine cf_R_if (b := am_cnd .ne (s.1 0 5) 0) (p := 9) (q := 7) (fun hb => ?_) (fun hb => ?_)
  · replace h := h.1 (of_decide_eq_true hb)
    refine cf_R_w rp_102 (rf_bk am_t102 5 4) 9 [(0, .ref 0)] [] s (by repeat (first | exact trivial | refine ⟨rfl, ?_⟩)) (by decide +kernel) ?_
    refine cf_R_call (pc := 17) (q := ([.ref 25, .int (s.1 0 6)], [])) rp_102 rfl rfl (by decide) (by decide) rp_158 rfl (Nat.le_of_ble_eq_true rfl) ⟨rfl, Nat.le_of_ble_eq_true rfl⟩ h (fun v s1 h => ?_)
    obtain ⟨rfl, h⟩ := h
    refine cf_R_w rp_102 (rf_bk am_t102 10 1) 20 [(0, .ref 0)] [] s1 (by repeat (first | exact trivial | refine ⟨rfl, ?_⟩)) (by decide +kernel) ?_
    exact cf_R_ret (pc := 21) (v := some (.int (Int32.ofInt 1))) rp_102 rfl rfl rfl ⟨_, rfl, h⟩
  · replace h := h.2 (Decidable.not_not.mp (of_decide_eq_false hb))
    refine cf_R_w rp_102 (rf_bk am_t102 3 1) 7 [(0, .ref 0)] [] s (by repeat (first | exact trivial | refine ⟨rfl, ?_⟩)) (by decide +kernel) ?_
    exact cf_R_ret (pc := 8) (v := some (.int (Int32.ofInt 0))) rp_102 rfl rfl rfl ⟨_, rfl, h⟩
/-- LazyHouse.step (I)I, from 0 on -/
def wc_House_step (d : Nat) (x1 : Int32) (s : cf_S) (Q : Int32 → cf_S → Prop) : Prop := cf_I (d + 9) 148 [(0, .ref 25)] s (fun r1 s1 => ((r1 = 0 → Q (Int32.ofInt (-1)) s1) ∧ (¬ (r1 = 0) → ((x1 < 0 → Q (Int32.ofInt (-1)) s1) ∧ (¬ (x1 < 0) → ((x1 ≤ ((Int16.ofInt 20000).toInt32) → cf_I (d + 9) 159 [(0, .ref 25), (1, .int x1)] s1 (fun r2 s2 => Q r2 s2)) ∧ (¬ (x1 ≤ ((Int16.ofInt 20000).toInt32)) → Q (Int32.ofInt (-1)) s1)))))))
set_option maxRecDepth 20000 in
theorem wc_House_step_ok {d : Nat} {x1 : Int32} {s : cf_S} {Q : Int32 → cf_S → Prop} (h : wc_House_step d x1 s Q) : cf_I (d + 10) 103 [(0, .ref 0), (1, .int x1)] s Q := by
  unfold wc_House_step at h
  unfold cf_I
  refine cf_R_w rp_103 (rf_bk am_t103 0 2) 0 [(0, .ref 0), (1, .int x1)] [] s (by repeat (first | exact trivial | refine ⟨rfl, ?_⟩)) (by decide +kernel) ?_
  refine cf_R_call (pc := 4) (q := ([.ref 25], [])) rp_103 rfl rfl (by decide) (by decide) rp_148 rfl (Nat.le_of_ble_eq_true rfl) ⟨rfl, Nat.le_of_ble_eq_true rfl⟩ h (fun v s1 h => ?_)
  obtain ⟨r1, rfl, h⟩ := h
  refine cf_R_w rp_103 (rf_bk am_t103 3 1) 7 [(0, .ref 0), (1, .int x1)] [.int r1] s1 (by repeat (first | exact trivial | refine ⟨rfl, ?_⟩)) (by decide +kernel) ?_
  refine cf_R_if (b := am_cnd .eq r1 0) (p := 21) (q := 10) (fun hb => ?_) (fun hb => ?_)
  · replace h := h.1 (of_decide_eq_true hb)
    refine cf_R_w rp_103 (rf_bk am_t103 9 1) 21 [(0, .ref 0), (1, .int x1)] [] s1 (by repeat (first | exact trivial | refine ⟨rfl, ?_⟩)) (by decide +kernel) ?_
    exact cf_R_ret (pc := 22) (v := some (.int (Int32.ofInt (-1)))) rp_103 rfl rfl rfl ⟨_, rfl, h⟩
  · replace h := h.2 (of_decide_eq_false hb)
    refine cf_R_w rp_103 (rf_bk am_t103 4 2) 10 [(0, .ref 0), (1, .int x1)] [] s1 (by repeat (first | exact trivial | refine ⟨rfl, ?_⟩)) (by decide +kernel) ?_
    refine cf_R_if (b := am_cnd .lt x1 0) (p := 21) (q := 14) (fun hb => ?_) (fun hb => ?_)
    · replace h := h.1 (of_decide_eq_true hb)
      refine cf_R_w rp_103 (rf_bk am_t103 9 1) 21 [(0, .ref 0), (1, .int x1)] [] s1 (by repeat (first | exact trivial | refine ⟨rfl, ?_⟩)) (by decide +kernel) ?_
      exact cf_R_ret (pc := 22) (v := some (.int (Int32.ofInt (-1)))) rp_103 rfl rfl rfl ⟨_, rfl, h⟩
    · replace h := h.2 (of_decide_eq_false hb)
      refine cf_R_w rp_103 (rf_bk am_t103 6 3) 14 [(0, .ref 0), (1, .int x1)] [] s1 (by repeat (first | exact trivial | refine ⟨rfl, ?_⟩)) (by decide +kernel) ?_
      refine cf_R_if (b := am_cnd .le x1 ((Int16.ofInt 20000).toInt32)) (p := 23) (q := 21) (fun hb => ?_) (fun hb => ?_)
      · replace h := h.1 (of_decide_eq_true hb)
        refine cf_R_w rp_103 (rf_bk am_t103 11 3) 23 [(0, .ref 0), (1, .int x1)] [] s1 (by repeat (first | exact trivial | refine ⟨rfl, ?_⟩)) (by decide +kernel) ?_
        refine cf_R_call (pc := 28) (q := ([.ref 25, .int x1], [])) rp_103 rfl rfl (by decide) (by decide) rp_159 rfl (Nat.le_of_ble_eq_true rfl) ⟨rfl, Nat.le_of_ble_eq_true rfl⟩ h (fun v s2 h => ?_)
        obtain ⟨r2, rfl, h⟩ := h
        exact cf_R_ret (pc := 31) (v := some (.int r2)) rp_103 rfl rfl rfl ⟨_, rfl, h⟩
      · replace h := h.2 (of_decide_eq_false hb)
        refine cf_R_w rp_103 (rf_bk am_t103 9 1) 21 [(0, .ref 0), (1, .int x1)] [] s1 (by repeat (first | exact trivial | refine ⟨rfl, ?_⟩)) (by decide +kernel) ?_
        exact cf_R_ret (pc := 22) (v := some (.int (Int32.ofInt (-1)))) rp_103 rfl rfl rfl ⟨_, rfl, h⟩
/-- LazyHouse.size ()I, from 0 on -/
def wc_House_size (d : Nat) (s : cf_S) (Q : Int32 → cf_S → Prop) : Prop := cf_A (d + 9) 149 [(0, .ref 25)] s (fun r1 s1 => (cf_cls r1 = some 3 ∧ Q (s1.1 r1 1) s1))
set_option maxRecDepth 20000 in
theorem wc_House_size_ok {d : Nat} {s : cf_S} {Q : Int32 → cf_S → Prop} (h : wc_House_size d s Q) : cf_I (d + 10) 104 [(0, .ref 0)] s Q := by
  unfold wc_House_size at h
  unfold cf_I
  refine cf_R_w rp_104 (rf_bk am_t104 0 2) 0 [(0, .ref 0)] [] s (by repeat (first | exact trivial | refine ⟨rfl, ?_⟩)) (by decide +kernel) ?_
  refine cf_R_call (pc := 4) (q := ([.ref 25], [])) rp_104 rfl rfl (by decide) (by decide) rp_149 rfl (Nat.le_of_ble_eq_true rfl) ⟨rfl, Nat.le_of_ble_eq_true rfl⟩ h (fun v s1 h => ?_)
  obtain ⟨r1, rfl, h⟩ := h
  have hc := h.1
  replace h := h.2
  refine cf_R_prim (pc := 7) (q := ([.ref r1], [])) rp_104 rfl rfl (by decide) (by decide) rp_118 rfl (Nat.le_of_ble_eq_true rfl) ⟨decide_eq_true hc, Nat.le_of_ble_eq_true rfl⟩ (cq_length hc) ?_
  exact cf_R_ret (pc := 10) (v := some (.int (s1.1 r1 1))) rp_104 rfl rfl rfl ⟨_, rfl, h⟩
/-- LazyHouse.text (I)I, from 0 on -/
def wc_House_text (d : Nat) (x1 : Int32) (s : cf_S) (Q : Int32 → cf_S → Prop) : Prop := cf_A (d + 9) 149 [(0, .ref 25)] s (fun r1 s1 => (cf_cls r1 = some 3 ∧ Q (by_g s1 r1 x1) s1))
set_option maxRecDepth 20000 in
theorem wc_House_text_ok {d : Nat} {x1 : Int32} {s : cf_S} {Q : Int32 → cf_S → Prop} (h : wc_House_text d x1 s Q) : cf_I (d + 10) 105 [(0, .ref 0), (1, .int x1)] s Q := by
  unfold wc_House_text at h
  unfold cf_I
  refine cf_R_w rp_105 (rf_bk am_t105 0 2) 0 [(0, .ref 0), (1, .int x1)] [] s (by repeat (first | exact trivial | refine ⟨rfl, ?_⟩)) (by decide +kernel) ?_
  refine cf_R_call (pc := 4) (q := ([.ref 25], [])) rp_105 rfl rfl (by decide) (by decide) rp_149 rfl (Nat.le_of_ble_eq_true rfl) ⟨rfl, Nat.le_of_ble_eq_true rfl⟩ h (fun v s1 h => ?_)
  obtain ⟨r1, rfl, h⟩ := h
  refine cf_R_w rp_105 (rf_bk am_t105 3 1) 7 [(0, .ref 0), (1, .int x1)] [.ref r1] s1 (by repeat (first | exact trivial | refine ⟨rfl, ?_⟩)) (by decide +kernel) ?_
  have hc := h.1
  replace h := h.2
  refine cf_R_prim (pc := 8) (q := ([.ref r1, .int x1], [])) rp_105 rfl rfl (by decide) (by decide) rp_120 rfl (Nat.le_of_ble_eq_true rfl) ⟨decide_eq_true hc, Nat.le_of_ble_eq_true rfl⟩ (cq_at hc) ?_
  exact cf_R_ret (pc := 11) (v := some (.int (by_g s1 r1 x1))) rp_105 rfl rfl rfl ⟨_, rfl, h⟩
/-- LazyHouse.count (I)I, from 0 on -/
def wc_House_count (d : Nat) (x1 : Int32) (s : cf_S) (Q : Int32 → cf_S → Prop) : Prop := ((x1 = 0 → cf_I (d + 9) 150 [(0, .ref 25)] s (fun r1 s1 => Q r1 s1)) ∧ (¬ (x1 = 0) → ((x1 = 1 → cf_I (d + 9) 151 [(0, .ref 25)] s (fun r2 s2 => Q r2 s2)) ∧ (¬ (x1 = 1) → ((x1 = 2 → cf_I (d + 9) 155 [(0, .ref 25)] s (fun r3 s3 => Q r3 s3)) ∧ (¬ (x1 = 2) → ((x1 = 3 → cf_I (d + 9) 152 [(0, .ref 25)] s (fun r4 s4 => Q r4 s4)) ∧ (¬ (x1 = 3) → ((x1 = 4 → cf_I (d + 9) 153 [(0, .ref 25)] s (fun r5 s5 => Q r5 s5)) ∧ (¬ (x1 = 4) → ((x1 = 5 → cf_I (d + 9) 154 [(0, .ref 25)] s (fun r6 s6 => Q r6 s6)) ∧ (¬ (x1 = 5) → ((x1 = 6 → Q (s.1 1 1) s) ∧ (¬ (x1 = 6) → Q (Int32.ofInt (-1)) s))))))))))))))
set_option maxRecDepth 20000 in
theorem wc_House_count_ok {d : Nat} {x1 : Int32} {s : cf_S} {Q : Int32 → cf_S → Prop} (h : wc_House_count d x1 s Q) : cf_I (d + 10) 106 [(0, .ref 0), (1, .int x1)] s Q := by
  unfold wc_House_count at h
  unfold cf_I
  refine cf_R_w rp_106 (rf_bk am_t106 0 2) 0 [(0, .ref 0), (1, .int x1)] [] s (by repeat (first | exact trivial | refine ⟨rfl, ?_⟩)) (by decide +kernel) ?_
  refine cf_R_sw (fun hb => ?_) (fun hb => ?_)
  · replace h := h.1 hb
    refine cf_R_w rp_106 (rf_bk am_t106 2 2) 44 [(0, .ref 0), (1, .int x1)] [] s (by repeat (first | exact trivial | refine ⟨rfl, ?_⟩)) (by decide +kernel) ?_
    refine cf_R_call (pc := 48) (q := ([.ref 25], [])) rp_106 rfl rfl (by decide) (by decide) rp_150 rfl (Nat.le_of_ble_eq_true rfl) ⟨rfl, Nat.le_of_ble_eq_true rfl⟩ h (fun v s1 h => ?_)
    obtain ⟨r1, rfl, h⟩ := h
    exact cf_R_ret (pc := 51) (v := some (.int r1)) rp_106 rfl rfl rfl ⟨_, rfl, h⟩
  replace h := h.2 hb
  refine cf_R_sw (fun hb => ?_) (fun hb => ?_)
  · replace h := h.1 hb
    refine cf_R_w rp_106 (rf_bk am_t106 6 2) 52 [(0, .ref 0), (1, .int x1)] [] s (by repeat (first | exact trivial | refine ⟨rfl, ?_⟩)) (by decide +kernel) ?_
    refine cf_R_call (pc := 56) (q := ([.ref 25], [])) rp_106 rfl rfl (by decide) (by decide) rp_151 rfl (Nat.le_of_ble_eq_true rfl) ⟨rfl, Nat.le_of_ble_eq_true rfl⟩ h (fun v s2 h => ?_)
    obtain ⟨r2, rfl, h⟩ := h
    exact cf_R_ret (pc := 59) (v := some (.int r2)) rp_106 rfl rfl rfl ⟨_, rfl, h⟩
  replace h := h.2 hb
  refine cf_R_sw (fun hb => ?_) (fun hb => ?_)
  · replace h := h.1 hb
    refine cf_R_w rp_106 (rf_bk am_t106 10 2) 60 [(0, .ref 0), (1, .int x1)] [] s (by repeat (first | exact trivial | refine ⟨rfl, ?_⟩)) (by decide +kernel) ?_
    refine cf_R_call (pc := 64) (q := ([.ref 25], [])) rp_106 rfl rfl (by decide) (by decide) rp_155 rfl (Nat.le_of_ble_eq_true rfl) ⟨rfl, Nat.le_of_ble_eq_true rfl⟩ h (fun v s3 h => ?_)
    obtain ⟨r3, rfl, h⟩ := h
    exact cf_R_ret (pc := 67) (v := some (.int r3)) rp_106 rfl rfl rfl ⟨_, rfl, h⟩
  replace h := h.2 hb
  refine cf_R_sw (fun hb => ?_) (fun hb => ?_)
  · replace h := h.1 hb
    refine cf_R_w rp_106 (rf_bk am_t106 14 2) 68 [(0, .ref 0), (1, .int x1)] [] s (by repeat (first | exact trivial | refine ⟨rfl, ?_⟩)) (by decide +kernel) ?_
    refine cf_R_call (pc := 72) (q := ([.ref 25], [])) rp_106 rfl rfl (by decide) (by decide) rp_152 rfl (Nat.le_of_ble_eq_true rfl) ⟨rfl, Nat.le_of_ble_eq_true rfl⟩ h (fun v s4 h => ?_)
    obtain ⟨r4, rfl, h⟩ := h
    exact cf_R_ret (pc := 75) (v := some (.int r4)) rp_106 rfl rfl rfl ⟨_, rfl, h⟩
  replace h := h.2 hb
  refine cf_R_sw (fun hb => ?_) (fun hb => ?_)
  · replace h := h.1 hb
    refine cf_R_w rp_106 (rf_bk am_t106 18 2) 76 [(0, .ref 0), (1, .int x1)] [] s (by repeat (first | exact trivial | refine ⟨rfl, ?_⟩)) (by decide +kernel) ?_
    refine cf_R_call (pc := 80) (q := ([.ref 25], [])) rp_106 rfl rfl (by decide) (by decide) rp_153 rfl (Nat.le_of_ble_eq_true rfl) ⟨rfl, Nat.le_of_ble_eq_true rfl⟩ h (fun v s5 h => ?_)
    obtain ⟨r5, rfl, h⟩ := h
    exact cf_R_ret (pc := 83) (v := some (.int r5)) rp_106 rfl rfl rfl ⟨_, rfl, h⟩
  replace h := h.2 hb
  refine cf_R_sw (fun hb => ?_) (fun hb => ?_)
  · replace h := h.1 hb
    refine cf_R_w rp_106 (rf_bk am_t106 22 2) 84 [(0, .ref 0), (1, .int x1)] [] s (by repeat (first | exact trivial | refine ⟨rfl, ?_⟩)) (by decide +kernel) ?_
    refine cf_R_call (pc := 88) (q := ([.ref 25], [])) rp_106 rfl rfl (by decide) (by decide) rp_154 rfl (Nat.le_of_ble_eq_true rfl) ⟨rfl, Nat.le_of_ble_eq_true rfl⟩ h (fun v s6 h => ?_)
    obtain ⟨r6, rfl, h⟩ := h
    exact cf_R_ret (pc := 91) (v := some (.int r6)) rp_106 rfl rfl rfl ⟨_, rfl, h⟩
  replace h := h.2 hb
  refine cf_R_sw (fun hb => ?_) (fun hb => ?_)
  · replace h := h.1 hb
    refine cf_R_w rp_106 (rf_bk am_t106 26 2) 92 [(0, .ref 0), (1, .int x1)] [] s (by repeat (first | exact trivial | refine ⟨rfl, ?_⟩)) (by decide +kernel) ?_
    refine cf_R_prim (pc := 96) (q := ([.ref 1], [])) rp_106 rfl rfl (by decide) (by decide) rp_118 rfl (Nat.le_of_ble_eq_true rfl) ⟨rfl, Nat.le_of_ble_eq_true rfl⟩ (cq_length rfl) ?_
    exact cf_R_ret (pc := 99) (v := some (.int (s.1 1 1))) rp_106 rfl rfl rfl ⟨_, rfl, h⟩
  replace h := h.2 hb
  show cf_R (d + 10) 106 (100, _, _, _) _
  refine cf_R_w rp_106 (rf_bk am_t106 30 1) 100 [(0, .ref 0), (1, .int x1)] [] s (by repeat (first | exact trivial | refine ⟨rfl, ?_⟩)) (by decide +kernel) ?_
  exact cf_R_ret (pc := 101) (v := some (.int (Int32.ofInt (-1)))) rp_106 rfl rfl rfl ⟨_, rfl, h⟩
/-- LazyHouse$Binder.bind ()I, from 80 on -/
def wc_Binder_bind_80 (d : Nat) (x1 : Int32) (s : cf_S) (Q : Int32 → cf_S → Prop) : Prop := (((s.1 18 2) ≤ x1 → Q (Int32.ofInt (-1)) s) ∧ (¬ ((s.1 18 2) ≤ x1) → cf_V (d + 9) 111 [(0, .ref 24), (1, .int x1)] s (fun s1 => cf_R (d + 10) 108 (80, [(0, .ref 24), (1, .int (x1 + Int32.ofInt 1))], [], s1) (cf_qI Q))))
set_option maxRecDepth 20000 in
theorem wc_Binder_bind_80_ok {d : Nat} {x1 : Int32} {s : cf_S} {Q : Int32 → cf_S → Prop} (h : wc_Binder_bind_80 d x1 s Q) : cf_R (d + 10) 108 (80, [(0, .ref 24), (1, .int x1)], [], s) (cf_qI Q) := by
  unfold wc_Binder_bind_80 at h
  refine cf_R_w rp_108 (rf_bk am_t108 38 3) 80 [(0, .ref 24), (1, .int x1)] [] s (by repeat (first | exact trivial | refine ⟨rfl, ?_⟩)) (by decide +kernel) ?_
  refine cf_R_prim (pc := 85) (q := ([.ref 18], [.int x1])) rp_108 rfl rfl (by decide) (by decide) rp_270 rfl (Nat.le_of_ble_eq_true rfl) ⟨rfl, Nat.le_of_ble_eq_true rfl⟩ (cq_rows rfl) ?_
  refine cf_R_w rp_108 (rf_bk am_t108 42 1) 88 [(0, .ref 24), (1, .int x1)] [.int (s.1 18 2), .int x1] s (by repeat (first | exact trivial | refine ⟨rfl, ?_⟩)) (by decide +kernel) ?_
  refine cf_R_if (b := am_cnd .ge x1 (s.1 18 2)) (p := 102) (q := 91) (fun hb => ?_) (fun hb => ?_)
  · replace h := h.1 (of_decide_eq_true hb)
    refine cf_R_w rp_108 (rf_bk am_t108 48 1) 102 [(0, .ref 24), (1, .int x1)] [] s (by repeat (first | exact trivial | refine ⟨rfl, ?_⟩)) (by decide +kernel) ?_
    exact cf_R_ret (pc := 103) (v := some (.int (Int32.ofInt (-1)))) rp_108 rfl rfl rfl ⟨_, rfl, h⟩
  · replace h := h.2 (of_decide_eq_false hb)
    refine cf_R_w rp_108 (rf_bk am_t108 43 2) 91 [(0, .ref 24), (1, .int x1)] [] s (by repeat (first | exact trivial | refine ⟨rfl, ?_⟩)) (by decide +kernel) ?_
    refine cf_R_call (pc := 93) (q := ([.ref 24, .int x1], [])) rp_108 rfl rfl (by decide) (by decide) rp_111 rfl (Nat.le_of_ble_eq_true rfl) ⟨rfl, Nat.le_of_ble_eq_true rfl⟩ h (fun v s1 h => ?_)
    obtain ⟨rfl, h⟩ := h
    refine cf_R_w rp_108 (rf_bk am_t108 46 2) 96 [(0, .ref 24), (1, .int x1)] [] s1 (by repeat (first | exact trivial | refine ⟨rfl, ?_⟩)) (by decide +kernel) ?_
    exact cf_R_le (l := [(0, .ref 24), (1, .int (x1 + Int32.ofInt 1))]) rfl rfl (⟨rfl, rfl, trivial⟩) h
/-- LazyHouse$Binder.bind ()I, from 2 on -/
def wc_Binder_bind_2 (d : Nat) (x1 : Int32) (s : cf_S) (Q : Int32 → cf_S → Prop) : Prop := (((s.1 16 2) ≤ x1 → cf_I (d + 9) 237 [(0, .ref 3)] s (fun r1 s1 => ((r1 = 0 → Q (s1.1 3 1) s1) ∧ (¬ (r1 = 0) → cf_I (d + 9) 237 [(0, .ref 3)] s1 (fun r2 s2 => cf_I (d + 9) 238 [(0, .ref 3), (1, .int r2)] s2 (fun r3 s3 => ((r3 = 0 → cf_R (d + 10) 108 (80, [(0, .ref 24), (1, .int (Int32.ofInt 1))], [], s3) (cf_qI Q)) ∧ (¬ (r3 = 0) → Q (s3.1 3 1) s3)))))))) ∧ (¬ ((s.1 16 2) ≤ x1) → cf_I (d + 9) 109 [(0, .ref 24), (1, .int x1)] s (fun r4 s4 => ((¬ r4 = 0 → cf_R (d + 10) 108 (2, [(0, .ref 24), (1, .int (x1 + Int32.ofInt 1))], [], s4) (cf_qI Q)) ∧ (r4 = 0 → Q (tb_get s4 16 x1 (Int32.ofInt 1)) s4)))))
set_option maxRecDepth 20000 in
theorem wc_Binder_bind_2_ok {d : Nat} {x1 : Int32} {s : cf_S} {Q : Int32 → cf_S → Prop} (h : wc_Binder_bind_2 d x1 s Q) : cf_R (d + 10) 108 (2, [(0, .ref 24), (1, .int x1)], [], s) (cf_qI Q) := by
  unfold wc_Binder_bind_2 at h
  refine cf_R_w rp_108 (rf_bk am_t108 2 4) 2 [(0, .ref 24), (1, .int x1)] [] s (by repeat (first | exact trivial | refine ⟨rfl, ?_⟩)) (by decide +kernel) ?_
  refine cf_R_prim (pc := 10) (q := ([.ref 16], [.int x1])) rp_108 rfl rfl (by decide) (by decide) rp_270 rfl (Nat.le_of_ble_eq_true rfl) ⟨rfl, Nat.le_of_ble_eq_true rfl⟩ (cq_rows rfl) ?_
  refine cf_R_w rp_108 (rf_bk am_t108 7 1) 13 [(0, .ref 24), (1, .int x1)] [.int (s.1 16 2), .int x1] s (by repeat (first | exact trivial | refine ⟨rfl, ?_⟩)) (by decide +kernel) ?_
  refine cf_R_if (b := am_cnd .ge x1 (s.1 16 2)) (p := 43) (q := 16) (fun hb => ?_) (fun hb => ?_)
  · replace h := h.1 (of_decide_eq_true hb)
    refine cf_R_w rp_108 (rf_bk am_t108 21 2) 43 [(0, .ref 24), (1, .int x1)] [] s (by repeat (first | exact trivial | refine ⟨rfl, ?_⟩)) (by decide +kernel) ?_
    refine cf_R_call (pc := 47) (q := ([.ref 3], [])) rp_108 rfl rfl (by decide) (by decide) rp_237 rfl (Nat.le_of_ble_eq_true rfl) ⟨rfl, Nat.le_of_ble_eq_true rfl⟩ h (fun v s1 h => ?_)
    obtain ⟨r1, rfl, h⟩ := h
    refine cf_R_w rp_108 (rf_bk am_t108 24 1) 50 [(0, .ref 24), (1, .int x1)] [.int r1] s1 (by repeat (first | exact trivial | refine ⟨rfl, ?_⟩)) (by decide +kernel) ?_
    refine cf_R_if (b := am_cnd .eq r1 0) (p := 70) (q := 53) (fun hb => ?_) (fun hb => ?_)
    · replace h := h.1 (of_decide_eq_true hb)
      refine cf_R_w rp_108 (rf_bk am_t108 32 3) 70 [(0, .ref 24), (1, .int x1)] [] s1 (by repeat (first | exact trivial | refine ⟨rfl, ?_⟩)) (by decide +kernel) ?_
      exact cf_R_ret (pc := 77) (v := some (.int (s1.1 3 1))) rp_108 rfl rfl rfl ⟨_, rfl, h⟩
    · replace h := h.2 (of_decide_eq_false hb)
      refine cf_R_w rp_108 (rf_bk am_t108 25 4) 53 [(0, .ref 24), (1, .int x1)] [] s1 (by repeat (first | exact trivial | refine ⟨rfl, ?_⟩)) (by decide +kernel) ?_
      refine cf_R_call (pc := 61) (q := ([.ref 3], [.ref 3])) rp_108 rfl rfl (by decide) (by decide) rp_237 rfl (Nat.le_of_ble_eq_true rfl) ⟨rfl, Nat.le_of_ble_eq_true rfl⟩ h (fun v s2 h => ?_)
      obtain ⟨r2, rfl, h⟩ := h
      refine cf_R_call (pc := 64) (q := ([.ref 3, .int r2], [])) rp_108 rfl rfl (by decide) (by decide) rp_238 rfl (Nat.le_of_ble_eq_true rfl) ⟨rfl, Nat.le_of_ble_eq_true rfl⟩ h (fun v s3 h => ?_)
      obtain ⟨r3, rfl, h⟩ := h
      refine cf_R_w rp_108 (rf_bk am_t108 31 1) 67 [(0, .ref 24), (1, .int x1)] [.int r3] s3 (by repeat (first | exact trivial | refine ⟨rfl, ?_⟩)) (by decide +kernel) ?_
      refine cf_R_if (b := am_cnd .eq r3 0) (p := 78) (q := 70) (fun hb => ?_) (fun hb => ?_)
      · replace h := h.1 (of_decide_eq_true hb)
        refine cf_R_w rp_108 (rf_bk am_t108 36 2) 78 [(0, .ref 24), (1, .int x1)] [] s3 (by repeat (first | exact trivial | refine ⟨rfl, ?_⟩)) (by decide +kernel) ?_
        exact cf_R_le (l := [(0, .ref 24), (1, .int (Int32.ofInt 1))]) rfl rfl (⟨rfl, rfl, trivial⟩) h
      · replace h := h.2 (of_decide_eq_false hb)
        refine cf_R_w rp_108 (rf_bk am_t108 32 3) 70 [(0, .ref 24), (1, .int x1)] [] s3 (by repeat (first | exact trivial | refine ⟨rfl, ?_⟩)) (by decide +kernel) ?_
        exact cf_R_ret (pc := 77) (v := some (.int (s3.1 3 1))) rp_108 rfl rfl rfl ⟨_, rfl, h⟩
  · replace h := h.2 (of_decide_eq_false hb)
    refine cf_R_w rp_108 (rf_bk am_t108 8 2) 16 [(0, .ref 24), (1, .int x1)] [] s (by repeat (first | exact trivial | refine ⟨rfl, ?_⟩)) (by decide +kernel) ?_
    refine cf_R_call (pc := 18) (q := ([.ref 24, .int x1], [])) rp_108 rfl rfl (by decide) (by decide) rp_109 rfl (Nat.le_of_ble_eq_true rfl) ⟨rfl, Nat.le_of_ble_eq_true rfl⟩ h (fun v s4 h => ?_)
    obtain ⟨r4, rfl, h⟩ := h
    refine cf_R_w rp_108 (rf_bk am_t108 11 1) 21 [(0, .ref 24), (1, .int x1)] [.int r4] s4 (by repeat (first | exact trivial | refine ⟨rfl, ?_⟩)) (by decide +kernel) ?_
    refine cf_R_if (b := am_cnd .ne r4 0) (p := 37) (q := 24) (fun hb => ?_) (fun hb => ?_)
    · replace h := h.1 (of_decide_eq_true hb)
      refine cf_R_w rp_108 (rf_bk am_t108 19 2) 37 [(0, .ref 24), (1, .int x1)] [] s4 (by repeat (first | exact trivial | refine ⟨rfl, ?_⟩)) (by decide +kernel) ?_
      exact cf_R_le (l := [(0, .ref 24), (1, .int (x1 + Int32.ofInt 1))]) rfl rfl (⟨rfl, rfl, trivial⟩) h
    · replace h := h.2 (Decidable.not_not.mp (of_decide_eq_false hb))
      refine cf_R_w rp_108 (rf_bk am_t108 12 5) 24 [(0, .ref 24), (1, .int x1)] [] s4 (by repeat (first | exact trivial | refine ⟨rfl, ?_⟩)) (by decide +kernel) ?_
      refine cf_R_prim (pc := 33) (q := ([.ref 16, .int x1, .int (Int32.ofInt 1)], [])) rp_108 rfl rfl (by decide) (by decide) rp_273 rfl (Nat.le_of_ble_eq_true rfl) ⟨rfl, Nat.le_of_ble_eq_true rfl⟩ (cq_get rfl) ?_
      exact cf_R_ret (pc := 36) (v := some (.int (tb_get s4 16 x1 (Int32.ofInt 1)))) rp_108 rfl rfl rfl ⟨_, rfl, h⟩
/-- LazyHouse$Binder.bind ()I, from 0 on -/
def wc_Binder_bind (d : Nat) (s : cf_S) (Q : Int32 → cf_S → Prop) : Prop := cf_R (d + 10) 108 (2, [(0, .ref 24), (1, .int (Int32.ofInt 1))], [], s) (cf_qI Q)
set_option maxRecDepth 20000 in
theorem wc_Binder_bind_ok {d : Nat} {s : cf_S} {Q : Int32 → cf_S → Prop} (h : wc_Binder_bind d s Q) : cf_I (d + 10) 108 [(0, .ref 24)] s Q := by
  unfold wc_Binder_bind at h
  unfold cf_I
  refine cf_R_w rp_108 (rf_bk am_t108 0 2) 0 [(0, .ref 24)] [] s (by repeat (first | exact trivial | refine ⟨rfl, ?_⟩)) (by decide +kernel) ?_
  exact cf_R_le (l := [(0, .ref 24), (1, .int (Int32.ofInt 1))]) rfl rfl (⟨rfl, rfl, trivial⟩) h
/-- LazyHouse$Binder.bindUse (I)Z, from 0 on -/
def wc_Binder_bindUse (d : Nat) (x1 : Int32) (s : cf_S) (Q : Int32 → cf_S → Prop) : Prop := cf_I (d + 9) 110 [(0, .ref 24), (1, .int (tb_get s 16 x1 (Int32.ofInt 0))), (2, .int (tb_get s 16 x1 (Int32.ofInt 1)))] s (fun r1 s1 => ((r1 = 0 → (((tb_get s1 6 (tb_get s 16 x1 (Int32.ofInt 0)) (Int32.ofInt 3)) = 0 → Q (Int32.ofInt 0) (tb_set (tb_set s1 18 (tb_get s 16 x1 (Int32.ofInt 2)) (Int32.ofInt 0) (Int32.ofInt 3)) 18 (tb_get s 16 x1 (Int32.ofInt 2)) (Int32.ofInt 1) (tb_get s1 6 (tb_get s 16 x1 (Int32.ofInt 0)) (Int32.ofInt 3)))) ∧ (¬ ((tb_get s1 6 (tb_get s 16 x1 (Int32.ofInt 0)) (Int32.ofInt 3)) = 0) → Q (Int32.ofInt 1) (tb_set (tb_set s1 18 (tb_get s 16 x1 (Int32.ofInt 2)) (Int32.ofInt 0) (Int32.ofInt 3)) 18 (tb_get s 16 x1 (Int32.ofInt 2)) (Int32.ofInt 1) (tb_get s1 6 (tb_get s 16 x1 (Int32.ofInt 0)) (Int32.ofInt 3)))))) ∧ (¬ (r1 = 0) → Q (Int32.ofInt 1) (tb_set (tb_set (tb_set s1 16 x1 (Int32.ofInt 3) r1) 18 (tb_get s 16 x1 (Int32.ofInt 2)) (Int32.ofInt 0) (Int32.ofInt 2)) 18 (tb_get s 16 x1 (Int32.ofInt 2)) (Int32.ofInt 1) r1))))
set_option maxRecDepth 20000 in
theorem wc_Binder_bindUse_ok {d : Nat} {x1 : Int32} {s : cf_S} {Q : Int32 → cf_S → Prop} (h : wc_Binder_bindUse d x1 s Q) : cf_I (d + 10) 109 [(0, .ref 24), (1, .int x1)] s Q := by
  unfold wc_Binder_bindUse at h
  unfold cf_I
  refine cf_R_w rp_109 (rf_bk am_t109 0 5) 0 [(0, .ref 24), (1, .int x1)] [] s (by repeat (first | exact trivial | refine ⟨rfl, ?_⟩)) (by decide +kernel) ?_
  refine cf_R_prim (pc := 9) (q := ([.ref 16, .int x1, .int (Int32.ofInt 2)], [])) rp_109 rfl rfl (by decide) (by decide) rp_273 rfl (Nat.le_of_ble_eq_true rfl) ⟨rfl, Nat.le_of_ble_eq_true rfl⟩ (cq_get rfl) ?_
  refine cf_R_w rp_109 (rf_bk am_t109 6 6) 12 [(0, .ref 24), (1, .int x1)] [.int (tb_get s 16 x1 (Int32.ofInt 2))] s (by repeat (first | exact trivial | refine ⟨rfl, ?_⟩)) (by decide +kernel) ?_
  refine cf_R_prim (pc := 22) (q := ([.ref 16, .int x1, .int (Int32.ofInt 0)], [])) rp_109 rfl rfl (by decide) (by decide) rp_273 rfl (Nat.le_of_ble_eq_true rfl) ⟨rfl, Nat.le_of_ble_eq_true rfl⟩ (cq_get rfl) ?_
  refine cf_R_w rp_109 (rf_bk am_t109 13 8) 25 [(2, .int (tb_get s 16 x1 (Int32.ofInt 2))), (0, .ref 24), (1, .int x1)] [.int (tb_get s 16 x1 (Int32.ofInt 0))] s (by repeat (first | exact trivial | refine ⟨rfl, ?_⟩)) (by decide +kernel) ?_
  refine cf_R_prim (pc := 37) (q := ([.ref 16, .int x1, .int (Int32.ofInt 1)], [.int (tb_get s 16 x1 (Int32.ofInt 0)), .ref 24])) rp_109 rfl rfl (by decide) (by decide) rp_273 rfl (Nat.le_of_ble_eq_true rfl) ⟨rfl, Nat.le_of_ble_eq_true rfl⟩ (cq_get rfl) ?_
  refine cf_R_call (pc := 40) (q := ([.ref 24, .int (tb_get s 16 x1 (Int32.ofInt 0)), .int (tb_get s 16 x1 (Int32.ofInt 1))], [])) rp_109 rfl rfl (by decide) (by decide) rp_110 rfl (Nat.le_of_ble_eq_true rfl) ⟨rfl, Nat.le_of_ble_eq_true rfl⟩ h (fun v s1 h => ?_)
  obtain ⟨r1, rfl, h⟩ := h
  refine cf_R_w rp_109 (rf_bk am_t109 23 3) 43 [(3, .int (tb_get s 16 x1 (Int32.ofInt 0))), (2, .int (tb_get s 16 x1 (Int32.ofInt 2))), (0, .ref 24), (1, .int x1)] [.int r1] s1 (by repeat (first | exact trivial | refine ⟨rfl, ?_⟩)) (by decide +kernel) ?_
  refine cf_R_if (b := am_cnd .eq r1 0) (p := 87) (q := 50) (fun hb => ?_) (fun hb => ?_)
  · replace h := h.1 (of_decide_eq_true hb)
    refine cf_R_w rp_109 (rf_bk am_t109 47 5) 87 [(4, .int r1), (3, .int (tb_get s 16 x1 (Int32.ofInt 0))), (2, .int (tb_get s 16 x1 (Int32.ofInt 2))), (0, .ref 24), (1, .int x1)] [] s1 (by repeat (first | exact trivial | refine ⟨rfl, ?_⟩)) (by decide +kernel) ?_
    refine cf_R_prim (pc := 96) (q := ([.ref 6, .int (tb_get s 16 x1 (Int32.ofInt 0)), .int (Int32.ofInt 3)], [])) rp_109 rfl rfl (by decide) (by decide) rp_273 rfl (Nat.le_of_ble_eq_true rfl) ⟨rfl, Nat.le_of_ble_eq_true rfl⟩ (cq_get rfl) ?_
    refine cf_R_w rp_109 (rf_bk am_t109 53 6) 99 [(4, .int r1), (3, .int (tb_get s 16 x1 (Int32.ofInt 0))), (2, .int (tb_get s 16 x1 (Int32.ofInt 2))), (0, .ref 24), (1, .int x1)] [.int (tb_get s1 6 (tb_get s 16 x1 (Int32.ofInt 0)) (Int32.ofInt 3))] s1 (by repeat (first | exact trivial | refine ⟨rfl, ?_⟩)) (by decide +kernel) ?_
    refine cf_R_prim (pc := 108) (q := ([.ref 18, .int (tb_get s 16 x1 (Int32.ofInt 2)), .int (Int32.ofInt 0), .int (Int32.ofInt 3)], [])) rp_109 rfl rfl (by decide) (by decide) rp_274 rfl (Nat.le_of_ble_eq_true rfl) ⟨rfl, Nat.le_of_ble_eq_true rfl⟩ (cq_set rfl) ?_
    refine cf_R_w rp_109 (rf_bk am_t109 60 5) 111 [(5, .int (tb_get s1 6 (tb_get s 16 x1 (Int32.ofInt 0)) (Int32.ofInt 3))), (4, .int r1), (3, .int (tb_get s 16 x1 (Int32.ofInt 0))), (2, .int (tb_get s 16 x1 (Int32.ofInt 2))), (0, .ref 24), (1, .int x1)] [] (tb_set s1 18 (tb_get s 16 x1 (Int32.ofInt 2)) (Int32.ofInt 0) (Int32.ofInt 3)) (by repeat (first | exact trivial | refine ⟨rfl, ?_⟩)) (by decide +kernel) ?_
    refine cf_R_prim (pc := 119) (q := ([.ref 18, .int (tb_get s 16 x1 (Int32.ofInt 2)), .int (Int32.ofInt 1), .int (tb_get s1 6 (tb_get s 16 x1 (Int32.ofInt 0)) (Int32.ofInt 3))], [])) rp_109 rfl rfl (by decide) (by decide) rp_274 rfl (Nat.le_of_ble_eq_true rfl) ⟨rfl, Nat.le_of_ble_eq_true rfl⟩ (cq_set rfl) ?_
    refine cf_R_w rp_109 (rf_bk am_t109 66 2) 122 [(5, .int (tb_get s1 6 (tb_get s 16 x1 (Int32.ofInt 0)) (Int32.ofInt 3))), (4, .int r1), (3, .int (tb_get s 16 x1 (Int32.ofInt 0))), (2, .int (tb_get s 16 x1 (Int32.ofInt 2))), (0, .ref 24), (1, .int x1)] [] (tb_set (tb_set s1 18 (tb_get s 16 x1 (Int32.ofInt 2)) (Int32.ofInt 0) (Int32.ofInt 3)) 18 (tb_get s 16 x1 (Int32.ofInt 2)) (Int32.ofInt 1) (tb_get s1 6 (tb_get s 16 x1 (Int32.ofInt 0)) (Int32.ofInt 3))) (by repeat (first | exact trivial | refine ⟨rfl, ?_⟩)) (by decide +kernel) ?_
    refine cf_R_if (b := am_cnd .eq (tb_get s1 6 (tb_get s 16 x1 (Int32.ofInt 0)) (Int32.ofInt 3)) 0) (p := 131) (q := 127) (fun hb => ?_) (fun hb => ?_)
    · replace h := h.1 (of_decide_eq_true hb)
      refine cf_R_w rp_109 (rf_bk am_t109 70 1) 131 [(5, .int (tb_get s1 6 (tb_get s 16 x1 (Int32.ofInt 0)) (Int32.ofInt 3))), (4, .int r1), (3, .int (tb_get s 16 x1 (Int32.ofInt 0))), (2, .int (tb_get s 16 x1 (Int32.ofInt 2))), (0, .ref 24), (1, .int x1)] [] (tb_set (tb_set s1 18 (tb_get s 16 x1 (Int32.ofInt 2)) (Int32.ofInt 0) (Int32.ofInt 3)) 18 (tb_get s 16 x1 (Int32.ofInt 2)) (Int32.ofInt 1) (tb_get s1 6 (tb_get s 16 x1 (Int32.ofInt 0)) (Int32.ofInt 3))) (by repeat (first | exact trivial | refine ⟨rfl, ?_⟩)) (by decide +kernel) ?_
      exact cf_R_ret (pc := 132) (v := some (.int (Int32.ofInt 0))) rp_109 rfl rfl rfl ⟨_, rfl, h⟩
    · replace h := h.2 (of_decide_eq_false hb)
      refine cf_R_w rp_109 (rf_bk am_t109 68 2) 127 [(5, .int (tb_get s1 6 (tb_get s 16 x1 (Int32.ofInt 0)) (Int32.ofInt 3))), (4, .int r1), (3, .int (tb_get s 16 x1 (Int32.ofInt 0))), (2, .int (tb_get s 16 x1 (Int32.ofInt 2))), (0, .ref 24), (1, .int x1)] [] (tb_set (tb_set s1 18 (tb_get s 16 x1 (Int32.ofInt 2)) (Int32.ofInt 0) (Int32.ofInt 3)) 18 (tb_get s 16 x1 (Int32.ofInt 2)) (Int32.ofInt 1) (tb_get s1 6 (tb_get s 16 x1 (Int32.ofInt 0)) (Int32.ofInt 3))) (by repeat (first | exact trivial | refine ⟨rfl, ?_⟩)) (by decide +kernel) ?_
      exact cf_R_ret (pc := 132) (v := some (.int (Int32.ofInt 1))) rp_109 rfl rfl rfl ⟨_, rfl, h⟩
  · replace h := h.2 (of_decide_eq_false hb)
    refine cf_R_w rp_109 (rf_bk am_t109 26 6) 50 [(4, .int r1), (3, .int (tb_get s 16 x1 (Int32.ofInt 0))), (2, .int (tb_get s 16 x1 (Int32.ofInt 2))), (0, .ref 24), (1, .int x1)] [] s1 (by repeat (first | exact trivial | refine ⟨rfl, ?_⟩)) (by decide +kernel) ?_
    refine cf_R_prim (pc := 61) (q := ([.ref 16, .int x1, .int (Int32.ofInt 3), .int r1], [])) rp_109 rfl rfl (by decide) (by decide) rp_274 rfl (Nat.le_of_ble_eq_true rfl) ⟨rfl, Nat.le_of_ble_eq_true rfl⟩ (cq_set rfl) ?_
    refine cf_R_w rp_109 (rf_bk am_t109 33 5) 64 [(4, .int r1), (3, .int (tb_get s 16 x1 (Int32.ofInt 0))), (2, .int (tb_get s 16 x1 (Int32.ofInt 2))), (0, .ref 24), (1, .int x1)] [] (tb_set s1 16 x1 (Int32.ofInt 3) r1) (by repeat (first | exact trivial | refine ⟨rfl, ?_⟩)) (by decide +kernel) ?_
    refine cf_R_prim (pc := 71) (q := ([.ref 18, .int (tb_get s 16 x1 (Int32.ofInt 2)), .int (Int32.ofInt 0), .int (Int32.ofInt 2)], [])) rp_109 rfl rfl (by decide) (by decide) rp_274 rfl (Nat.le_of_ble_eq_true rfl) ⟨rfl, Nat.le_of_ble_eq_true rfl⟩ (cq_set rfl) ?_
    refine cf_R_w rp_109 (rf_bk am_t109 39 5) 74 [(4, .int r1), (3, .int (tb_get s 16 x1 (Int32.ofInt 0))), (2, .int (tb_get s 16 x1 (Int32.ofInt 2))), (0, .ref 24), (1, .int x1)] [] (tb_set (tb_set s1 16 x1 (Int32.ofInt 3) r1) 18 (tb_get s 16 x1 (Int32.ofInt 2)) (Int32.ofInt 0) (Int32.ofInt 2)) (by repeat (first | exact trivial | refine ⟨rfl, ?_⟩)) (by decide +kernel) ?_
    refine cf_R_prim (pc := 82) (q := ([.ref 18, .int (tb_get s 16 x1 (Int32.ofInt 2)), .int (Int32.ofInt 1), .int r1], [])) rp_109 rfl rfl (by decide) (by decide) rp_274 rfl (Nat.le_of_ble_eq_true rfl) ⟨rfl, Nat.le_of_ble_eq_true rfl⟩ (cq_set rfl) ?_
    refine cf_R_w rp_109 (rf_bk am_t109 45 1) 85 [(4, .int r1), (3, .int (tb_get s 16 x1 (Int32.ofInt 0))), (2, .int (tb_get s 16 x1 (Int32.ofInt 2))), (0, .ref 24), (1, .int x1)] [] (tb_set (tb_set (tb_set s1 16 x1 (Int32.ofInt 3) r1) 18 (tb_get s 16 x1 (Int32.ofInt 2)) (Int32.ofInt 0) (Int32.ofInt 2)) 18 (tb_get s 16 x1 (Int32.ofInt 2)) (Int32.ofInt 1) r1) (by repeat (first | exact trivial | refine ⟨rfl, ?_⟩)) (by decide +kernel) ?_
    exact cf_R_ret (pc := 86) (v := some (.int (Int32.ofInt 1))) rp_109 rfl rfl rfl ⟨_, rfl, h⟩
/-- LazyHouse$Binder.innermost (II)I, from 109 on -/
def wc_Binder_innermost_109 (d : Nat) (x2 : Int32) (x3 : Int32) (x4 : Int32) (x5 : Int32) (x6 : Int32) (s : cf_S) (Q : Int32 → cf_S → Prop) : Prop := cf_R (d + 10) 110 (22, [(0, .ref 24), (2, .int x2), (3, .int x3), (4, .int x4), (5, .int (tb_get s 14 x5 (Int32.ofInt 1))), (6, .int (x6 + Int32.ofInt 1))], [], s) (cf_qI Q)
set_option maxRecDepth 20000 in
theorem wc_Binder_innermost_109_ok {d : Nat} {x2 : Int32} {x3 : Int32} {x4 : Int32} {x5 : Int32} {x6 : Int32} {s : cf_S} {Q : Int32 → cf_S → Prop} (h : wc_Binder_innermost_109 d x2 x3 x4 x5 x6 s Q) : cf_R (d + 10) 110 (109, [(0, .ref 24), (2, .int x2), (3, .int x3), (4, .int x4), (5, .int x5), (6, .int x6)], [], s) (cf_qI Q) := by
  unfold wc_Binder_innermost_109 at h
  refine cf_R_w rp_110 (rf_bk am_t110 54 5) 109 [(0, .ref 24), (2, .int x2), (3, .int x3), (4, .int x4), (5, .int x5), (6, .int x6)] [] s (by repeat (first | exact trivial | refine ⟨rfl, ?_⟩)) (by decide +kernel) ?_
  refine cf_R_prim (pc := 119) (q := ([.ref 14, .int x5, .int (Int32.ofInt 1)], [])) rp_110 rfl rfl (by decide) (by decide) rp_273 rfl (Nat.le_of_ble_eq_true rfl) ⟨rfl, Nat.le_of_ble_eq_true rfl⟩ (cq_get rfl) ?_
  refine cf_R_w rp_110 (rf_bk am_t110 60 3) 122 [(0, .ref 24), (2, .int x2), (3, .int x3), (4, .int x4), (5, .int x5), (6, .int x6)] [.int (tb_get s 14 x5 (Int32.ofInt 1))] s (by repeat (first | exact trivial | refine ⟨rfl, ?_⟩)) (by decide +kernel) ?_
  exact cf_R_le (l := [(0, .ref 24), (2, .int x2), (3, .int x3), (4, .int x4), (5, .int (tb_get s 14 x5 (Int32.ofInt 1))), (6, .int (x6 + Int32.ofInt 1))]) rfl rfl (⟨rfl, rfl, rfl, rfl, rfl, rfl, trivial⟩) h
/-- LazyHouse$Binder.innermost (II)I, from 88 on -/
def wc_Binder_innermost_88 (d : Nat) (x2 : Int32) (x3 : Int32) (x4 : Int32) (x5 : Int32) (x6 : Int32) (x7 : Int32) (y0 : Int32) (s : cf_S) (Q : Int32 → cf_S → Prop) : Prop := ((y0 = 0 → wc_Binder_innermost_109 d x2 x3 x4 x5 x6 s Q) ∧ (¬ (y0 = 0) → ((x7 ≤ x4 → wc_Binder_innermost_109 d x2 x3 x4 x5 x6 s Q) ∧ (¬ (x7 ≤ x4) → wc_Binder_innermost_109 d x2 x5 x7 x5 x6 s Q))))
set_option maxRecDepth 20000 in
theorem wc_Binder_innermost_88_ok {d : Nat} {x2 : Int32} {x3 : Int32} {x4 : Int32} {x5 : Int32} {x6 : Int32} {x7 : Int32} {y0 : Int32} {s : cf_S} {Q : Int32 → cf_S → Prop} (h : wc_Binder_innermost_88 d x2 x3 x4 x5 x6 x7 y0 s Q) : cf_R (d + 10) 110 (88, [(0, .ref 24), (2, .int x2), (3, .int x3), (4, .int x4), (5, .int x5), (6, .int x6), (7, .int x7)], [.int y0], s) (cf_qI Q) := by
  unfold wc_Binder_innermost_88 at h
  refine cf_R_w rp_110 (rf_bk am_t110 44 3) 88 [(0, .ref 24), (2, .int x2), (3, .int x3), (4, .int x4), (5, .int x5), (6, .int x6), (7, .int x7)] [.int y0] s (by repeat (first | exact trivial | refine ⟨rfl, ?_⟩)) (by decide +kernel) ?_
  refine cf_R_if (b := am_cnd .eq y0 0) (p := 109) (q := 95) (fun hb => ?_) (fun hb => ?_)
  · replace h := h.1 (of_decide_eq_true hb)
    exact cf_R_le (l := [(0, .ref 24), (2, .int x2), (3, .int x3), (4, .int x4), (5, .int x5), (6, .int x6)]) rfl rfl (⟨rfl, rfl, rfl, rfl, rfl, rfl, trivial⟩) (wc_Binder_innermost_109_ok h)
  · replace h := h.2 (of_decide_eq_false hb)
    refine cf_R_w rp_110 (rf_bk am_t110 47 3) 95 [(8, .int y0), (0, .ref 24), (2, .int x2), (3, .int x3), (4, .int x4), (5, .int x5), (6, .int x6), (7, .int x7)] [] s (by repeat (first | exact trivial | refine ⟨rfl, ?_⟩)) (by decide +kernel) ?_
    refine cf_R_if (b := am_cnd .le x7 x4) (p := 109) (q := 102) (fun hb => ?_) (fun hb => ?_)
    · replace h := h.1 (of_decide_eq_true hb)
      exact cf_R_le (l := [(0, .ref 24), (2, .int x2), (3, .int x3), (4, .int x4), (5, .int x5), (6, .int x6)]) rfl rfl (⟨rfl, rfl, rfl, rfl, rfl, rfl, trivial⟩) (wc_Binder_innermost_109_ok h)
    · replace h := h.2 (of_decide_eq_false hb)
      refine cf_R_w rp_110 (rf_bk am_t110 50 4) 102 [(8, .int y0), (0, .ref 24), (2, .int x2), (3, .int x3), (4, .int x4), (5, .int x5), (6, .int x6), (7, .int x7)] [] s (by repeat (first | exact trivial | refine ⟨rfl, ?_⟩)) (by decide +kernel) ?_
      exact cf_R_le (l := [(0, .ref 24), (2, .int x2), (3, .int x5), (4, .int x7), (5, .int x5), (6, .int x6)]) rfl rfl (⟨rfl, rfl, rfl, rfl, rfl, rfl, trivial⟩) (wc_Binder_innermost_109_ok h)
/-- LazyHouse$Binder.innermost (II)I, from 87 on -/
def wc_Binder_innermost_87 (d : Nat) (x2 : Int32) (x3 : Int32) (x4 : Int32) (x5 : Int32) (x6 : Int32) (x7 : Int32) (s : cf_S) (Q : Int32 → cf_S → Prop) : Prop := wc_Binder_innermost_88 d x2 x3 x4 x5 x6 x7 (Int32.ofInt 0) s Q
set_option maxRecDepth 20000 in
theorem wc_Binder_innermost_87_ok {d : Nat} {x2 : Int32} {x3 : Int32} {x4 : Int32} {x5 : Int32} {x6 : Int32} {x7 : Int32} {s : cf_S} {Q : Int32 → cf_S → Prop} (h : wc_Binder_innermost_87 d x2 x3 x4 x5 x6 x7 s Q) : cf_R (d + 10) 110 (87, [(0, .ref 24), (2, .int x2), (3, .int x3), (4, .int x4), (5, .int x5), (6, .int x6), (7, .int x7)], [], s) (cf_qI Q) := by
  unfold wc_Binder_innermost_87 at h
  refine cf_R_w rp_110 (rf_bk am_t110 43 1) 87 [(0, .ref 24), (2, .int x2), (3, .int x3), (4, .int x4), (5, .int x5), (6, .int x6), (7, .int x7)] [] s (by repeat (first | exact trivial | refine ⟨rfl, ?_⟩)) (by decide +kernel) ?_
  exact cf_R_le (l := [(0, .ref 24), (2, .int x2), (3, .int x3), (4, .int x4), (5, .int x5), (6, .int x6), (7, .int x7)]) rfl rfl (⟨rfl, rfl, rfl, rfl, rfl, rfl, rfl, trivial⟩) (wc_Binder_innermost_88_ok h)
/-- LazyHouse$Binder.innermost (II)I, from 22 on -/
def wc_Binder_innermost_22 (d : Nat) (x2 : Int32) (x3 : Int32) (x4 : Int32) (x5 : Int32) (x6 : Int32) (s : cf_S) (Q : Int32 → cf_S → Prop) : Prop := (((Int32.ofNat 1000000) ≤ x6 → Q x3 s) ∧ (¬ ((Int32.ofNat 1000000) ≤ x6) → ((x5 = 0 → Q x3 s) ∧ (¬ (x5 = 0) → ((x2 < (tb_get s 12 (tb_get s 14 x5 (Int32.ofInt 0)) (Int32.ofInt 0)) → wc_Binder_innermost_87 d x2 x3 x4 x5 x6 (tb_get s 14 x5 (Int32.ofInt 0)) s Q) ∧ (¬ (x2 < (tb_get s 12 (tb_get s 14 x5 (Int32.ofInt 0)) (Int32.ofInt 0))) → (((tb_get s 12 (tb_get s 14 x5 (Int32.ofInt 0)) (Int32.ofInt 1)) ≤ x2 → wc_Binder_innermost_87 d x2 x3 x4 x5 x6 (tb_get s 14 x5 (Int32.ofInt 0)) s Q) ∧ (¬ ((tb_get s 12 (tb_get s 14 x5 (Int32.ofInt 0)) (Int32.ofInt 1)) ≤ x2) → wc_Binder_innermost_88 d x2 x3 x4 x5 x6 (tb_get s 14 x5 (Int32.ofInt 0)) (Int32.ofInt 1) s Q))))))))
set_option maxRecDepth 20000 in
theorem wc_Binder_innermost_22_ok {d : Nat} {x2 : Int32} {x3 : Int32} {x4 : Int32} {x5 : Int32} {x6 : Int32} {s : cf_S} {Q : Int32 → cf_S → Prop} (h : wc_Binder_innermost_22 d x2 x3 x4 x5 x6 s Q) : cf_R (d + 10) 110 (22, [(0, .ref 24), (2, .int x2), (3, .int x3), (4, .int x4), (5, .int x5), (6, .int x6)], [], s) (cf_qI Q) := by
  unfold wc_Binder_innermost_22 at h
  refine cf_R_w rp_110 (rf_bk am_t110 13 3) 22 [(0, .ref 24), (2, .int x2), (3, .int x3), (4, .int x4), (5, .int x5), (6, .int x6)] [] s (by repeat (first | exact trivial | refine ⟨rfl, ?_⟩)) (by decide +kernel) ?_
  refine cf_R_if (b := am_cnd .ge x6 (Int32.ofNat 1000000)) (p := 130) (q := 29) (fun hb => ?_) (fun hb => ?_)
  · replace h := h.1 (of_decide_eq_true hb)
    refine cf_R_w rp_110 (rf_bk am_t110 63 1) 130 [(0, .ref 24), (2, .int x2), (3, .int x3), (4, .int x4), (5, .int x5), (6, .int x6)] [] s (by repeat (first | exact trivial | refine ⟨rfl, ?_⟩)) (by decide +kernel) ?_
    exact cf_R_ret (pc := 131) (v := some (.int x3)) rp_110 rfl rfl rfl ⟨_, rfl, h⟩
  · replace h := h.2 (of_decide_eq_false hb)
    refine cf_R_w rp_110 (rf_bk am_t110 16 2) 29 [(0, .ref 24), (2, .int x2), (3, .int x3), (4, .int x4), (5, .int x5), (6, .int x6)] [] s (by repeat (first | exact trivial | refine ⟨rfl, ?_⟩)) (by decide +kernel) ?_
    refine cf_R_if (b := am_cnd .eq x5 0) (p := 130) (q := 34) (fun hb => ?_) (fun hb => ?_)
    · replace h := h.1 (of_decide_eq_true hb)
      refine cf_R_w rp_110 (rf_bk am_t110 63 1) 130 [(0, .ref 24), (2, .int x2), (3, .int x3), (4, .int x4), (5, .int x5), (6, .int x6)] [] s (by repeat (first | exact trivial | refine ⟨rfl, ?_⟩)) (by decide +kernel) ?_
      exact cf_R_ret (pc := 131) (v := some (.int x3)) rp_110 rfl rfl rfl ⟨_, rfl, h⟩
    · replace h := h.2 (of_decide_eq_false hb)
      refine cf_R_w rp_110 (rf_bk am_t110 18 5) 34 [(0, .ref 24), (2, .int x2), (3, .int x3), (4, .int x4), (5, .int x5), (6, .int x6)] [] s (by repeat (first | exact trivial | refine ⟨rfl, ?_⟩)) (by decide +kernel) ?_
      refine cf_R_prim (pc := 44) (q := ([.ref 14, .int x5, .int (Int32.ofInt 0)], [])) rp_110 rfl rfl (by decide) (by decide) rp_273 rfl (Nat.le_of_ble_eq_true rfl) ⟨rfl, Nat.le_of_ble_eq_true rfl⟩ (cq_get rfl) ?_
      refine cf_R_w rp_110 (rf_bk am_t110 24 6) 47 [(0, .ref 24), (2, .int x2), (3, .int x3), (4, .int x4), (5, .int x5), (6, .int x6)] [.int (tb_get s 14 x5 (Int32.ofInt 0))] s (by repeat (first | exact trivial | refine ⟨rfl, ?_⟩)) (by decide +kernel) ?_
      refine cf_R_prim (pc := 59) (q := ([.ref 12, .int (tb_get s 14 x5 (Int32.ofInt 0)), .int (Int32.ofInt 0)], [])) rp_110 rfl rfl (by decide) (by decide) rp_273 rfl (Nat.le_of_ble_eq_true rfl) ⟨rfl, Nat.le_of_ble_eq_true rfl⟩ (cq_get rfl) ?_
      refine cf_R_w rp_110 (rf_bk am_t110 31 2) 62 [(7, .int (tb_get s 14 x5 (Int32.ofInt 0))), (0, .ref 24), (2, .int x2), (3, .int x3), (4, .int x4), (5, .int x5), (6, .int x6)] [.int (tb_get s 12 (tb_get s 14 x5 (Int32.ofInt 0)) (Int32.ofInt 0))] s (by repeat (first | exact trivial | refine ⟨rfl, ?_⟩)) (by decide +kernel) ?_
      refine cf_R_if (b := am_cnd .gt (tb_get s 12 (tb_get s 14 x5 (Int32.ofInt 0)) (Int32.ofInt 0)) x2) (p := 87) (q := 66) (fun hb => ?_) (fun hb => ?_)
      · replace h := h.1 (of_decide_eq_true hb)
        exact cf_R_le (l := [(0, .ref 24), (2, .int x2), (3, .int x3), (4, .int x4), (5, .int x5), (6, .int x6), (7, .int (tb_get s 14 x5 (Int32.ofInt 0)))]) rfl rfl (⟨rfl, rfl, rfl, rfl, rfl, rfl, rfl, trivial⟩) (wc_Binder_innermost_87_ok h)
      · replace h := h.2 (of_decide_eq_false hb)
        refine cf_R_w rp_110 (rf_bk am_t110 33 6) 66 [(7, .int (tb_get s 14 x5 (Int32.ofInt 0))), (0, .ref 24), (2, .int x2), (3, .int x3), (4, .int x4), (5, .int x5), (6, .int x6)] [] s (by repeat (first | exact trivial | refine ⟨rfl, ?_⟩)) (by decide +kernel) ?_
        refine cf_R_prim (pc := 77) (q := ([.ref 12, .int (tb_get s 14 x5 (Int32.ofInt 0)), .int (Int32.ofInt 1)], [.int x2])) rp_110 rfl rfl (by decide) (by decide) rp_273 rfl (Nat.le_of_ble_eq_true rfl) ⟨rfl, Nat.le_of_ble_eq_true rfl⟩ (cq_get rfl) ?_
        refine cf_R_w rp_110 (rf_bk am_t110 40 1) 80 [(7, .int (tb_get s 14 x5 (Int32.ofInt 0))), (0, .ref 24), (2, .int x2), (3, .int x3), (4, .int x4), (5, .int x5), (6, .int x6)] [.int (tb_get s 12 (tb_get s 14 x5 (Int32.ofInt 0)) (Int32.ofInt 1)), .int x2] s (by repeat (first | exact trivial | refine ⟨rfl, ?_⟩)) (by decide +kernel) ?_
        refine cf_R_if (b := am_cnd .ge x2 (tb_get s 12 (tb_get s 14 x5 (Int32.ofInt 0)) (Int32.ofInt 1))) (p := 87) (q := 83) (fun hb => ?_) (fun hb => ?_)
        · replace h := h.1 (of_decide_eq_true hb)
          exact cf_R_le (l := [(0, .ref 24), (2, .int x2), (3, .int x3), (4, .int x4), (5, .int x5), (6, .int x6), (7, .int (tb_get s 14 x5 (Int32.ofInt 0)))]) rfl rfl (⟨rfl, rfl, rfl, rfl, rfl, rfl, rfl, trivial⟩) (wc_Binder_innermost_87_ok h)
        · replace h := h.2 (of_decide_eq_false hb)
          refine cf_R_w rp_110 (rf_bk am_t110 41 2) 83 [(7, .int (tb_get s 14 x5 (Int32.ofInt 0))), (0, .ref 24), (2, .int x2), (3, .int x3), (4, .int x4), (5, .int x5), (6, .int x6)] [] s (by repeat (first | exact trivial | refine ⟨rfl, ?_⟩)) (by decide +kernel) ?_
          exact cf_R_le (l := [(0, .ref 24), (2, .int x2), (3, .int x3), (4, .int x4), (5, .int x5), (6, .int x6), (7, .int (tb_get s 14 x5 (Int32.ofInt 0)))]) rfl rfl (⟨rfl, rfl, rfl, rfl, rfl, rfl, rfl, trivial⟩) (wc_Binder_innermost_88_ok h)
/-- LazyHouse$Binder.innermost (II)I, from 0 on -/
def wc_Binder_innermost (d : Nat) (x1 : Int32) (x2 : Int32) (s : cf_S) (Q : Int32 → cf_S → Prop) : Prop := cf_R (d + 10) 110 (22, [(0, .ref 24), (2, .int x2), (3, .int (Int32.ofInt 0)), (4, .int (Int32.ofInt 0)), (5, .int (tb_get s 6 x1 (Int32.ofInt 2))), (6, .int (Int32.ofInt 0))], [], s) (cf_qI Q)
set_option maxRecDepth 20000 in
theorem wc_Binder_innermost_ok {d : Nat} {x1 : Int32} {x2 : Int32} {s : cf_S} {Q : Int32 → cf_S → Prop} (h : wc_Binder_innermost d x1 x2 s Q) : cf_I (d + 10) 110 [(0, .ref 24), (1, .int x1), (2, .int x2)] s Q := by
  unfold wc_Binder_innermost at h
  unfold cf_I
  refine cf_R_w rp_110 (rf_bk am_t110 0 9) 0 [(0, .ref 24), (1, .int x1), (2, .int x2)] [] s (by repeat (first | exact trivial | refine ⟨rfl, ?_⟩)) (by decide +kernel) ?_
  refine cf_R_prim (pc := 14) (q := ([.ref 6, .int x1, .int (Int32.ofInt 2)], [])) rp_110 rfl rfl (by decide) (by decide) rp_273 rfl (Nat.le_of_ble_eq_true rfl) ⟨rfl, Nat.le_of_ble_eq_true rfl⟩ (cq_get rfl) ?_
  refine cf_R_w rp_110 (rf_bk am_t110 10 3) 17 [(4, .int (Int32.ofInt 0)), (3, .int (Int32.ofInt 0)), (0, .ref 24), (1, .int x1), (2, .int x2)] [.int (tb_get s 6 x1 (Int32.ofInt 2))] s (by repeat (first | exact trivial | refine ⟨rfl, ?_⟩)) (by decide +kernel) ?_
  exact cf_R_le (l := [(0, .ref 24), (2, .int x2), (3, .int (Int32.ofInt 0)), (4, .int (Int32.ofInt 0)), (5, .int (tb_get s 6 x1 (Int32.ofInt 2))), (6, .int (Int32.ofInt 0))]) rfl rfl (⟨rfl, rfl, rfl, rfl, rfl, rfl, trivial⟩) h
/-- LazyHouse$Binder.prepare (I)V, from 192 on -/
def wc_Binder_prepare_192 (d : Nat) (x1 : Int32) (x2 : Int32) (s : cf_S) (Q : cf_S → Prop) : Prop := cf_V (d + 9) 235 [(0, .ref 3), (1, .int x2)] s (fun s1 => Q (tb_set s1 18 x1 ((Int8.ofInt 15).toInt32) ((Int32.ofInt 2) + (tb_get s1 18 x2 ((Int8.ofInt 12).toInt32)))))
set_option maxRecDepth 20000 in
theorem wc_Binder_prepare_192_ok {d : Nat} {x1 : Int32} {x2 : Int32} {s : cf_S} {Q : cf_S → Prop} (h : wc_Binder_prepare_192 d x1 x2 s Q) : cf_R (d + 10) 111 (192, [(0, .ref 24), (1, .int x1), (2, .int x2)], [], s) (cf_qV Q) := by
  unfold wc_Binder_prepare_192 at h
  refine cf_R_w rp_111 (rf_bk am_t111 74 3) 192 [(0, .ref 24), (1, .int x1), (2, .int x2)] [] s (by repeat (first | exact trivial | refine ⟨rfl, ?_⟩)) (by decide +kernel) ?_
  refine cf_R_call (pc := 197) (q := ([.ref 3, .int x2], [])) rp_111 rfl rfl (by decide) (by decide) rp_235 rfl (Nat.le_of_ble_eq_true rfl) ⟨rfl, Nat.le_of_ble_eq_true rfl⟩ h (fun v s1 h => ?_)
  obtain ⟨rfl, h⟩ := h
  refine cf_R_w rp_111 (rf_bk am_t111 78 9) 200 [(0, .ref 24), (1, .int x1), (2, .int x2)] [] s1 (by repeat (first | exact trivial | refine ⟨rfl, ?_⟩)) (by decide +kernel) ?_
  refine cf_R_prim (pc := 215) (q := ([.ref 18, .int x2, .int ((Int8.ofInt 12).toInt32)], [.int (Int32.ofInt 2), .int ((Int8.ofInt 15).toInt32), .int x1, .ref 18])) rp_111 rfl rfl (by decide) (by decide) rp_273 rfl (Nat.le_of_ble_eq_true rfl) ⟨rfl, Nat.le_of_ble_eq_true rfl⟩ (cq_get rfl) ?_
  refine cf_R_w rp_111 (rf_bk am_t111 88 1) 218 [(0, .ref 24), (1, .int x1), (2, .int x2)] [.int (tb_get s1 18 x2 ((Int8.ofInt 12).toInt32)), .int (Int32.ofInt 2), .int ((Int8.ofInt 15).toInt32), .int x1, .ref 18] s1 (by repeat (first | exact trivial | refine ⟨rfl, ?_⟩)) (by decide +kernel) ?_
  refine cf_R_prim (pc := 219) (q := ([.ref 18, .int x1, .int ((Int8.ofInt 15).toInt32), .int ((Int32.ofInt 2) + (tb_get s1 18 x2 ((Int8.ofInt 12).toInt32)))], [])) rp_111 rfl rfl (by decide) (by decide) rp_274 rfl (Nat.le_of_ble_eq_true rfl) ⟨rfl, Nat.le_of_ble_eq_true rfl⟩ (cq_set rfl) ?_
  refine cf_R_w rp_111 (rf_bk am_t111 90 1) 222 [(0, .ref 24), (1, .int x1), (2, .int x2)] [] (tb_set s1 18 x1 ((Int8.ofInt 15).toInt32) ((Int32.ofInt 2) + (tb_get s1 18 x2 ((Int8.ofInt 12).toInt32)))) (by repeat (first | exact trivial | refine ⟨rfl, ?_⟩)) (by decide +kernel) ?_
  exact cf_R_ret (pc := 225) rp_111 rfl rfl rfl ⟨rfl, h⟩
/-- LazyHouse$Binder.prepare (I)V, from 0 on -/
def wc_Binder_prepare (d : Nat) (x1 : Int32) (s : cf_S) (Q : cf_S → Prop) : Prop := (((tb_get s 18 x1 (Int32.ofInt 0)) = 6 → cf_I (d + 9) 112 [(0, .ref 24), (1, .int x1)] s (fun r1 s1 => Q (tb_set s1 18 x1 ((Int8.ofInt 14).toInt32) (((Int32.ofInt 2) + (tb_get s 18 x1 (Int32.ofInt 4))) + r1)))) ∧ (¬ ((tb_get s 18 x1 (Int32.ofInt 0)) = 6) → (((tb_get s 18 x1 (Int32.ofInt 0)) = 7 → cf_I (d + 9) 116 [(0, .ref 24), (1, .int x1)] (tb_set s 18 x1 ((Int8.ofInt 13).toInt32) (Int32.ofInt 1)) (fun r2 s2 => Q (tb_set s2 18 x1 ((Int8.ofInt 14).toInt32) r2))) ∧ (¬ ((tb_get s 18 x1 (Int32.ofInt 0)) = 7) → (((tb_get s 18 x1 (Int32.ofInt 0)) = 8 → cf_I (d + 9) 112 [(0, .ref 24), (1, .int x1)] s (fun r3 s3 => Q (tb_set (tb_set s3 18 x1 ((Int8.ofInt 14).toInt32) r3) 18 x1 ((Int8.ofInt 15).toInt32) ((Int32.ofInt 2) + (tb_get (tb_set s3 18 x1 ((Int8.ofInt 14).toInt32) r3) 18 x1 (Int32.ofInt 4)))))) ∧ (¬ ((tb_get s 18 x1 (Int32.ofInt 0)) = 8) → (((tb_get s 18 x1 (Int32.ofInt 0)) = 9 → cf_I (d + 9) 112 [(0, .ref 24), (1, .int x1)] s (fun r4 s4 => Q (tb_set s4 18 x1 ((Int8.ofInt 14).toInt32) r4))) ∧ (¬ ((tb_get s 18 x1 (Int32.ofInt 0)) = 9) → (((tb_get s 18 x1 (Int32.ofInt 0)) = 10 → Q s) ∧ (¬ ((tb_get s 18 x1 (Int32.ofInt 0)) = 10) → (((tb_get s 18 x1 (Int32.ofInt 0)) = 11 → wc_Binder_prepare_192 d x1 (tb_get s 18 x1 (Int32.ofInt 3)) s Q) ∧ (¬ ((tb_get s 18 x1 (Int32.ofInt 0)) = 11) → (((tb_get s 18 x1 (Int32.ofInt 0)) = 12 → Q s) ∧ (¬ ((tb_get s 18 x1 (Int32.ofInt 0)) = 12) → (((tb_get s 18 x1 (Int32.ofInt 0)) = 13 → Q s) ∧ (¬ ((tb_get s 18 x1 (Int32.ofInt 0)) = 13) → (((tb_get s 18 x1 (Int32.ofInt 0)) = 14 → Q s) ∧ (¬ ((tb_get s 18 x1 (Int32.ofInt 0)) = 14) → (((tb_get s 18 x1 (Int32.ofInt 0)) = 15 → Q s) ∧ (¬ ((tb_get s 18 x1 (Int32.ofInt 0)) = 15) → (((tb_get s 18 x1 (Int32.ofInt 0)) = 16 → wc_Binder_prepare_192 d x1 (tb_get s 18 x1 (Int32.ofInt 3)) s Q) ∧ (¬ ((tb_get s 18 x1 (Int32.ofInt 0)) = 16) → Q s))))))))))))))))))))))
set_option maxRecDepth 20000 in
theorem wc_Binder_prepare_ok {d : Nat} {x1 : Int32} {s : cf_S} {Q : cf_S → Prop} (h : wc_Binder_prepare d x1 s Q) : cf_V (d + 10) 111 [(0, .ref 24), (1, .int x1)] s Q := by
  unfold wc_Binder_prepare at h
  unfold cf_V
  refine cf_R_w rp_111 (rf_bk am_t111 0 4) 0 [(0, .ref 24), (1, .int x1)] [] s (by repeat (first | exact trivial | refine ⟨rfl, ?_⟩)) (by decide +kernel) ?_
  refine cf_R_prim (pc := 6) (q := ([.ref 18, .int x1, .int (Int32.ofInt 3)], [])) rp_111 rfl rfl (by decide) (by decide) rp_273 rfl (Nat.le_of_ble_eq_true rfl) ⟨rfl, Nat.le_of_ble_eq_true rfl⟩ (cq_get rfl) ?_
  refine cf_R_w rp_111 (rf_bk am_t111 5 5) 9 [(0, .ref 24), (1, .int x1)] [.int (tb_get s 18 x1 (Int32.ofInt 3))] s (by repeat (first | exact trivial | refine ⟨rfl, ?_⟩)) (by decide +kernel) ?_
  refine cf_R_prim (pc := 16) (q := ([.ref 18, .int x1, .int (Int32.ofInt 0)], [])) rp_111 rfl rfl (by decide) (by decide) rp_273 rfl (Nat.le_of_ble_eq_true rfl) ⟨rfl, Nat.le_of_ble_eq_true rfl⟩ (cq_get rfl) ?_
  refine cf_R_w rp_111 (rf_bk am_t111 11 1) 19 [(2, .int (tb_get s 18 x1 (Int32.ofInt 3))), (0, .ref 24), (1, .int x1)] [.int (tb_get s 18 x1 (Int32.ofInt 0))] s (by repeat (first | exact trivial | refine ⟨rfl, ?_⟩)) (by decide +kernel) ?_
  refine cf_R_sw (fun hb => ?_) (fun hb => ?_)
  · replace h := h.1 hb
    refine cf_R_w rp_111 (rf_bk am_t111 27 9) 105 [(2, .int (tb_get s 18 x1 (Int32.ofInt 3))), (0, .ref 24), (1, .int x1)] [] s (by repeat (first | exact trivial | refine ⟨rfl, ?_⟩)) (by decide +kernel) ?_
    refine cf_R_prim (pc := 119) (q := ([.ref 18, .int x1, .int (Int32.ofInt 4)], [.int (Int32.ofInt 2), .int ((Int8.ofInt 14).toInt32), .int x1, .ref 18])) rp_111 rfl rfl (by decide) (by decide) rp_273 rfl (Nat.le_of_ble_eq_true rfl) ⟨rfl, Nat.le_of_ble_eq_true rfl⟩ (cq_get rfl) ?_
    refine cf_R_w rp_111 (rf_bk am_t111 37 3) 122 [(2, .int (tb_get s 18 x1 (Int32.ofInt 3))), (0, .ref 24), (1, .int x1)] [.int (tb_get s 18 x1 (Int32.ofInt 4)), .int (Int32.ofInt 2), .int ((Int8.ofInt 14).toInt32), .int x1, .ref 18] s (by repeat (first | exact trivial | refine ⟨rfl, ?_⟩)) (by decide +kernel) ?_
    refine cf_R_call (pc := 125) (q := ([.ref 24, .int x1], [.int ((Int32.ofInt 2) + (tb_get s 18 x1 (Int32.ofInt 4))), .int ((Int8.ofInt 14).toInt32), .int x1, .ref 18])) rp_111 rfl rfl (by decide) (by decide) rp_112 rfl (Nat.le_of_ble_eq_true rfl) ⟨rfl, Nat.le_of_ble_eq_true rfl⟩ h (fun v s1 h => ?_)
    obtain ⟨r1, rfl, h⟩ := h
    refine cf_R_w rp_111 (rf_bk am_t111 41 1) 128 [(2, .int (tb_get s 18 x1 (Int32.ofInt 3))), (0, .ref 24), (1, .int x1)] [.int r1, .int ((Int32.ofInt 2) + (tb_get s 18 x1 (Int32.ofInt 4))), .int ((Int8.ofInt 14).toInt32), .int x1, .ref 18] s1 (by repeat (first | exact trivial | refine ⟨rfl, ?_⟩)) (by decide +kernel) ?_
    refine cf_R_prim (pc := 129) (q := ([.ref 18, .int x1, .int ((Int8.ofInt 14).toInt32), .int (((Int32.ofInt 2) + (tb_get s 18 x1 (Int32.ofInt 4))) + r1)], [])) rp_111 rfl rfl (by decide) (by decide) rp_274 rfl (Nat.le_of_ble_eq_true rfl) ⟨rfl, Nat.le_of_ble_eq_true rfl⟩ (cq_set rfl) ?_
    refine cf_R_w rp_111 (rf_bk am_t111 43 1) 132 [(2, .int (tb_get s 18 x1 (Int32.ofInt 3))), (0, .ref 24), (1, .int x1)] [] (tb_set s1 18 x1 ((Int8.ofInt 14).toInt32) (((Int32.ofInt 2) + (tb_get s 18 x1 (Int32.ofInt 4))) + r1)) (by repeat (first | exact trivial | refine ⟨rfl, ?_⟩)) (by decide +kernel) ?_
    exact cf_R_ret (pc := 225) rp_111 rfl rfl rfl ⟨rfl, h⟩
  replace h := h.2 hb
  refine cf_R_sw (fun hb => ?_) (fun hb => ?_)
  · replace h := h.1 hb
    refine cf_R_w rp_111 (rf_bk am_t111 12 5) 76 [(2, .int (tb_get s 18 x1 (Int32.ofInt 3))), (0, .ref 24), (1, .int x1)] [] s (by repeat (first | exact trivial | refine ⟨rfl, ?_⟩)) (by decide +kernel) ?_
    refine cf_R_prim (pc := 84) (q := ([.ref 18, .int x1, .int ((Int8.ofInt 13).toInt32), .int (Int32.ofInt 1)], [])) rp_111 rfl rfl (by decide) (by decide) rp_274 rfl (Nat.le_of_ble_eq_true rfl) ⟨rfl, Nat.le_of_ble_eq_true rfl⟩ (cq_set rfl) ?_
    refine cf_R_w rp_111 (rf_bk am_t111 18 6) 87 [(2, .int (tb_get s 18 x1 (Int32.ofInt 3))), (0, .ref 24), (1, .int x1)] [] (tb_set s 18 x1 ((Int8.ofInt 13).toInt32) (Int32.ofInt 1)) (by repeat (first | exact trivial | refine ⟨rfl, ?_⟩)) (by decide +kernel) ?_
    refine cf_R_call (pc := 96) (q := ([.ref 24, .int x1], [.int ((Int8.ofInt 14).toInt32), .int x1, .ref 18])) rp_111 rfl rfl (by decide) (by decide) rp_116 rfl (Nat.le_of_ble_eq_true rfl) ⟨rfl, Nat.le_of_ble_eq_true rfl⟩ h (fun v s2 h => ?_)
    obtain ⟨r2, rfl, h⟩ := h
    refine cf_R_prim (pc := 99) (q := ([.ref 18, .int x1, .int ((Int8.ofInt 14).toInt32), .int r2], [])) rp_111 rfl rfl (by decide) (by decide) rp_274 rfl (Nat.le_of_ble_eq_true rfl) ⟨rfl, Nat.le_of_ble_eq_true rfl⟩ (cq_set rfl) ?_
    refine cf_R_w rp_111 (rf_bk am_t111 26 1) 102 [(2, .int (tb_get s 18 x1 (Int32.ofInt 3))), (0, .ref 24), (1, .int x1)] [] (tb_set s2 18 x1 ((Int8.ofInt 14).toInt32) r2) (by repeat (first | exact trivial | refine ⟨rfl, ?_⟩)) (by decide +kernel) ?_
    exact cf_R_ret (pc := 225) rp_111 rfl rfl rfl ⟨rfl, h⟩
  replace h := h.2 hb
  refine cf_R_sw (fun hb => ?_) (fun hb => ?_)
  · replace h := h.1 hb
    refine cf_R_w rp_111 (rf_bk am_t111 44 6) 135 [(2, .int (tb_get s 18 x1 (Int32.ofInt 3))), (0, .ref 24), (1, .int x1)] [] s (by repeat (first | exact trivial | refine ⟨rfl, ?_⟩)) (by decide +kernel) ?_
    refine cf_R_call (pc := 144) (q := ([.ref 24, .int x1], [.int ((Int8.ofInt 14).toInt32), .int x1, .ref 18])) rp_111 rfl rfl (by decide) (by decide) rp_112 rfl (Nat.le_of_ble_eq_true rfl) ⟨rfl, Nat.le_of_ble_eq_true rfl⟩ h (fun v s3 h => ?_)
    obtain ⟨r3, rfl, h⟩ := h
    refine cf_R_prim (pc := 147) (q := ([.ref 18, .int x1, .int ((Int8.ofInt 14).toInt32), .int r3], [])) rp_111 rfl rfl (by decide) (by decide) rp_274 rfl (Nat.le_of_ble_eq_true rfl) ⟨rfl, Nat.le_of_ble_eq_true rfl⟩ (cq_set rfl) ?_
    refine cf_R_w rp_111 (rf_bk am_t111 52 9) 150 [(2, .int (tb_get s 18 x1 (Int32.ofInt 3))), (0, .ref 24), (1, .int x1)] [] (tb_set s3 18 x1 ((Int8.ofInt 14).toInt32) r3) (by repeat (first | exact trivial | refine ⟨rfl, ?_⟩)) (by decide +kernel) ?_
    refine cf_R_prim (pc := 164) (q := ([.ref 18, .int x1, .int (Int32.ofInt 4)], [.int (Int32.ofInt 2), .int ((Int8.ofInt 15).toInt32), .int x1, .ref 18])) rp_111 rfl rfl (by decide) (by decide) rp_273 rfl (Nat.le_of_ble_eq_true rfl) ⟨rfl, Nat.le_of_ble_eq_true rfl⟩ (cq_get rfl) ?_
    refine cf_R_w rp_111 (rf_bk am_t111 62 1) 167 [(2, .int (tb_get s 18 x1 (Int32.ofInt 3))), (0, .ref 24), (1, .int x1)] [.int (tb_get (tb_set s3 18 x1 ((Int8.ofInt 14).toInt32) r3) 18 x1 (Int32.ofInt 4)), .int (Int32.ofInt 2), .int ((Int8.ofInt 15).toInt32), .int x1, .ref 18] (tb_set s3 18 x1 ((Int8.ofInt 14).toInt32) r3) (by repeat (first | exact trivial | refine ⟨rfl, ?_⟩)) (by decide +kernel) ?_
    refine cf_R_prim (pc := 168) (q := ([.ref 18, .int x1, .int ((Int8.ofInt 15).toInt32), .int ((Int32.ofInt 2) + (tb_get (tb_set s3 18 x1 ((Int8.ofInt 14).toInt32) r3) 18 x1 (Int32.ofInt 4)))], [])) rp_111 rfl rfl (by decide) (by decide) rp_274 rfl (Nat.le_of_ble_eq_true rfl) ⟨rfl, Nat.le_of_ble_eq_true rfl⟩ (cq_set rfl) ?_
    refine cf_R_w rp_111 (rf_bk am_t111 64 1) 171 [(2, .int (tb_get s 18 x1 (Int32.ofInt 3))), (0, .ref 24), (1, .int x1)] [] (tb_set (tb_set s3 18 x1 ((Int8.ofInt 14).toInt32) r3) 18 x1 ((Int8.ofInt 15).toInt32) ((Int32.ofInt 2) + (tb_get (tb_set s3 18 x1 ((Int8.ofInt 14).toInt32) r3) 18 x1 (Int32.ofInt 4)))) (by repeat (first | exact trivial | refine ⟨rfl, ?_⟩)) (by decide +kernel) ?_
    exact cf_R_ret (pc := 225) rp_111 rfl rfl rfl ⟨rfl, h⟩
  replace h := h.2 hb
  refine cf_R_sw (fun hb => ?_) (fun hb => ?_)
  · replace h := h.1 hb
    refine cf_R_w rp_111 (rf_bk am_t111 65 6) 174 [(2, .int (tb_get s 18 x1 (Int32.ofInt 3))), (0, .ref 24), (1, .int x1)] [] s (by repeat (first | exact trivial | refine ⟨rfl, ?_⟩)) (by decide +kernel) ?_
    refine cf_R_call (pc := 183) (q := ([.ref 24, .int x1], [.int ((Int8.ofInt 14).toInt32), .int x1, .ref 18])) rp_111 rfl rfl (by decide) (by decide) rp_112 rfl (Nat.le_of_ble_eq_true rfl) ⟨rfl, Nat.le_of_ble_eq_true rfl⟩ h (fun v s4 h => ?_)
    obtain ⟨r4, rfl, h⟩ := h
    refine cf_R_prim (pc := 186) (q := ([.ref 18, .int x1, .int ((Int8.ofInt 14).toInt32), .int r4], [])) rp_111 rfl rfl (by decide) (by decide) rp_274 rfl (Nat.le_of_ble_eq_true rfl) ⟨rfl, Nat.le_of_ble_eq_true rfl⟩ (cq_set rfl) ?_
    refine cf_R_w rp_111 (rf_bk am_t111 73 1) 189 [(2, .int (tb_get s 18 x1 (Int32.ofInt 3))), (0, .ref 24), (1, .int x1)] [] (tb_set s4 18 x1 ((Int8.ofInt 14).toInt32) r4) (by repeat (first | exact trivial | refine ⟨rfl, ?_⟩)) (by decide +kernel) ?_
    exact cf_R_ret (pc := 225) rp_111 rfl rfl rfl ⟨rfl, h⟩
  replace h := h.2 hb
  refine cf_R_sw (fun hb => ?_) (fun hb => ?_)
  · replace h := h.1 hb
    exact cf_R_ret (pc := 225) rp_111 rfl rfl rfl ⟨rfl, h⟩
  replace h := h.2 hb
  refine cf_R_sw (fun hb => ?_) (fun hb => ?_)
  · replace h := h.1 hb
    exact cf_R_le (l := [(0, .ref 24), (1, .int x1), (2, .int (tb_get s 18 x1 (Int32.ofInt 3)))]) rfl rfl (⟨rfl, rfl, rfl, trivial⟩) (wc_Binder_prepare_192_ok h)
  replace h := h.2 hb
  refine cf_R_sw (fun hb => ?_) (fun hb => ?_)
  · replace h := h.1 hb
    exact cf_R_ret (pc := 225) rp_111 rfl rfl rfl ⟨rfl, h⟩
  replace h := h.2 hb
  refine cf_R_sw (fun hb => ?_) (fun hb => ?_)
  · replace h := h.1 hb
    exact cf_R_ret (pc := 225) rp_111 rfl rfl rfl ⟨rfl, h⟩
  replace h := h.2 hb
  refine cf_R_sw (fun hb => ?_) (fun hb => ?_)
  · replace h := h.1 hb
    exact cf_R_ret (pc := 225) rp_111 rfl rfl rfl ⟨rfl, h⟩
  replace h := h.2 hb
  refine cf_R_sw (fun hb => ?_) (fun hb => ?_)
  · replace h := h.1 hb
    exact cf_R_ret (pc := 225) rp_111 rfl rfl rfl ⟨rfl, h⟩
  replace h := h.2 hb
  refine cf_R_sw (fun hb => ?_) (fun hb => ?_)
  · replace h := h.1 hb
    exact cf_R_le (l := [(0, .ref 24), (1, .int x1), (2, .int (tb_get s 18 x1 (Int32.ofInt 3)))]) rfl rfl (⟨rfl, rfl, rfl, trivial⟩) (wc_Binder_prepare_192_ok h)
  replace h := h.2 hb
  show cf_R (d + 10) 111 (225, _, _, _) _
  exact cf_R_ret (pc := 225) rp_111 rfl rfl rfl ⟨rfl, h⟩
/-- LazyHouse$Binder.prepareList (I)I, from 91 on -/
def wc_Binder_prepareList_91 (d : Nat) (x1 : Int32) (x2 : Int32) (x3 : Int32) (x4 : Int32) (x6 : Int32) (x7 : Int32) (s : cf_S) (Q : Int32 → cf_S → Prop) : Prop := cf_I (d + 9) 116 [(0, .ref 24), (1, .int x6)] (tb_set s 18 x6 ((Int8.ofInt 13).toInt32) x7) (fun r1 s1 => cf_R (d + 10) 112 (15, [(0, .ref 24), (1, .int x1), (2, .int (x2 + r1)), (3, .int (tb_get s1 18 x3 ((Int8.ofInt 6).toInt32))), (4, .int (x4 + Int32.ofInt 1))], [], s1) (cf_qI Q))
set_option maxRecDepth 20000 in
theorem wc_Binder_prepareList_91_ok {d : Nat} {x1 : Int32} {x2 : Int32} {x3 : Int32} {x4 : Int32} {x6 : Int32} {x7 : Int32} {s : cf_S} {Q : Int32 → cf_S → Prop} (h : wc_Binder_prepareList_91 d x1 x2 x3 x4 x6 x7 s Q) : cf_R (d + 10) 112 (91, [(0, .ref 24), (1, .int x1), (2, .int x2), (3, .int x3), (4, .int x4), (6, .int x6), (7, .int x7)], [], s) (cf_qI Q) := by
  unfold wc_Binder_prepareList_91 at h
  refine cf_R_w rp_112 (rf_bk am_t112 48 5) 91 [(0, .ref 24), (1, .int x1), (2, .int x2), (3, .int x3), (4, .int x4), (6, .int x6), (7, .int x7)] [] s (by repeat (first | exact trivial | refine ⟨rfl, ?_⟩)) (by decide +kernel) ?_
  refine cf_R_prim (pc := 101) (q := ([.ref 18, .int x6, .int ((Int8.ofInt 13).toInt32), .int x7], [])) rp_112 rfl rfl (by decide) (by decide) rp_274 rfl (Nat.le_of_ble_eq_true rfl) ⟨rfl, Nat.le_of_ble_eq_true rfl⟩ (cq_set rfl) ?_
  refine cf_R_w rp_112 (rf_bk am_t112 54 3) 104 [(0, .ref 24), (1, .int x1), (2, .int x2), (3, .int x3), (4, .int x4), (6, .int x6), (7, .int x7)] [] (tb_set s 18 x6 ((Int8.ofInt 13).toInt32) x7) (by repeat (first | exact trivial | refine ⟨rfl, ?_⟩)) (by decide +kernel) ?_
  refine cf_R_call (pc := 108) (q := ([.ref 24, .int x6], [.int x2])) rp_112 rfl rfl (by decide) (by decide) rp_116 rfl (Nat.le_of_ble_eq_true rfl) ⟨rfl, Nat.le_of_ble_eq_true rfl⟩ h (fun v s1 h => ?_)
  obtain ⟨r1, rfl, h⟩ := h
  refine cf_R_w rp_112 (rf_bk am_t112 58 6) 111 [(0, .ref 24), (1, .int x1), (2, .int x2), (3, .int x3), (4, .int x4), (6, .int x6), (7, .int x7)] [.int r1, .int x2] s1 (by repeat (first | exact trivial | refine ⟨rfl, ?_⟩)) (by decide +kernel) ?_
  refine cf_R_prim (pc := 120) (q := ([.ref 18, .int x3, .int ((Int8.ofInt 6).toInt32)], [])) rp_112 rfl rfl (by decide) (by decide) rp_273 rfl (Nat.le_of_ble_eq_true rfl) ⟨rfl, Nat.le_of_ble_eq_true rfl⟩ (cq_get rfl) ?_
  refine cf_R_w rp_112 (rf_bk am_t112 65 3) 123 [(2, .int (x2 + r1)), (0, .ref 24), (1, .int x1), (3, .int x3), (4, .int x4), (6, .int x6), (7, .int x7)] [.int (tb_get s1 18 x3 ((Int8.ofInt 6).toInt32))] s1 (by repeat (first | exact trivial | refine ⟨rfl, ?_⟩)) (by decide +kernel) ?_
  exact cf_R_le (l := [(0, .ref 24), (1, .int x1), (2, .int (x2 + r1)), (3, .int (tb_get s1 18 x3 ((Int8.ofInt 6).toInt32))), (4, .int (x4 + Int32.ofInt 1))]) rfl rfl (⟨rfl, rfl, rfl, rfl, rfl, trivial⟩) h
/-- LazyHouse$Binder.prepareList (I)I, from 68 on -/
def wc_Binder_prepareList_68 (d : Nat) (x1 : Int32) (x2 : Int32) (x3 : Int32) (x4 : Int32) (x5 : Int32) (y0 : Int32) (s : cf_S) (Q : Int32 → cf_S → Prop) : Prop := cf_I (d + 9) 113 [(0, .ref 24), (1, .int y0)] s (fun r1 s1 => ((x5 = 0 → wc_Binder_prepareList_91 d x1 x2 x3 x4 y0 r1 s1 Q) ∧ (¬ (x5 = 0) → ((¬ r1 = 0 → wc_Binder_prepareList_91 d x1 x2 x3 x4 y0 r1 s1 Q) ∧ (r1 = 0 → wc_Binder_prepareList_91 d x1 x2 x3 x4 y0 (Int32.ofInt 3) s1 Q)))))
set_option maxRecDepth 20000 in
theorem wc_Binder_prepareList_68_ok {d : Nat} {x1 : Int32} {x2 : Int32} {x3 : Int32} {x4 : Int32} {x5 : Int32} {y0 : Int32} {s : cf_S} {Q : Int32 → cf_S → Prop} (h : wc_Binder_prepareList_68 d x1 x2 x3 x4 x5 y0 s Q) : cf_R (d + 10) 112 (68, [(0, .ref 24), (1, .int x1), (2, .int x2), (3, .int x3), (4, .int x4), (5, .int x5)], [.int y0], s) (cf_qI Q) := by
  unfold wc_Binder_prepareList_68 at h
  refine cf_R_w rp_112 (rf_bk am_t112 37 3) 68 [(0, .ref 24), (1, .int x1), (2, .int x2), (3, .int x3), (4, .int x4), (5, .int x5)] [.int y0] s (by repeat (first | exact trivial | refine ⟨rfl, ?_⟩)) (by decide +kernel) ?_
  refine cf_R_call (pc := 73) (q := ([.ref 24, .int y0], [])) rp_112 rfl rfl (by decide) (by decide) rp_113 rfl (Nat.le_of_ble_eq_true rfl) ⟨rfl, Nat.le_of_ble_eq_true rfl⟩ h (fun v s1 h => ?_)
  obtain ⟨r1, rfl, h⟩ := h
  refine cf_R_w rp_112 (rf_bk am_t112 41 3) 76 [(6, .int y0), (0, .ref 24), (1, .int x1), (2, .int x2), (3, .int x3), (4, .int x4), (5, .int x5)] [.int r1] s1 (by repeat (first | exact trivial | refine ⟨rfl, ?_⟩)) (by decide +kernel) ?_
  refine cf_R_if (b := am_cnd .eq x5 0) (p := 91) (q := 83) (fun hb => ?_) (fun hb => ?_)
  · replace h := h.1 (of_decide_eq_true hb)
    exact cf_R_le (l := [(0, .ref 24), (1, .int x1), (2, .int x2), (3, .int x3), (4, .int x4), (6, .int y0), (7, .int r1)]) rfl rfl (⟨rfl, rfl, rfl, rfl, rfl, rfl, rfl, trivial⟩) (wc_Binder_prepareList_91_ok h)
  · replace h := h.2 (of_decide_eq_false hb)
    refine cf_R_w rp_112 (rf_bk am_t112 44 2) 83 [(7, .int r1), (6, .int y0), (0, .ref 24), (1, .int x1), (2, .int x2), (3, .int x3), (4, .int x4), (5, .int x5)] [] s1 (by repeat (first | exact trivial | refine ⟨rfl, ?_⟩)) (by decide +kernel) ?_
    refine cf_R_if (b := am_cnd .ne r1 0) (p := 91) (q := 88) (fun hb => ?_) (fun hb => ?_)
    · replace h := h.1 (of_decide_eq_true hb)
      exact cf_R_le (l := [(0, .ref 24), (1, .int x1), (2, .int x2), (3, .int x3), (4, .int x4), (6, .int y0), (7, .int r1)]) rfl rfl (⟨rfl, rfl, rfl, rfl, rfl, rfl, rfl, trivial⟩) (wc_Binder_prepareList_91_ok h)
    · replace h := h.2 (Decidable.not_not.mp (of_decide_eq_false hb))
      refine cf_R_w rp_112 (rf_bk am_t112 46 2) 88 [(7, .int r1), (6, .int y0), (0, .ref 24), (1, .int x1), (2, .int x2), (3, .int x3), (4, .int x4), (5, .int x5)] [] s1 (by repeat (first | exact trivial | refine ⟨rfl, ?_⟩)) (by decide +kernel) ?_
      exact cf_R_le (l := [(0, .ref 24), (1, .int x1), (2, .int x2), (3, .int x3), (4, .int x4), (6, .int y0), (7, .int (Int32.ofInt 3))]) rfl rfl (⟨rfl, rfl, rfl, rfl, rfl, rfl, rfl, trivial⟩) (wc_Binder_prepareList_91_ok h)
/-- LazyHouse$Binder.prepareList (I)I, from 48 on -/
def wc_Binder_prepareList_48 (d : Nat) (x1 : Int32) (x2 : Int32) (x3 : Int32) (x4 : Int32) (y0 : Int32) (s : cf_S) (Q : Int32 → cf_S → Prop) : Prop := ((y0 = 0 → wc_Binder_prepareList_68 d x1 x2 x3 x4 y0 x3 s Q) ∧ (¬ (y0 = 0) → wc_Binder_prepareList_68 d x1 x2 x3 x4 y0 (tb_get s 18 x3 (Int32.ofInt 2)) s Q))
set_option maxRecDepth 20000 in
theorem wc_Binder_prepareList_48_ok {d : Nat} {x1 : Int32} {x2 : Int32} {x3 : Int32} {x4 : Int32} {y0 : Int32} {s : cf_S} {Q : Int32 → cf_S → Prop} (h : wc_Binder_prepareList_48 d x1 x2 x3 x4 y0 s Q) : cf_R (d + 10) 112 (48, [(0, .ref 24), (1, .int x1), (2, .int x2), (3, .int x3), (4, .int x4)], [.int y0], s) (cf_qI Q) := by
  unfold wc_Binder_prepareList_48 at h
  refine cf_R_w rp_112 (rf_bk am_t112 27 3) 48 [(0, .ref 24), (1, .int x1), (2, .int x2), (3, .int x3), (4, .int x4)] [.int y0] s (by repeat (first | exact trivial | refine ⟨rfl, ?_⟩)) (by decide +kernel) ?_
  refine cf_R_if (b := am_cnd .eq y0 0) (p := 67) (q := 55) (fun hb => ?_) (fun hb => ?_)
  · replace h := h.1 (of_decide_eq_true hb)
    refine cf_R_w rp_112 (rf_bk am_t112 36 1) 67 [(5, .int y0), (0, .ref 24), (1, .int x1), (2, .int x2), (3, .int x3), (4, .int x4)] [] s (by repeat (first | exact trivial | refine ⟨rfl, ?_⟩)) (by decide +kernel) ?_
    exact cf_R_le (l := [(0, .ref 24), (1, .int x1), (2, .int x2), (3, .int x3), (4, .int x4), (5, .int y0)]) rfl rfl (⟨rfl, rfl, rfl, rfl, rfl, rfl, trivial⟩) (wc_Binder_prepareList_68_ok h)
  · replace h := h.2 (of_decide_eq_false hb)
    refine cf_R_w rp_112 (rf_bk am_t112 30 4) 55 [(5, .int y0), (0, .ref 24), (1, .int x1), (2, .int x2), (3, .int x3), (4, .int x4)] [] s (by repeat (first | exact trivial | refine ⟨rfl, ?_⟩)) (by decide +kernel) ?_
    refine cf_R_prim (pc := 61) (q := ([.ref 18, .int x3, .int (Int32.ofInt 2)], [])) rp_112 rfl rfl (by decide) (by decide) rp_273 rfl (Nat.le_of_ble_eq_true rfl) ⟨rfl, Nat.le_of_ble_eq_true rfl⟩ (cq_get rfl) ?_
    refine cf_R_w rp_112 (rf_bk am_t112 35 1) 64 [(5, .int y0), (0, .ref 24), (1, .int x1), (2, .int x2), (3, .int x3), (4, .int x4)] [.int (tb_get s 18 x3 (Int32.ofInt 2))] s (by repeat (first | exact trivial | refine ⟨rfl, ?_⟩)) (by decide +kernel) ?_
    exact cf_R_le (l := [(0, .ref 24), (1, .int x1), (2, .int x2), (3, .int x3), (4, .int x4), (5, .int y0)]) rfl rfl (⟨rfl, rfl, rfl, rfl, rfl, rfl, trivial⟩) (wc_Binder_prepareList_68_ok h)
/-- LazyHouse$Binder.prepareList (I)I, from 15 on -/
def wc_Binder_prepareList_15 (d : Nat) (x1 : Int32) (x2 : Int32) (x3 : Int32) (x4 : Int32) (s : cf_S) (Q : Int32 → cf_S → Prop) : Prop := (((tb_get s 18 x1 (Int32.ofInt 4)) ≤ x4 → Q x2 s) ∧ (¬ ((tb_get s 18 x1 (Int32.ofInt 4)) ≤ x4) → ((¬ (tb_get s 18 x3 (Int32.ofInt 0)) = ((Int8.ofInt 10).toInt32) → wc_Binder_prepareList_48 d x1 x2 x3 x4 (Int32.ofInt 0) s Q) ∧ ((tb_get s 18 x3 (Int32.ofInt 0)) = ((Int8.ofInt 10).toInt32) → wc_Binder_prepareList_48 d x1 x2 x3 x4 (Int32.ofInt 1) s Q))))
set_option maxRecDepth 20000 in
theorem wc_Binder_prepareList_15_ok {d : Nat} {x1 : Int32} {x2 : Int32} {x3 : Int32} {x4 : Int32} {s : cf_S} {Q : Int32 → cf_S → Prop} (h : wc_Binder_prepareList_15 d x1 x2 x3 x4 s Q) : cf_R (d + 10) 112 (15, [(0, .ref 24), (1, .int x1), (2, .int x2), (3, .int x3), (4, .int x4)], [], s) (cf_qI Q) := by
  unfold wc_Binder_prepareList_15 at h
  refine cf_R_w rp_112 (rf_bk am_t112 10 5) 15 [(0, .ref 24), (1, .int x1), (2, .int x2), (3, .int x3), (4, .int x4)] [] s (by repeat (first | exact trivial | refine ⟨rfl, ?_⟩)) (by decide +kernel) ?_
  refine cf_R_prim (pc := 23) (q := ([.ref 18, .int x1, .int (Int32.ofInt 4)], [.int x4])) rp_112 rfl rfl (by decide) (by decide) rp_273 rfl (Nat.le_of_ble_eq_true rfl) ⟨rfl, Nat.le_of_ble_eq_true rfl⟩ (cq_get rfl) ?_
  refine cf_R_w rp_112 (rf_bk am_t112 16 1) 26 [(0, .ref 24), (1, .int x1), (2, .int x2), (3, .int x3), (4, .int x4)] [.int (tb_get s 18 x1 (Int32.ofInt 4)), .int x4] s (by repeat (first | exact trivial | refine ⟨rfl, ?_⟩)) (by decide +kernel) ?_
  refine cf_R_if (b := am_cnd .ge x4 (tb_get s 18 x1 (Int32.ofInt 4))) (p := 130) (q := 29) (fun hb => ?_) (fun hb => ?_)
  · replace h := h.1 (of_decide_eq_true hb)
    refine cf_R_w rp_112 (rf_bk am_t112 68 1) 130 [(0, .ref 24), (1, .int x1), (2, .int x2), (3, .int x3), (4, .int x4)] [] s (by repeat (first | exact trivial | refine ⟨rfl, ?_⟩)) (by decide +kernel) ?_
    exact cf_R_ret (pc := 131) (v := some (.int x2)) rp_112 rfl rfl rfl ⟨_, rfl, h⟩
  · replace h := h.2 (of_decide_eq_false hb)
    refine cf_R_w rp_112 (rf_bk am_t112 17 4) 29 [(0, .ref 24), (1, .int x1), (2, .int x2), (3, .int x3), (4, .int x4)] [] s (by repeat (first | exact trivial | refine ⟨rfl, ?_⟩)) (by decide +kernel) ?_
    refine cf_R_prim (pc := 35) (q := ([.ref 18, .int x3, .int (Int32.ofInt 0)], [])) rp_112 rfl rfl (by decide) (by decide) rp_273 rfl (Nat.le_of_ble_eq_true rfl) ⟨rfl, Nat.le_of_ble_eq_true rfl⟩ (cq_get rfl) ?_
    refine cf_R_w rp_112 (rf_bk am_t112 22 2) 38 [(0, .ref 24), (1, .int x1), (2, .int x2), (3, .int x3), (4, .int x4)] [.int (tb_get s 18 x3 (Int32.ofInt 0))] s (by repeat (first | exact trivial | refine ⟨rfl, ?_⟩)) (by decide +kernel) ?_
    refine cf_R_if (b := am_cnd .ne (tb_get s 18 x3 (Int32.ofInt 0)) ((Int8.ofInt 10).toInt32)) (p := 47) (q := 43) (fun hb => ?_) (fun hb => ?_)
    · replace h := h.1 (of_decide_eq_true hb)
      refine cf_R_w rp_112 (rf_bk am_t112 26 1) 47 [(0, .ref 24), (1, .int x1), (2, .int x2), (3, .int x3), (4, .int x4)] [] s (by repeat (first | exact trivial | refine ⟨rfl, ?_⟩)) (by decide +kernel) ?_
      exact cf_R_le (l := [(0, .ref 24), (1, .int x1), (2, .int x2), (3, .int x3), (4, .int x4)]) rfl rfl (⟨rfl, rfl, rfl, rfl, rfl, trivial⟩) (wc_Binder_prepareList_48_ok h)
    · replace h := h.2 (Decidable.not_not.mp (of_decide_eq_false hb))
      refine cf_R_w rp_112 (rf_bk am_t112 24 2) 43 [(0, .ref 24), (1, .int x1), (2, .int x2), (3, .int x3), (4, .int x4)] [] s (by repeat (first | exact trivial | refine ⟨rfl, ?_⟩)) (by decide +kernel) ?_
      exact cf_R_le (l := [(0, .ref 24), (1, .int x1), (2, .int x2), (3, .int x3), (4, .int x4)]) rfl rfl (⟨rfl, rfl, rfl, rfl, rfl, trivial⟩) (wc_Binder_prepareList_48_ok h)
/-- LazyHouse$Binder.prepareList (I)I, from 0 on -/
def wc_Binder_prepareList (d : Nat) (x1 : Int32) (s : cf_S) (Q : Int32 → cf_S → Prop) : Prop := cf_R (d + 10) 112 (15, [(0, .ref 24), (1, .int x1), (2, .int (Int32.ofInt 0)), (3, .int (tb_get s 18 x1 (Int32.ofInt 3))), (4, .int (Int32.ofInt 0))], [], s) (cf_qI Q)
set_option maxRecDepth 20000 in
theorem wc_Binder_prepareList_ok {d : Nat} {x1 : Int32} {s : cf_S} {Q : Int32 → cf_S → Prop} (h : wc_Binder_prepareList d x1 s Q) : cf_I (d + 10) 112 [(0, .ref 24), (1, .int x1)] s Q := by
  unfold wc_Binder_prepareList at h
  unfold cf_I
  refine cf_R_w rp_112 (rf_bk am_t112 0 6) 0 [(0, .ref 24), (1, .int x1)] [] s (by repeat (first | exact trivial | refine ⟨rfl, ?_⟩)) (by decide +kernel) ?_
  refine cf_R_prim (pc := 8) (q := ([.ref 18, .int x1, .int (Int32.ofInt 3)], [])) rp_112 rfl rfl (by decide) (by decide) rp_273 rfl (Nat.le_of_ble_eq_true rfl) ⟨rfl, Nat.le_of_ble_eq_true rfl⟩ (cq_get rfl) ?_
  refine cf_R_w rp_112 (rf_bk am_t112 7 3) 11 [(2, .int (Int32.ofInt 0)), (0, .ref 24), (1, .int x1)] [.int (tb_get s 18 x1 (Int32.ofInt 3))] s (by repeat (first | exact trivial | refine ⟨rfl, ?_⟩)) (by decide +kernel) ?_
  exact cf_R_le (l := [(0, .ref 24), (1, .int x1), (2, .int (Int32.ofInt 0)), (3, .int (tb_get s 18 x1 (Int32.ofInt 3))), (4, .int (Int32.ofInt 0))]) rfl rfl (⟨rfl, rfl, rfl, rfl, rfl, trivial⟩) h
/-- LazyHouse$Binder.formOf (I)I, from 0 on -/
def wc_Binder_formOf (d : Nat) (x1 : Int32) (s : cf_S) (Q : Int32 → cf_S → Prop) : Prop := cf_I (d + 9) 114 [(0, .ref 24), (1, .int x1)] s (fun r1 s1 => ((r1 = 0 → ((¬ (tb_get s1 18 x1 (Int32.ofInt 0)) = ((Int8.ofInt 7).toInt32) → ((¬ (tb_get s1 18 x1 (Int32.ofInt 0)) = ((Int8.ofInt 6).toInt32) → Q (Int32.ofInt 3) s1) ∧ ((tb_get s1 18 x1 (Int32.ofInt 0)) = ((Int8.ofInt 6).toInt32) → cf_I (d + 9) 115 [(0, .ref 24), (1, .int x1)] s1 (fun r2 s2 => ((r2 = 0 → Q (Int32.ofInt 3) s2) ∧ (¬ (r2 = 0) → Q (Int32.ofInt 2) s2)))))) ∧ ((tb_get s1 18 x1 (Int32.ofInt 0)) = ((Int8.ofInt 7).toInt32) → Q (Int32.ofInt 1) s1))) ∧ (¬ (r1 = 0) → Q (Int32.ofInt 0) s1)))
set_option maxRecDepth 20000 in
theorem wc_Binder_formOf_ok {d : Nat} {x1 : Int32} {s : cf_S} {Q : Int32 → cf_S → Prop} (h : wc_Binder_formOf d x1 s Q) : cf_I (d + 10) 113 [(0, .ref 24), (1, .int x1)] s Q := by
  unfold wc_Binder_formOf at h
  unfold cf_I
  refine cf_R_w rp_113 (rf_bk am_t113 0 2) 0 [(0, .ref 24), (1, .int x1)] [] s (by repeat (first | exact trivial | refine ⟨rfl, ?_⟩)) (by decide +kernel) ?_
  refine cf_R_call (pc := 2) (q := ([.ref 24, .int x1], [])) rp_113 rfl rfl (by decide) (by decide) rp_114 rfl (Nat.le_of_ble_eq_true rfl) ⟨rfl, Nat.le_of_ble_eq_true rfl⟩ h (fun v s1 h => ?_)
  obtain ⟨r1, rfl, h⟩ := h
  refine cf_R_w rp_113 (rf_bk am_t113 3 1) 5 [(0, .ref 24), (1, .int x1)] [.int r1] s1 (by repeat (first | exact trivial | refine ⟨rfl, ?_⟩)) (by decide +kernel) ?_
  refine cf_R_if (b := am_cnd .eq r1 0) (p := 10) (q := 8) (fun hb => ?_) (fun hb => ?_)
  · replace h := h.1 (of_decide_eq_true hb)
    refine cf_R_w rp_113 (rf_bk am_t113 6 4) 10 [(0, .ref 24), (1, .int x1)] [] s1 (by repeat (first | exact trivial | refine ⟨rfl, ?_⟩)) (by decide +kernel) ?_
    refine cf_R_prim (pc := 16) (q := ([.ref 18, .int x1, .int (Int32.ofInt 0)], [])) rp_113 rfl rfl (by decide) (by decide) rp_273 rfl (Nat.le_of_ble_eq_true rfl) ⟨rfl, Nat.le_of_ble_eq_true rfl⟩ (cq_get rfl) ?_
    refine cf_R_w rp_113 (rf_bk am_t113 11 4) 19 [(0, .ref 24), (1, .int x1)] [.int (tb_get s1 18 x1 (Int32.ofInt 0))] s1 (by repeat (first | exact trivial | refine ⟨rfl, ?_⟩)) (by decide +kernel) ?_
    refine cf_R_if (b := am_cnd .ne (tb_get s1 18 x1 (Int32.ofInt 0)) ((Int8.ofInt 7).toInt32)) (p := 28) (q := 26) (fun hb => ?_) (fun hb => ?_)
    · replace h := h.1 (of_decide_eq_true hb)
      refine cf_R_w rp_113 (rf_bk am_t113 17 3) 28 [(2, .int (tb_get s1 18 x1 (Int32.ofInt 0))), (0, .ref 24), (1, .int x1)] [] s1 (by repeat (first | exact trivial | refine ⟨rfl, ?_⟩)) (by decide +kernel) ?_
      refine cf_R_if (b := am_cnd .ne (tb_get s1 18 x1 (Int32.ofInt 0)) ((Int8.ofInt 6).toInt32)) (p := 46) (q := 34) (fun hb => ?_) (fun hb => ?_)
      · replace h := h.1 (of_decide_eq_true hb)
        refine cf_R_w rp_113 (rf_bk am_t113 26 1) 46 [(2, .int (tb_get s1 18 x1 (Int32.ofInt 0))), (0, .ref 24), (1, .int x1)] [] s1 (by repeat (first | exact trivial | refine ⟨rfl, ?_⟩)) (by decide +kernel) ?_
        exact cf_R_ret (pc := 47) (v := some (.int (Int32.ofInt 3))) rp_113 rfl rfl rfl ⟨_, rfl, h⟩
      · replace h := h.2 (Decidable.not_not.mp (of_decide_eq_false hb))
        refine cf_R_w rp_113 (rf_bk am_t113 20 2) 34 [(2, .int (tb_get s1 18 x1 (Int32.ofInt 0))), (0, .ref 24), (1, .int x1)] [] s1 (by repeat (first | exact trivial | refine ⟨rfl, ?_⟩)) (by decide +kernel) ?_
        refine cf_R_call (pc := 36) (q := ([.ref 24, .int x1], [])) rp_113 rfl rfl (by decide) (by decide) rp_115 rfl (Nat.le_of_ble_eq_true rfl) ⟨rfl, Nat.le_of_ble_eq_true rfl⟩ h (fun v s2 h => ?_)
        obtain ⟨r2, rfl, h⟩ := h
        refine cf_R_w rp_113 (rf_bk am_t113 23 1) 39 [(2, .int (tb_get s1 18 x1 (Int32.ofInt 0))), (0, .ref 24), (1, .int x1)] [.int r2] s2 (by repeat (first | exact trivial | refine ⟨rfl, ?_⟩)) (by decide +kernel) ?_
        refine cf_R_if (b := am_cnd .eq r2 0) (p := 46) (q := 42) (fun hb => ?_) (fun hb => ?_)
        · replace h := h.1 (of_decide_eq_true hb)
          refine cf_R_w rp_113 (rf_bk am_t113 26 1) 46 [(2, .int (tb_get s1 18 x1 (Int32.ofInt 0))), (0, .ref 24), (1, .int x1)] [] s2 (by repeat (first | exact trivial | refine ⟨rfl, ?_⟩)) (by decide +kernel) ?_
          exact cf_R_ret (pc := 47) (v := some (.int (Int32.ofInt 3))) rp_113 rfl rfl rfl ⟨_, rfl, h⟩
        · replace h := h.2 (of_decide_eq_false hb)
          refine cf_R_w rp_113 (rf_bk am_t113 24 2) 42 [(2, .int (tb_get s1 18 x1 (Int32.ofInt 0))), (0, .ref 24), (1, .int x1)] [] s2 (by repeat (first | exact trivial | refine ⟨rfl, ?_⟩)) (by decide +kernel) ?_
          exact cf_R_ret (pc := 47) (v := some (.int (Int32.ofInt 2))) rp_113 rfl rfl rfl ⟨_, rfl, h⟩
    · replace h := h.2 (Decidable.not_not.mp (of_decide_eq_false hb))
      refine cf_R_w rp_113 (rf_bk am_t113 15 1) 26 [(2, .int (tb_get s1 18 x1 (Int32.ofInt 0))), (0, .ref 24), (1, .int x1)] [] s1 (by repeat (first | exact trivial | refine ⟨rfl, ?_⟩)) (by decide +kernel) ?_
      exact cf_R_ret (pc := 27) (v := some (.int (Int32.ofInt 1))) rp_113 rfl rfl rfl ⟨_, rfl, h⟩
  · replace h := h.2 (of_decide_eq_false hb)
    refine cf_R_w rp_113 (rf_bk am_t113 4 1) 8 [(0, .ref 24), (1, .int x1)] [] s1 (by repeat (first | exact trivial | refine ⟨rfl, ?_⟩)) (by decide +kernel) ?_
    exact cf_R_ret (pc := 9) (v := some (.int (Int32.ofInt 0))) rp_113 rfl rfl rfl ⟨_, rfl, h⟩
/-- LazyHouse$Binder.isSimple (I)Z, from 30 on -/
def wc_Binder_isSimple_30 (d : Nat) (s : cf_S) (Q : Int32 → cf_S → Prop) : Prop := Q (Int32.ofInt 1) s
set_option maxRecDepth 20000 in
theorem wc_Binder_isSimple_30_ok {d : Nat} {s : cf_S} {Q : Int32 → cf_S → Prop} (h : wc_Binder_isSimple_30 d s Q) : cf_R (d + 10) 114 (30, [], [], s) (cf_qI Q) := by
  unfold wc_Binder_isSimple_30 at h
  refine cf_R_w rp_114 (rf_bk am_t114 18 2) 30 [] [] s (by repeat (first | exact trivial | refine ⟨rfl, ?_⟩)) (by decide +kernel) ?_
  exact cf_R_ret (pc := 35) (v := some (.int (Int32.ofInt 1))) rp_114 rfl rfl rfl ⟨_, rfl, h⟩
/-- LazyHouse$Binder.isSimple (I)Z, from 0 on -/
def wc_Binder_isSimple (d : Nat) (x1 : Int32) (s : cf_S) (Q : Int32 → cf_S → Prop) : Prop := (((tb_get s 18 x1 (Int32.ofInt 0)) = (Int32.ofInt 2) → wc_Binder_isSimple_30 d s Q) ∧ (¬ ((tb_get s 18 x1 (Int32.ofInt 0)) = (Int32.ofInt 2)) → (((tb_get s 18 x1 (Int32.ofInt 0)) = (Int32.ofInt 3) → wc_Binder_isSimple_30 d s Q) ∧ (¬ ((tb_get s 18 x1 (Int32.ofInt 0)) = (Int32.ofInt 3)) → (((tb_get s 18 x1 (Int32.ofInt 0)) = (Int32.ofInt 4) → wc_Binder_isSimple_30 d s Q) ∧ (¬ ((tb_get s 18 x1 (Int32.ofInt 0)) = (Int32.ofInt 4)) → ((¬ (tb_get s 18 x1 (Int32.ofInt 0)) = (Int32.ofInt 5) → Q (Int32.ofInt 0) s) ∧ ((tb_get s 18 x1 (Int32.ofInt 0)) = (Int32.ofInt 5) → wc_Binder_isSimple_30 d s Q))))))))
set_option maxRecDepth 20000 in
theorem wc_Binder_isSimple_ok {d : Nat} {x1 : Int32} {s : cf_S} {Q : Int32 → cf_S → Prop} (h : wc_Binder_isSimple d x1 s Q) : cf_I (d + 10) 114 [(0, .ref 24), (1, .int x1)] s Q := by
  unfold wc_Binder_isSimple at h
  unfold cf_I
  refine cf_R_w rp_114 (rf_bk am_t114 0 4) 0 [(0, .ref 24), (1, .int x1)] [] s (by repeat (first | exact trivial | refine ⟨rfl, ?_⟩)) (by decide +kernel) ?_
  refine cf_R_prim (pc := 6) (q := ([.ref 18, .int x1, .int (Int32.ofInt 0)], [])) rp_114 rfl rfl (by decide) (by decide) rp_273 rfl (Nat.le_of_ble_eq_true rfl) ⟨rfl, Nat.le_of_ble_eq_true rfl⟩ (cq_get rfl) ?_
  refine cf_R_w rp_114 (rf_bk am_t114 5 4) 9 [(0, .ref 24), (1, .int x1)] [.int (tb_get s 18 x1 (Int32.ofInt 0))] s (by repeat (first | exact trivial | refine ⟨rfl, ?_⟩)) (by decide +kernel) ?_
  refine cf_R_if (b := am_cnd .eq (tb_get s 18 x1 (Int32.ofInt 0)) (Int32.ofInt 2)) (p := 30) (q := 15) (fun hb => ?_) (fun hb => ?_)
  · replace h := h.1 (of_decide_eq_true hb)
    exact cf_R_le (l := []) rfl rfl trivial (wc_Binder_isSimple_30_ok h)
  · replace h := h.2 (of_decide_eq_false hb)
    refine cf_R_w rp_114 (rf_bk am_t114 9 3) 15 [(2, .int (tb_get s 18 x1 (Int32.ofInt 0))), (0, .ref 24), (1, .int x1)] [] s (by repeat (first | exact trivial | refine ⟨rfl, ?_⟩)) (by decide +kernel) ?_
    refine cf_R_if (b := am_cnd .eq (tb_get s 18 x1 (Int32.ofInt 0)) (Int32.ofInt 3)) (p := 30) (q := 20) (fun hb => ?_) (fun hb => ?_)
    · replace h := h.1 (of_decide_eq_true hb)
      exact cf_R_le (l := []) rfl rfl trivial (wc_Binder_isSimple_30_ok h)
    · replace h := h.2 (of_decide_eq_false hb)
      refine cf_R_w rp_114 (rf_bk am_t114 12 3) 20 [(2, .int (tb_get s 18 x1 (Int32.ofInt 0))), (0, .ref 24), (1, .int x1)] [] s (by repeat (first | exact trivial | refine ⟨rfl, ?_⟩)) (by decide +kernel) ?_
      refine cf_R_if (b := am_cnd .eq (tb_get s 18 x1 (Int32.ofInt 0)) (Int32.ofInt 4)) (p := 30) (q := 25) (fun hb => ?_) (fun hb => ?_)
      · replace h := h.1 (of_decide_eq_true hb)
        exact cf_R_le (l := []) rfl rfl trivial (wc_Binder_isSimple_30_ok h)
      · replace h := h.2 (of_decide_eq_false hb)
        refine cf_R_w rp_114 (rf_bk am_t114 15 3) 25 [(2, .int (tb_get s 18 x1 (Int32.ofInt 0))), (0, .ref 24), (1, .int x1)] [] s (by repeat (first | exact trivial | refine ⟨rfl, ?_⟩)) (by decide +kernel) ?_
        refine cf_R_if (b := am_cnd .ne (tb_get s 18 x1 (Int32.ofInt 0)) (Int32.ofInt 5)) (p := 34) (q := 30) (fun hb => ?_) (fun hb => ?_)
        · replace h := h.1 (of_decide_eq_true hb)
          refine cf_R_w rp_114 (rf_bk am_t114 20 1) 34 [(2, .int (tb_get s 18 x1 (Int32.ofInt 0))), (0, .ref 24), (1, .int x1)] [] s (by repeat (first | exact trivial | refine ⟨rfl, ?_⟩)) (by decide +kernel) ?_
          exact cf_R_ret (pc := 35) (v := some (.int (Int32.ofInt 0))) rp_114 rfl rfl rfl ⟨_, rfl, h⟩
        · replace h := h.2 (Decidable.not_not.mp (of_decide_eq_false hb))
          exact cf_R_le (l := []) rfl rfl trivial (wc_Binder_isSimple_30_ok h)
/-- LazyHouse$Binder.hasSimpleFields (I)Z, from 12 on -/
def wc_Binder_hasSimpleFields_12 (d : Nat) (x1 : Int32) (x2 : Int32) (x3 : Int32) (s : cf_S) (Q : Int32 → cf_S → Prop) : Prop := (((tb_get s 18 x1 (Int32.ofInt 4)) ≤ x3 → Q (Int32.ofInt 1) s) ∧ (¬ ((tb_get s 18 x1 (Int32.ofInt 4)) ≤ x3) → cf_I (d + 9) 114 [(0, .ref 24), (1, .int x2)] s (fun r1 s1 => ((¬ r1 = 0 → cf_R (d + 10) 115 (12, [(0, .ref 24), (1, .int x1), (2, .int (tb_get s1 18 x2 ((Int8.ofInt 6).toInt32))), (3, .int (x3 + Int32.ofInt 1))], [], s1) (cf_qI Q)) ∧ (r1 = 0 → Q (Int32.ofInt 0) s1)))))
set_option maxRecDepth 20000 in
theorem wc_Binder_hasSimpleFields_12_ok {d : Nat} {x1 : Int32} {x2 : Int32} {x3 : Int32} {s : cf_S} {Q : Int32 → cf_S → Prop} (h : wc_Binder_hasSimpleFields_12 d x1 x2 x3 s Q) : cf_R (d + 10) 115 (12, [(0, .ref 24), (1, .int x1), (2, .int x2), (3, .int x3)], [], s) (cf_qI Q) := by
  unfold wc_Binder_hasSimpleFields_12 at h
  refine cf_R_w rp_115 (rf_bk am_t115 8 5) 12 [(0, .ref 24), (1, .int x1), (2, .int x2), (3, .int x3)] [] s (by repeat (first | exact trivial | refine ⟨rfl, ?_⟩)) (by decide +kernel) ?_
  refine cf_R_prim (pc := 19) (q := ([.ref 18, .int x1, .int (Int32.ofInt 4)], [.int x3])) rp_115 rfl rfl (by decide) (by decide) rp_273 rfl (Nat.le_of_ble_eq_true rfl) ⟨rfl, Nat.le_of_ble_eq_true rfl⟩ (cq_get rfl) ?_
  refine cf_R_w rp_115 (rf_bk am_t115 14 1) 22 [(0, .ref 24), (1, .int x1), (2, .int x2), (3, .int x3)] [.int (tb_get s 18 x1 (Int32.ofInt 4)), .int x3] s (by repeat (first | exact trivial | refine ⟨rfl, ?_⟩)) (by decide +kernel) ?_
  refine cf_R_if (b := am_cnd .ge x3 (tb_get s 18 x1 (Int32.ofInt 4))) (p := 52) (q := 25) (fun hb => ?_) (fun hb => ?_)
  · replace h := h.1 (of_decide_eq_true hb)
    refine cf_R_w rp_115 (rf_bk am_t115 29 1) 52 [(0, .ref 24), (1, .int x1), (2, .int x2), (3, .int x3)] [] s (by repeat (first | exact trivial | refine ⟨rfl, ?_⟩)) (by decide +kernel) ?_
    exact cf_R_ret (pc := 53) (v := some (.int (Int32.ofInt 1))) rp_115 rfl rfl rfl ⟨_, rfl, h⟩
  · replace h := h.2 (of_decide_eq_false hb)
    refine cf_R_w rp_115 (rf_bk am_t115 15 2) 25 [(0, .ref 24), (1, .int x1), (2, .int x2), (3, .int x3)] [] s (by repeat (first | exact trivial | refine ⟨rfl, ?_⟩)) (by decide +kernel) ?_
    refine cf_R_call (pc := 27) (q := ([.ref 24, .int x2], [])) rp_115 rfl rfl (by decide) (by decide) rp_114 rfl (Nat.le_of_ble_eq_true rfl) ⟨rfl, Nat.le_of_ble_eq_true rfl⟩ h (fun v s1 h => ?_)
    obtain ⟨r1, rfl, h⟩ := h
    refine cf_R_w rp_115 (rf_bk am_t115 18 1) 30 [(0, .ref 24), (1, .int x1), (2, .int x2), (3, .int x3)] [.int r1] s1 (by repeat (first | exact trivial | refine ⟨rfl, ?_⟩)) (by decide +kernel) ?_
    refine cf_R_if (b := am_cnd .ne r1 0) (p := 35) (q := 33) (fun hb => ?_) (fun hb => ?_)
    · replace h := h.1 (of_decide_eq_true hb)
      refine cf_R_w rp_115 (rf_bk am_t115 21 4) 35 [(0, .ref 24), (1, .int x1), (2, .int x2), (3, .int x3)] [] s1 (by repeat (first | exact trivial | refine ⟨rfl, ?_⟩)) (by decide +kernel) ?_
      refine cf_R_prim (pc := 42) (q := ([.ref 18, .int x2, .int ((Int8.ofInt 6).toInt32)], [])) rp_115 rfl rfl (by decide) (by decide) rp_273 rfl (Nat.le_of_ble_eq_true rfl) ⟨rfl, Nat.le_of_ble_eq_true rfl⟩ (cq_get rfl) ?_
      refine cf_R_w rp_115 (rf_bk am_t115 26 3) 45 [(0, .ref 24), (1, .int x1), (2, .int x2), (3, .int x3)] [.int (tb_get s1 18 x2 ((Int8.ofInt 6).toInt32))] s1 (by repeat (first | exact trivial | refine ⟨rfl, ?_⟩)) (by decide +kernel) ?_
      exact cf_R_le (l := [(0, .ref 24), (1, .int x1), (2, .int (tb_get s1 18 x2 ((Int8.ofInt 6).toInt32))), (3, .int (x3 + Int32.ofInt 1))]) rfl rfl (⟨rfl, rfl, rfl, rfl, trivial⟩) h
    · replace h := h.2 (Decidable.not_not.mp (of_decide_eq_false hb))
      refine cf_R_w rp_115 (rf_bk am_t115 19 1) 33 [(0, .ref 24), (1, .int x1), (2, .int x2), (3, .int x3)] [] s1 (by repeat (first | exact trivial | refine ⟨rfl, ?_⟩)) (by decide +kernel) ?_
      exact cf_R_ret (pc := 34) (v := some (.int (Int32.ofInt 0))) rp_115 rfl rfl rfl ⟨_, rfl, h⟩
/-- LazyHouse$Binder.hasSimpleFields (I)Z, from 0 on -/
def wc_Binder_hasSimpleFields (d : Nat) (x1 : Int32) (s : cf_S) (Q : Int32 → cf_S → Prop) : Prop := cf_R (d + 10) 115 (12, [(0, .ref 24), (1, .int x1), (2, .int (tb_get s 18 x1 (Int32.ofInt 3))), (3, .int (Int32.ofInt 0))], [], s) (cf_qI Q)
set_option maxRecDepth 20000 in
theorem wc_Binder_hasSimpleFields_ok {d : Nat} {x1 : Int32} {s : cf_S} {Q : Int32 → cf_S → Prop} (h : wc_Binder_hasSimpleFields d x1 s Q) : cf_I (d + 10) 115 [(0, .ref 24), (1, .int x1)] s Q := by
  unfold wc_Binder_hasSimpleFields at h
  unfold cf_I
  refine cf_R_w rp_115 (rf_bk am_t115 0 4) 0 [(0, .ref 24), (1, .int x1)] [] s (by repeat (first | exact trivial | refine ⟨rfl, ?_⟩)) (by decide +kernel) ?_
  refine cf_R_prim (pc := 6) (q := ([.ref 18, .int x1, .int (Int32.ofInt 3)], [])) rp_115 rfl rfl (by decide) (by decide) rp_273 rfl (Nat.le_of_ble_eq_true rfl) ⟨rfl, Nat.le_of_ble_eq_true rfl⟩ (cq_get rfl) ?_
  refine cf_R_w rp_115 (rf_bk am_t115 5 3) 9 [(0, .ref 24), (1, .int x1)] [.int (tb_get s 18 x1 (Int32.ofInt 3))] s (by repeat (first | exact trivial | refine ⟨rfl, ?_⟩)) (by decide +kernel) ?_
  exact cf_R_le (l := [(0, .ref 24), (1, .int x1), (2, .int (tb_get s 18 x1 (Int32.ofInt 3))), (3, .int (Int32.ofInt 0))]) rfl rfl (⟨rfl, rfl, rfl, rfl, trivial⟩) h
