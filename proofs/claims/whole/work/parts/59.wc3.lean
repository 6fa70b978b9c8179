/-! PART 59: the class, decompiled: Machine.frameCellsWanted, Machine.objectCellsWanted, Machine.isFresh, Machine.fits, Machine.collect, Machine.keepEnvironment, Machine.evaluate, Machine.simpleWord, Machine.evaluateDatum, Machine.evaluateCall, Machine.evaluateLet, Machine.pushCapturing, Machine.makeInPlace, Machine.makeEmpty -/
/-- LazyHouse$Machine.frameCellsWanted ()I, from 69 on -/
def wc_Machine_frameCellsWanted_69 (d : Nat) (y0 : Int32) (s : cf_S) (Q : Int32 → cf_S → Prop) : Prop := ((y0 = 0 → Q (Int32.ofInt 0) s) ∧ (¬ (y0 = 0) → cf_I (d + 9) 263 [(0, .ref 31)] s (fun r1 s1 => Q ((Int32.ofInt 1) - r1) s1)))
set_option maxRecDepth 20000 in
theorem wc_Machine_frameCellsWanted_69_ok {d : Nat} {y0 : Int32} {s : cf_S} {Q : Int32 → cf_S → Prop} (h : wc_Machine_frameCellsWanted_69 d y0 s Q) : cf_R (d + 10) 165 (69, [(0, .ref 25)], [.int y0], s) (cf_qI Q) := by
  unfold wc_Machine_frameCellsWanted_69 at h
  refine cf_R_w rp_165 (rf_bk am_t165 34 3) 69 [(0, .ref 25)] [.int y0] s (by repeat (first | exact trivial | refine ⟨rfl, ?_⟩)) (by decide +kernel) ?_
  refine cf_R_if (b := am_cnd .eq y0 0) (p := 86) (q := 74) (fun hb => ?_) (fun hb => ?_)
  · replace h := h.1 (of_decide_eq_true hb)
    refine cf_R_w rp_165 (rf_bk am_t165 43 1) 86 [(1, .int y0), (0, .ref 25)] [] s (by repeat (first | exact trivial | refine ⟨rfl, ?_⟩)) (by decide +kernel) ?_
    exact cf_R_ret (pc := 87) (v := some (.int (Int32.ofInt 0))) rp_165 rfl rfl rfl ⟨_, rfl, h⟩
  · replace h := h.2 (of_decide_eq_false hb)
    refine cf_R_w rp_165 (rf_bk am_t165 37 3) 74 [(1, .int y0), (0, .ref 25)] [] s (by repeat (first | exact trivial | refine ⟨rfl, ?_⟩)) (by decide +kernel) ?_
    refine cf_R_call (pc := 79) (q := ([.ref 31], [.int (Int32.ofInt 1)])) rp_165 rfl rfl (by decide) (by decide) rp_263 rfl (Nat.le_of_ble_eq_true rfl) ⟨rfl, Nat.le_of_ble_eq_true rfl⟩ h (fun v s1 h => ?_)
    obtain ⟨r1, rfl, h⟩ := h
    refine cf_R_w rp_165 (rf_bk am_t165 41 2) 82 [(1, .int y0), (0, .ref 25)] [.int r1, .int (Int32.ofInt 1)] s1 (by repeat (first | exact trivial | refine ⟨rfl, ?_⟩)) (by decide +kernel) ?_
    exact cf_R_ret (pc := 87) (v := some (.int ((Int32.ofInt 1) - r1))) rp_165 rfl rfl rfl ⟨_, rfl, h⟩
/-- LazyHouse$Machine.frameCellsWanted ()I, from 68 on -/
def wc_Machine_frameCellsWanted_68 (d : Nat) (s : cf_S) (Q : Int32 → cf_S → Prop) : Prop := wc_Machine_frameCellsWanted_69 d (Int32.ofInt 0) s Q
set_option maxRecDepth 20000 in
theorem wc_Machine_frameCellsWanted_68_ok {d : Nat} {s : cf_S} {Q : Int32 → cf_S → Prop} (h : wc_Machine_frameCellsWanted_68 d s Q) : cf_R (d + 10) 165 (68, [(0, .ref 25)], [], s) (cf_qI Q) := by
  unfold wc_Machine_frameCellsWanted_68 at h
  refine cf_R_w rp_165 (rf_bk am_t165 33 1) 68 [(0, .ref 25)] [] s (by repeat (first | exact trivial | refine ⟨rfl, ?_⟩)) (by decide +kernel) ?_
  exact cf_R_le (l := [(0, .ref 25)]) rfl rfl (⟨rfl, trivial⟩) (wc_Machine_frameCellsWanted_69_ok h)
/-- LazyHouse$Machine.frameCellsWanted ()I, from 0 on -/
def wc_Machine_frameCellsWanted (d : Nat) (s : cf_S) (Q : Int32 → cf_S → Prop) : Prop := ((¬ (s.1 25 8) = (Int32.ofInt 1) → ((¬ (s.1 25 8) = (Int32.ofInt 2) → cf_I (d + 9) 261 [(0, .ref 31)] s (fun r1 s1 => ((¬ r1 = (Int32.ofInt 3) → wc_Machine_frameCellsWanted_68 d s1 Q) ∧ (r1 = (Int32.ofInt 3) → ((¬ (rf_isOf (s1.2.1 25 10)) = 0 → wc_Machine_frameCellsWanted_68 d s1 Q) ∧ ((rf_isOf (s1.2.1 25 10)) = 0 → wc_Machine_frameCellsWanted_69 d (Int32.ofInt 1) s1 Q)))))) ∧ ((s.1 25 8) = (Int32.ofInt 2) → cf_I (d + 9) 167 [(0, .ref 25)] s (fun r2 s2 => ((r2 = 0 → Q (Int32.ofInt 0) s2) ∧ (¬ (r2 = 0) → Q (Int32.ofInt 3) s2)))))) ∧ ((s.1 25 8) = (Int32.ofInt 1) → Q (tb_get s 18 (s.1 25 9) ((Int8.ofInt 15).toInt32)) s))
set_option maxRecDepth 20000 in
theorem wc_Machine_frameCellsWanted_ok {d : Nat} {s : cf_S} {Q : Int32 → cf_S → Prop} (h : wc_Machine_frameCellsWanted d s Q) : cf_I (d + 10) 165 [(0, .ref 25)] s Q := by
  unfold wc_Machine_frameCellsWanted at h
  unfold cf_I
  refine cf_R_w rp_165 (rf_bk am_t165 0 4) 0 [(0, .ref 25)] [] s (by repeat (first | exact trivial | refine ⟨rfl, ?_⟩)) (by decide +kernel) ?_
  refine cf_R_if (b := am_cnd .ne (s.1 25 8) (Int32.ofInt 1)) (p := 22) (q := 8) (fun hb => ?_) (fun hb => ?_)
  · replace h := h.1 (of_decide_eq_true hb)
    refine cf_R_w rp_165 (rf_bk am_t165 11 4) 22 [(0, .ref 25)] [] s (by repeat (first | exact trivial | refine ⟨rfl, ?_⟩)) (by decide +kernel) ?_
    refine cf_R_if (b := am_cnd .ne (s.1 25 8) (Int32.ofInt 2)) (p := 43) (q := 30) (fun hb => ?_) (fun hb => ?_)
    · replace h := h.1 (of_decide_eq_true hb)
      refine cf_R_w rp_165 (rf_bk am_t165 22 2) 43 [(0, .ref 25)] [] s (by repeat (first | exact trivial | refine ⟨rfl, ?_⟩)) (by decide +kernel) ?_
      refine cf_R_call (pc := 47) (q := ([.ref 31], [])) rp_165 rfl rfl (by decide) (by decide) rp_261 rfl (Nat.le_of_ble_eq_true rfl) ⟨rfl, Nat.le_of_ble_eq_true rfl⟩ h (fun v s1 h => ?_)
      obtain ⟨r1, rfl, h⟩ := h
      refine cf_R_w rp_165 (rf_bk am_t165 25 2) 50 [(0, .ref 25)] [.int r1] s1 (by repeat (first | exact trivial | refine ⟨rfl, ?_⟩)) (by decide +kernel) ?_
      refine cf_R_if (b := am_cnd .ne r1 (Int32.ofInt 3)) (p := 68) (q := 54) (fun hb => ?_) (fun hb => ?_)
      · replace h := h.1 (of_decide_eq_true hb)
        exact cf_R_le (l := [(0, .ref 25)]) rfl rfl (⟨rfl, trivial⟩) (wc_Machine_frameCellsWanted_68_ok h)
      · replace h := h.2 (Decidable.not_not.mp (of_decide_eq_false hb))
        refine cf_R_w rp_165 (rf_bk am_t165 27 2) 54 [(0, .ref 25)] [] s1 (by repeat (first | exact trivial | refine ⟨rfl, ?_⟩)) (by decide +kernel) ?_
        refine cf_R_prim (pc := 58) (q := ([.long (s1.2.1 25 10)], [])) rp_165 rfl rfl (by decide) (by decide) rp_276 rfl (Nat.le_of_ble_eq_true rfl) ⟨rfl, Nat.le_of_ble_eq_true rfl⟩ (cq_tag) ?_
        refine cf_R_w rp_165 (rf_bk am_t165 30 1) 61 [(0, .ref 25)] [.int (rf_isOf (s1.2.1 25 10))] s1 (by repeat (first | exact trivial | refine ⟨rfl, ?_⟩)) (by decide +kernel) ?_
        refine cf_R_if (b := am_cnd .ne (rf_isOf (s1.2.1 25 10)) 0) (p := 68) (q := 64) (fun hb => ?_) (fun hb => ?_)
        · replace h := h.1 (of_decide_eq_true hb)
          exact cf_R_le (l := [(0, .ref 25)]) rfl rfl (⟨rfl, trivial⟩) (wc_Machine_frameCellsWanted_68_ok h)
        · replace h := h.2 (Decidable.not_not.mp (of_decide_eq_false hb))
          refine cf_R_w rp_165 (rf_bk am_t165 31 2) 64 [(0, .ref 25)] [] s1 (by repeat (first | exact trivial | refine ⟨rfl, ?_⟩)) (by decide +kernel) ?_
          exact cf_R_le (l := [(0, .ref 25)]) rfl rfl (⟨rfl, trivial⟩) (wc_Machine_frameCellsWanted_69_ok h)
    · replace h := h.2 (Decidable.not_not.mp (of_decide_eq_false hb))
      refine cf_R_w rp_165 (rf_bk am_t165 15 1) 30 [(0, .ref 25)] [] s (by repeat (first | exact trivial | refine ⟨rfl, ?_⟩)) (by decide +kernel) ?_
      refine cf_R_call (pc := 31) (q := ([.ref 25], [])) rp_165 rfl rfl (by decide) (by decide) rp_167 rfl (Nat.le_of_ble_eq_true rfl) ⟨rfl, Nat.le_of_ble_eq_true rfl⟩ h (fun v s2 h => ?_)
      obtain ⟨r2, rfl, h⟩ := h
      refine cf_R_w rp_165 (rf_bk am_t165 17 1) 34 [(0, .ref 25)] [.int r2] s2 (by repeat (first | exact trivial | refine ⟨rfl, ?_⟩)) (by decide +kernel) ?_
      refine cf_R_if (b := am_cnd .eq r2 0) (p := 41) (q := 37) (fun hb => ?_) (fun hb => ?_)
      · replace h := h.1 (of_decide_eq_true hb)
        refine cf_R_w rp_165 (rf_bk am_t165 20 1) 41 [(0, .ref 25)] [] s2 (by repeat (first | exact trivial | refine ⟨rfl, ?_⟩)) (by decide +kernel) ?_
        exact cf_R_ret (pc := 42) (v := some (.int (Int32.ofInt 0))) rp_165 rfl rfl rfl ⟨_, rfl, h⟩
      · replace h := h.2 (of_decide_eq_false hb)
        refine cf_R_w rp_165 (rf_bk am_t165 18 2) 37 [(0, .ref 25)] [] s2 (by repeat (first | exact trivial | refine ⟨rfl, ?_⟩)) (by decide +kernel) ?_
        exact cf_R_ret (pc := 42) (v := some (.int (Int32.ofInt 3))) rp_165 rfl rfl rfl ⟨_, rfl, h⟩
  · replace h := h.2 (Decidable.not_not.mp (of_decide_eq_false hb))
    refine cf_R_w rp_165 (rf_bk am_t165 4 5) 8 [(0, .ref 25)] [] s (by repeat (first | exact trivial | refine ⟨rfl, ?_⟩)) (by decide +kernel) ?_
    refine cf_R_prim (pc := 18) (q := ([.ref 18, .int (s.1 25 9), .int ((Int8.ofInt 15).toInt32)], [])) rp_165 rfl rfl (by decide) (by decide) rp_273 rfl (Nat.le_of_ble_eq_true rfl) ⟨rfl, Nat.le_of_ble_eq_true rfl⟩ (cq_get rfl) ?_
    exact cf_R_ret (pc := 21) (v := some (.int (tb_get s 18 (s.1 25 9) ((Int8.ofInt 15).toInt32)))) rp_165 rfl rfl rfl ⟨_, rfl, h⟩
/-- LazyHouse$Machine.objectCellsWanted ()I, from 0 on -/
def wc_Machine_objectCellsWanted (d : Nat) (s : cf_S) (Q : Int32 → cf_S → Prop) : Prop := ((¬ (s.1 25 8) = (Int32.ofInt 1) → (((s.1 25 8) = (Int32.ofInt 2) → Q (Int32.ofInt 0) s) ∧ (¬ ((s.1 25 8) = (Int32.ofInt 2)) → cf_I (d + 9) 261 [(0, .ref 31)] s (fun r1 s1 => ((r1 = (Int32.ofInt 5) → cf_I (d + 9) 196 [(0, .ref 25)] s1 (fun r2 s2 => cf_I (d + 9) 263 [(0, .ref 31)] s2 (fun r3 s3 => cf_J (d + 9) 195 [(0, .ref 25)] s3 (fun r4 s4 => cf_I (d + 9) 197 [(0, .ref 25), (1, .long r4)] s4 (fun r5 s5 => ((r5 ≤ (r2 + r3) → Q (Int32.ofInt 0) s5) ∧ (¬ (r5 ≤ (r2 + r3)) → Q ((Int32.ofInt 3) + (r2 + r3)) s5))))))) ∧ (¬ (r1 = (Int32.ofInt 5)) → Q (Int32.ofInt 0) s1)))))) ∧ ((s.1 25 8) = (Int32.ofInt 1) → Q (tb_get s 18 (s.1 25 9) ((Int8.ofInt 14).toInt32)) s))
set_option maxRecDepth 20000 in
theorem wc_Machine_objectCellsWanted_ok {d : Nat} {s : cf_S} {Q : Int32 → cf_S → Prop} (h : wc_Machine_objectCellsWanted d s Q) : cf_I (d + 10) 166 [(0, .ref 25)] s Q := by
  unfold wc_Machine_objectCellsWanted at h
  unfold cf_I
  refine cf_R_w rp_166 (rf_bk am_t166 0 4) 0 [(0, .ref 25)] [] s (by repeat (first | exact trivial | refine ⟨rfl, ?_⟩)) (by decide +kernel) ?_
  refine cf_R_if (b := am_cnd .ne (s.1 25 8) (Int32.ofInt 1)) (p := 22) (q := 8) (fun hb => ?_) (fun hb => ?_)
  · replace h := h.1 (of_decide_eq_true hb)
    refine cf_R_w rp_166 (rf_bk am_t166 11 4) 22 [(0, .ref 25)] [] s (by repeat (first | exact trivial | refine ⟨rfl, ?_⟩)) (by decide +kernel) ?_
    refine cf_R_if (b := am_cnd .eq (s.1 25 8) (Int32.ofInt 2)) (p := 41) (q := 30) (fun hb => ?_) (fun hb => ?_)
    · replace h := h.1 (of_decide_eq_true hb)
      refine cf_R_w rp_166 (rf_bk am_t166 20 1) 41 [(0, .ref 25)] [] s (by repeat (first | exact trivial | refine ⟨rfl, ?_⟩)) (by decide +kernel) ?_
      exact cf_R_ret (pc := 42) (v := some (.int (Int32.ofInt 0))) rp_166 rfl rfl rfl ⟨_, rfl, h⟩
    · replace h := h.2 (of_decide_eq_false hb)
      refine cf_R_w rp_166 (rf_bk am_t166 15 2) 30 [(0, .ref 25)] [] s (by repeat (first | exact trivial | refine ⟨rfl, ?_⟩)) (by decide +kernel) ?_
      refine cf_R_call (pc := 34) (q := ([.ref 31], [])) rp_166 rfl rfl (by decide) (by decide) rp_261 rfl (Nat.le_of_ble_eq_true rfl) ⟨rfl, Nat.le_of_ble_eq_true rfl⟩ h (fun v s1 h => ?_)
      obtain ⟨r1, rfl, h⟩ := h
      refine cf_R_w rp_166 (rf_bk am_t166 18 2) 37 [(0, .ref 25)] [.int r1] s1 (by repeat (first | exact trivial | refine ⟨rfl, ?_⟩)) (by decide +kernel) ?_
      refine cf_R_if (b := am_cnd .eq r1 (Int32.ofInt 5)) (p := 43) (q := 41) (fun hb => ?_) (fun hb => ?_)
      · replace h := h.1 (of_decide_eq_true hb)
        refine cf_R_w rp_166 (rf_bk am_t166 22 1) 43 [(0, .ref 25)] [] s1 (by repeat (first | exact trivial | refine ⟨rfl, ?_⟩)) (by decide +kernel) ?_
        refine cf_R_call (pc := 44) (q := ([.ref 25], [])) rp_166 rfl rfl (by decide) (by decide) rp_196 rfl (Nat.le_of_ble_eq_true rfl) ⟨rfl, Nat.le_of_ble_eq_true rfl⟩ h (fun v s2 h => ?_)
        obtain ⟨r2, rfl, h⟩ := h
        refine cf_R_w rp_166 (rf_bk am_t166 24 2) 47 [(0, .ref 25)] [.int r2] s2 (by repeat (first | exact trivial | refine ⟨rfl, ?_⟩)) (by decide +kernel) ?_
        refine cf_R_call (pc := 51) (q := ([.ref 31], [.int r2])) rp_166 rfl rfl (by decide) (by decide) rp_263 rfl (Nat.le_of_ble_eq_true rfl) ⟨rfl, Nat.le_of_ble_eq_true rfl⟩ h (fun v s3 h => ?_)
        obtain ⟨r3, rfl, h⟩ := h
        refine cf_R_w rp_166 (rf_bk am_t166 27 5) 54 [(0, .ref 25)] [.int r3, .int r2] s3 (by repeat (first | exact trivial | refine ⟨rfl, ?_⟩)) (by decide +kernel) ?_
        refine cf_R_call (pc := 59) (q := ([.ref 25], [.ref 25, .int (r2 + r3)])) rp_166 rfl rfl (by decide) (by decide) rp_195 rfl (Nat.le_of_ble_eq_true rfl) ⟨rfl, Nat.le_of_ble_eq_true rfl⟩ h (fun v s4 h => ?_)
        obtain ⟨r4, rfl, h⟩ := h
        refine cf_R_call (pc := 62) (q := ([.ref 25, .long r4], [.int (r2 + r3)])) rp_166 rfl rfl (by decide) (by decide) rp_197 rfl (Nat.le_of_ble_eq_true rfl) ⟨rfl, Nat.le_of_ble_eq_true rfl⟩ h (fun v s5 h => ?_)
        obtain ⟨r5, rfl, h⟩ := h
        refine cf_R_w rp_166 (rf_bk am_t166 34 1) 65 [(1, .int (r2 + r3)), (0, .ref 25)] [.int r5, .int (r2 + r3)] s5 (by repeat (first | exact trivial | refine ⟨rfl, ?_⟩)) (by decide +kernel) ?_
        refine cf_R_if (b := am_cnd .ge (r2 + r3) r5) (p := 74) (q := 68) (fun hb => ?_) (fun hb => ?_)
        · replace h := h.1 (of_decide_eq_true hb)
          refine cf_R_w rp_166 (rf_bk am_t166 39 1) 74 [(1, .int (r2 + r3)), (0, .ref 25)] [] s5 (by repeat (first | exact trivial | refine ⟨rfl, ?_⟩)) (by decide +kernel) ?_
          exact cf_R_ret (pc := 75) (v := some (.int (Int32.ofInt 0))) rp_166 rfl rfl rfl ⟨_, rfl, h⟩
        · replace h := h.2 (of_decide_eq_false hb)
          refine cf_R_w rp_166 (rf_bk am_t166 35 4) 68 [(1, .int (r2 + r3)), (0, .ref 25)] [] s5 (by repeat (first | exact trivial | refine ⟨rfl, ?_⟩)) (by decide +kernel) ?_
          exact cf_R_ret (pc := 75) (v := some (.int ((Int32.ofInt 3) + (r2 + r3)))) rp_166 rfl rfl rfl ⟨_, rfl, h⟩
      · replace h := h.2 (of_decide_eq_false hb)
        refine cf_R_w rp_166 (rf_bk am_t166 20 1) 41 [(0, .ref 25)] [] s1 (by repeat (first | exact trivial | refine ⟨rfl, ?_⟩)) (by decide +kernel) ?_
        exact cf_R_ret (pc := 42) (v := some (.int (Int32.ofInt 0))) rp_166 rfl rfl rfl ⟨_, rfl, h⟩
  · replace h := h.2 (Decidable.not_not.mp (of_decide_eq_false hb))
    refine cf_R_w rp_166 (rf_bk am_t166 4 5) 8 [(0, .ref 25)] [] s (by repeat (first | exact trivial | refine ⟨rfl, ?_⟩)) (by decide +kernel) ?_
    refine cf_R_prim (pc := 18) (q := ([.ref 18, .int (s.1 25 9), .int ((Int8.ofInt 14).toInt32)], [])) rp_166 rfl rfl (by decide) (by decide) rp_273 rfl (Nat.le_of_ble_eq_true rfl) ⟨rfl, Nat.le_of_ble_eq_true rfl⟩ (cq_get rfl) ?_
    exact cf_R_ret (pc := 21) (v := some (.int (tb_get s 18 (s.1 25 9) ((Int8.ofInt 14).toInt32)))) rp_166 rfl rfl rfl ⟨_, rfl, h⟩
/-- LazyHouse$Machine.isFresh ()Z, from 0 on -/
def wc_Machine_isFresh (d : Nat) (s : cf_S) (Q : Int32 → cf_S → Prop) : Prop := (((rf_isOf (s.2.1 25 10)) = (Int32.ofInt 2) → cf_I (d + 9) 238 [(0, .ref 3), (1, .int ((s.2.1 25 10).toInt32))] s (fun r1 s1 => ((¬ r1 = 0 → Q (Int32.ofInt 0) s1) ∧ (r1 = 0 → ((¬ (rf_isOf (wd_g s1 38 ((s.2.1 25 10).toInt32))) = (Int32.ofInt 4) → Q (Int32.ofInt 0) s1) ∧ ((rf_isOf (wd_g s1 38 ((s.2.1 25 10).toInt32))) = (Int32.ofInt 4) → Q (Int32.ofInt 1) s1)))))) ∧ (¬ ((rf_isOf (s.2.1 25 10)) = (Int32.ofInt 2)) → cf_I (d + 9) 139 [(0, .ref 26), (1, .long (s.2.1 25 10))] s (fun r2 s2 => ((¬ r2 = (Int32.ofInt 1) → Q (Int32.ofInt 0) s2) ∧ (r2 = (Int32.ofInt 1) → Q (Int32.ofInt 1) s2)))))
set_option maxRecDepth 20000 in
theorem wc_Machine_isFresh_ok {d : Nat} {s : cf_S} {Q : Int32 → cf_S → Prop} (h : wc_Machine_isFresh d s Q) : cf_I (d + 10) 167 [(0, .ref 25)] s Q := by
  unfold wc_Machine_isFresh at h
  unfold cf_I
  refine cf_R_w rp_167 (rf_bk am_t167 0 2) 0 [(0, .ref 25)] [] s (by repeat (first | exact trivial | refine ⟨rfl, ?_⟩)) (by decide +kernel) ?_
  refine cf_R_prim (pc := 4) (q := ([.long (s.2.1 25 10)], [])) rp_167 rfl rfl (by decide) (by decide) rp_276 rfl (Nat.le_of_ble_eq_true rfl) ⟨rfl, Nat.le_of_ble_eq_true rfl⟩ (cq_tag) ?_
  refine cf_R_w rp_167 (rf_bk am_t167 3 2) 7 [(0, .ref 25)] [.int (rf_isOf (s.2.1 25 10))] s (by repeat (first | exact trivial | refine ⟨rfl, ?_⟩)) (by decide +kernel) ?_
  refine cf_R_if (b := am_cnd .eq (rf_isOf (s.2.1 25 10)) (Int32.ofInt 2)) (p := 32) (q := 11) (fun hb => ?_) (fun hb => ?_)
  · replace h := h.1 (of_decide_eq_true hb)
    refine cf_R_w rp_167 (rf_bk am_t167 16 2) 32 [(0, .ref 25)] [] s (by repeat (first | exact trivial | refine ⟨rfl, ?_⟩)) (by decide +kernel) ?_
    refine cf_R_prim (pc := 36) (q := ([.long (s.2.1 25 10)], [])) rp_167 rfl rfl (by decide) (by decide) rp_277 rfl (Nat.le_of_ble_eq_true rfl) ⟨rfl, Nat.le_of_ble_eq_true rfl⟩ (cq_value) ?_
    refine cf_R_w rp_167 (rf_bk am_t167 19 4) 39 [(0, .ref 25)] [.int ((s.2.1 25 10).toInt32)] s (by repeat (first | exact trivial | refine ⟨rfl, ?_⟩)) (by decide +kernel) ?_
    refine cf_R_call (pc := 45) (q := ([.ref 3, .int ((s.2.1 25 10).toInt32)], [])) rp_167 rfl rfl (by decide) (by decide) rp_238 rfl (Nat.le_of_ble_eq_true rfl) ⟨rfl, Nat.le_of_ble_eq_true rfl⟩ h (fun v s1 h => ?_)
    obtain ⟨r1, rfl, h⟩ := h
    refine cf_R_w rp_167 (rf_bk am_t167 24 1) 48 [(1, .int ((s.2.1 25 10).toInt32)), (0, .ref 25)] [.int r1] s1 (by repeat (first | exact trivial | refine ⟨rfl, ?_⟩)) (by decide +kernel) ?_
    refine cf_R_if (b := am_cnd .ne r1 0) (p := 70) (q := 51) (fun hb => ?_) (fun hb => ?_)
    · replace h := h.1 (of_decide_eq_true hb)
      refine cf_R_w rp_167 (rf_bk am_t167 34 1) 70 [(1, .int ((s.2.1 25 10).toInt32)), (0, .ref 25)] [] s1 (by repeat (first | exact trivial | refine ⟨rfl, ?_⟩)) (by decide +kernel) ?_
      exact cf_R_ret (pc := 71) (v := some (.int (Int32.ofInt 0))) rp_167 rfl rfl rfl ⟨_, rfl, h⟩
    · replace h := h.2 (Decidable.not_not.mp (of_decide_eq_false hb))
      refine cf_R_w rp_167 (rf_bk am_t167 25 3) 51 [(1, .int ((s.2.1 25 10).toInt32)), (0, .ref 25)] [] s1 (by repeat (first | exact trivial | refine ⟨rfl, ?_⟩)) (by decide +kernel) ?_
      refine cf_R_prim (pc := 56) (q := ([.ref 38, .int ((s.2.1 25 10).toInt32)], [])) rp_167 rfl rfl (by decide) (by decide) rp_280 rfl (Nat.le_of_ble_eq_true rfl) ⟨rfl, Nat.le_of_ble_eq_true rfl⟩ (cq_wget rfl) ?_
      refine cf_R_prim (pc := 59) (q := ([.long (wd_g s1 38 ((s.2.1 25 10).toInt32))], [])) rp_167 rfl rfl (by decide) (by decide) rp_276 rfl (Nat.le_of_ble_eq_true rfl) ⟨rfl, Nat.le_of_ble_eq_true rfl⟩ (cq_tag) ?_
      refine cf_R_w rp_167 (rf_bk am_t167 30 2) 62 [(1, .int ((s.2.1 25 10).toInt32)), (0, .ref 25)] [.int (rf_isOf (wd_g s1 38 ((s.2.1 25 10).toInt32)))] s1 (by repeat (first | exact trivial | refine ⟨rfl, ?_⟩)) (by decide +kernel) ?_
      refine cf_R_if (b := am_cnd .ne (rf_isOf (wd_g s1 38 ((s.2.1 25 10).toInt32))) (Int32.ofInt 4)) (p := 70) (q := 66) (fun hb => ?_) (fun hb => ?_)
      · replace h := h.1 (of_decide_eq_true hb)
        refine cf_R_w rp_167 (rf_bk am_t167 34 1) 70 [(1, .int ((s.2.1 25 10).toInt32)), (0, .ref 25)] [] s1 (by repeat (first | exact trivial | refine ⟨rfl, ?_⟩)) (by decide +kernel) ?_
        exact cf_R_ret (pc := 71) (v := some (.int (Int32.ofInt 0))) rp_167 rfl rfl rfl ⟨_, rfl, h⟩
      · replace h := h.2 (Decidable.not_not.mp (of_decide_eq_false hb))
        refine cf_R_w rp_167 (rf_bk am_t167 32 2) 66 [(1, .int ((s.2.1 25 10).toInt32)), (0, .ref 25)] [] s1 (by repeat (first | exact trivial | refine ⟨rfl, ?_⟩)) (by decide +kernel) ?_
        exact cf_R_ret (pc := 71) (v := some (.int (Int32.ofInt 1))) rp_167 rfl rfl rfl ⟨_, rfl, h⟩
  · replace h := h.2 (of_decide_eq_false hb)
    refine cf_R_w rp_167 (rf_bk am_t167 5 4) 11 [(0, .ref 25)] [] s (by repeat (first | exact trivial | refine ⟨rfl, ?_⟩)) (by decide +kernel) ?_
    refine cf_R_call (pc := 19) (q := ([.ref 26, .long (s.2.1 25 10)], [])) rp_167 rfl rfl (by decide) (by decide) rp_139 rfl (Nat.le_of_ble_eq_true rfl) ⟨rfl, Nat.le_of_ble_eq_true rfl⟩ h (fun v s2 h => ?_)
    obtain ⟨r2, rfl, h⟩ := h
    refine cf_R_w rp_167 (rf_bk am_t167 10 2) 22 [(0, .ref 25)] [.int r2] s2 (by repeat (first | exact trivial | refine ⟨rfl, ?_⟩)) (by decide +kernel) ?_
    refine cf_R_if (b := am_cnd .ne r2 (Int32.ofInt 1)) (p := 30) (q := 26) (fun hb => ?_) (fun hb => ?_)
    · replace h := h.1 (of_decide_eq_true hb)
      refine cf_R_w rp_167 (rf_bk am_t167 14 1) 30 [(0, .ref 25)] [] s2 (by repeat (first | exact trivial | refine ⟨rfl, ?_⟩)) (by decide +kernel) ?_
      exact cf_R_ret (pc := 31) (v := some (.int (Int32.ofInt 0))) rp_167 rfl rfl rfl ⟨_, rfl, h⟩
    · replace h := h.2 (Decidable.not_not.mp (of_decide_eq_false hb))
      refine cf_R_w rp_167 (rf_bk am_t167 12 2) 26 [(0, .ref 25)] [] s2 (by repeat (first | exact trivial | refine ⟨rfl, ?_⟩)) (by decide +kernel) ?_
      exact cf_R_ret (pc := 31) (v := some (.int (Int32.ofInt 1))) rp_167 rfl rfl rfl ⟨_, rfl, h⟩
/-- LazyHouse$Machine.fits (II)Z, from 0 on -/
def wc_Machine_fits (d : Nat) (x1 : Int32) (x2 : Int32) (s : cf_S) (Q : Int32 → cf_S → Prop) : Prop := cf_I (d + 9) 258 [(0, .ref 31)] s (fun r1 s1 => (((r1 + x1) ≤ ((Int16.ofInt 3000).toInt32) → cf_I (d + 9) 131 [(0, .ref 26), (1, .int x2)] s1 (fun r2 s2 => ((r2 = 0 → cf_V (d + 9) 169 [(0, .ref 25)] s2 (fun s3 => cf_I (d + 9) 131 [(0, .ref 26), (1, .int x2)] s3 (fun r4 s4 => ((r4 = 0 → cf_V (d + 9) 164 [(0, .ref 25), (1, .int ((Int8.ofInt 6).toInt32))] s4 (fun s5 => Q (Int32.ofInt 0) s5)) ∧ (¬ (r4 = 0) → Q (Int32.ofInt 1) s4))))) ∧ (¬ (r2 = 0) → Q (Int32.ofInt 1) s2)))) ∧ (¬ ((r1 + x1) ≤ ((Int16.ofInt 3000).toInt32)) → cf_V (d + 9) 164 [(0, .ref 25), (1, .int ((Int8.ofInt 7).toInt32))] s1 (fun s6 => Q (Int32.ofInt 0) s6))))
set_option maxRecDepth 20000 in
theorem wc_Machine_fits_ok {d : Nat} {x1 : Int32} {x2 : Int32} {s : cf_S} {Q : Int32 → cf_S → Prop} (h : wc_Machine_fits d x1 x2 s Q) : cf_I (d + 10) 168 [(0, .ref 25), (1, .int x1), (2, .int x2)] s Q := by
  unfold wc_Machine_fits at h
  unfold cf_I
  refine cf_R_w rp_168 (rf_bk am_t168 0 2) 0 [(0, .ref 25), (1, .int x1), (2, .int x2)] [] s (by repeat (first | exact trivial | refine ⟨rfl, ?_⟩)) (by decide +kernel) ?_
  refine cf_R_call (pc := 4) (q := ([.ref 31], [])) rp_168 rfl rfl (by decide) (by decide) rp_258 rfl (Nat.le_of_ble_eq_true rfl) ⟨rfl, Nat.le_of_ble_eq_true rfl⟩ h (fun v s1 h => ?_)
  obtain ⟨r1, rfl, h⟩ := h
  refine cf_R_w rp_168 (rf_bk am_t168 3 4) 7 [(0, .ref 25), (1, .int x1), (2, .int x2)] [.int r1] s1 (by repeat (first | exact trivial | refine ⟨rfl, ?_⟩)) (by decide +kernel) ?_
  refine cf_R_if (b := am_cnd .le (r1 + x1) ((Int16.ofInt 3000).toInt32)) (p := 23) (q := 15) (fun hb => ?_) (fun hb => ?_)
  · replace h := h.1 (of_decide_eq_true hb)
    refine cf_R_w rp_168 (rf_bk am_t168 12 3) 23 [(0, .ref 25), (1, .int x1), (2, .int x2)] [] s1 (by repeat (first | exact trivial | refine ⟨rfl, ?_⟩)) (by decide +kernel) ?_
    refine cf_R_call (pc := 28) (q := ([.ref 26, .int x2], [])) rp_168 rfl rfl (by decide) (by decide) rp_131 rfl (Nat.le_of_ble_eq_true rfl) ⟨rfl, Nat.le_of_ble_eq_true rfl⟩ h (fun v s2 h => ?_)
    obtain ⟨r2, rfl, h⟩ := h
    refine cf_R_w rp_168 (rf_bk am_t168 16 1) 31 [(0, .ref 25), (1, .int x1), (2, .int x2)] [.int r2] s2 (by repeat (first | exact trivial | refine ⟨rfl, ?_⟩)) (by decide +kernel) ?_
    refine cf_R_if (b := am_cnd .eq r2 0) (p := 36) (q := 34) (fun hb => ?_) (fun hb => ?_)
    · replace h := h.1 (of_decide_eq_true hb)
      refine cf_R_w rp_168 (rf_bk am_t168 19 1) 36 [(0, .ref 25), (1, .int x1), (2, .int x2)] [] s2 (by repeat (first | exact trivial | refine ⟨rfl, ?_⟩)) (by decide +kernel) ?_
      refine cf_R_call (pc := 37) (q := ([.ref 25], [])) rp_168 rfl rfl (by decide) (by decide) rp_169 rfl (Nat.le_of_ble_eq_true rfl) ⟨rfl, Nat.le_of_ble_eq_true rfl⟩ h (fun v s3 h => ?_)
      obtain ⟨rfl, h⟩ := h
      refine cf_R_w rp_168 (rf_bk am_t168 21 3) 40 [(0, .ref 25), (1, .int x1), (2, .int x2)] [] s3 (by repeat (first | exact trivial | refine ⟨rfl, ?_⟩)) (by decide +kernel) ?_
      refine cf_R_call (pc := 45) (q := ([.ref 26, .int x2], [])) rp_168 rfl rfl (by decide) (by decide) rp_131 rfl (Nat.le_of_ble_eq_true rfl) ⟨rfl, Nat.le_of_ble_eq_true rfl⟩ h (fun v s4 h => ?_)
      obtain ⟨r4, rfl, h⟩ := h
      refine cf_R_w rp_168 (rf_bk am_t168 25 1) 48 [(0, .ref 25), (1, .int x1), (2, .int x2)] [.int r4] s4 (by repeat (first | exact trivial | refine ⟨rfl, ?_⟩)) (by decide +kernel) ?_
      refine cf_R_if (b := am_cnd .eq r4 0) (p := 53) (q := 51) (fun hb => ?_) (fun hb => ?_)
      · replace h := h.1 (of_decide_eq_true hb)
        refine cf_R_w rp_168 (rf_bk am_t168 28 2) 53 [(0, .ref 25), (1, .int x1), (2, .int x2)] [] s4 (by repeat (first | exact trivial | refine ⟨rfl, ?_⟩)) (by decide +kernel) ?_
        refine cf_R_call (pc := 56) (q := ([.ref 25, .int ((Int8.ofInt 6).toInt32)], [])) rp_168 rfl rfl (by decide) (by decide) rp_164 rfl (Nat.le_of_ble_eq_true rfl) ⟨rfl, Nat.le_of_ble_eq_true rfl⟩ h (fun v s5 h => ?_)
        obtain ⟨rfl, h⟩ := h
        refine cf_R_w rp_168 (rf_bk am_t168 31 1) 59 [(0, .ref 25), (1, .int x1), (2, .int x2)] [] s5 (by repeat (first | exact trivial | refine ⟨rfl, ?_⟩)) (by decide +kernel) ?_
        exact cf_R_ret (pc := 60) (v := some (.int (Int32.ofInt 0))) rp_168 rfl rfl rfl ⟨_, rfl, h⟩
      · replace h := h.2 (of_decide_eq_false hb)
        refine cf_R_w rp_168 (rf_bk am_t168 26 1) 51 [(0, .ref 25), (1, .int x1), (2, .int x2)] [] s4 (by repeat (first | exact trivial | refine ⟨rfl, ?_⟩)) (by decide +kernel) ?_
        exact cf_R_ret (pc := 52) (v := some (.int (Int32.ofInt 1))) rp_168 rfl rfl rfl ⟨_, rfl, h⟩
    · replace h := h.2 (of_decide_eq_false hb)
      refine cf_R_w rp_168 (rf_bk am_t168 17 1) 34 [(0, .ref 25), (1, .int x1), (2, .int x2)] [] s2 (by repeat (first | exact trivial | refine ⟨rfl, ?_⟩)) (by decide +kernel) ?_
      exact cf_R_ret (pc := 35) (v := some (.int (Int32.ofInt 1))) rp_168 rfl rfl rfl ⟨_, rfl, h⟩
  · replace h := h.2 (of_decide_eq_false hb)
    refine cf_R_w rp_168 (rf_bk am_t168 7 2) 15 [(0, .ref 25), (1, .int x1), (2, .int x2)] [] s1 (by repeat (first | exact trivial | refine ⟨rfl, ?_⟩)) (by decide +kernel) ?_
    refine cf_R_call (pc := 18) (q := ([.ref 25, .int ((Int8.ofInt 7).toInt32)], [])) rp_168 rfl rfl (by decide) (by decide) rp_164 rfl (Nat.le_of_ble_eq_true rfl) ⟨rfl, Nat.le_of_ble_eq_true rfl⟩ h (fun v s6 h => ?_)
    obtain ⟨rfl, h⟩ := h
    refine cf_R_w rp_168 (rf_bk am_t168 10 1) 21 [(0, .ref 25), (1, .int x1), (2, .int x2)] [] s6 (by repeat (first | exact trivial | refine ⟨rfl, ?_⟩)) (by decide +kernel) ?_
    exact cf_R_ret (pc := 22) (v := some (.int (Int32.ofInt 0))) rp_168 rfl rfl rfl ⟨_, rfl, h⟩
/-- LazyHouse$Machine.collect ()V, from 116 on -/
def wc_Machine_collect_116 (d : Nat) (s : cf_S) (Q : cf_S → Prop) : Prop := cf_V (d + 9) 146 [(0, .ref 26)] s (fun s1 => Q s1)
set_option maxRecDepth 20000 in
theorem wc_Machine_collect_116_ok {d : Nat} {s : cf_S} {Q : cf_S → Prop} (h : wc_Machine_collect_116 d s Q) : cf_R (d + 10) 169 (116, [(0, .ref 25)], [], s) (cf_qV Q) := by
  unfold wc_Machine_collect_116 at h
  refine cf_R_w rp_169 (rf_bk am_t169 54 2) 116 [(0, .ref 25)] [] s (by repeat (first | exact trivial | refine ⟨rfl, ?_⟩)) (by decide +kernel) ?_
  refine cf_R_call (pc := 120) (q := ([.ref 26], [])) rp_169 rfl rfl (by decide) (by decide) rp_146 rfl (Nat.le_of_ble_eq_true rfl) ⟨rfl, Nat.le_of_ble_eq_true rfl⟩ h (fun v s1 h => ?_)
  obtain ⟨rfl, h⟩ := h
  exact cf_R_ret (pc := 123) rp_169 rfl rfl rfl ⟨rfl, h⟩
/-- LazyHouse$Machine.collect ()V, from 73 on -/
def wc_Machine_collect_73 (d : Nat) (x1 : Int32) (s : cf_S) (Q : cf_S → Prop) : Prop := (((s.1 10 2) ≤ x1 → wc_Machine_collect_116 d s Q) ∧ (¬ ((s.1 10 2) ≤ x1) → cf_J (d + 9) 144 [(0, .ref 26), (1, .long (wd_g s 38 x1))] s (fun r1 s1 => cf_R (d + 10) 169 (73, [(0, .ref 25), (1, .int (x1 + Int32.ofInt 1))], [], (wd_s s1 38 x1 r1)) (cf_qV Q))))
set_option maxRecDepth 20000 in
theorem wc_Machine_collect_73_ok {d : Nat} {x1 : Int32} {s : cf_S} {Q : cf_S → Prop} (h : wc_Machine_collect_73 d x1 s Q) : cf_R (d + 10) 169 (73, [(0, .ref 25), (1, .int x1)], [], s) (cf_qV Q) := by
  unfold wc_Machine_collect_73 at h
  refine cf_R_w rp_169 (rf_bk am_t169 35 4) 73 [(0, .ref 25), (1, .int x1)] [] s (by repeat (first | exact trivial | refine ⟨rfl, ?_⟩)) (by decide +kernel) ?_
  refine cf_R_prim (pc := 81) (q := ([.ref 10], [.int x1])) rp_169 rfl rfl (by decide) (by decide) rp_270 rfl (Nat.le_of_ble_eq_true rfl) ⟨rfl, Nat.le_of_ble_eq_true rfl⟩ (cq_rows rfl) ?_
  refine cf_R_w rp_169 (rf_bk am_t169 40 1) 84 [(0, .ref 25), (1, .int x1)] [.int (s.1 10 2), .int x1] s (by repeat (first | exact trivial | refine ⟨rfl, ?_⟩)) (by decide +kernel) ?_
  refine cf_R_if (b := am_cnd .ge x1 (s.1 10 2)) (p := 116) (q := 87) (fun hb => ?_) (fun hb => ?_)
  · replace h := h.1 (of_decide_eq_true hb)
    exact cf_R_le (l := [(0, .ref 25)]) rfl rfl (⟨rfl, trivial⟩) (wc_Machine_collect_116_ok h)
  · replace h := h.2 (of_decide_eq_false hb)
    refine cf_R_w rp_169 (rf_bk am_t169 41 8) 87 [(0, .ref 25), (1, .int x1)] [] s (by repeat (first | exact trivial | refine ⟨rfl, ?_⟩)) (by decide +kernel) ?_
    refine cf_R_prim (pc := 101) (q := ([.ref 38, .int x1], [.ref 26, .int x1, .ref 38])) rp_169 rfl rfl (by decide) (by decide) rp_280 rfl (Nat.le_of_ble_eq_true rfl) ⟨rfl, Nat.le_of_ble_eq_true rfl⟩ (cq_wget rfl) ?_
    refine cf_R_call (pc := 104) (q := ([.ref 26, .long (wd_g s 38 x1)], [.int x1, .ref 38])) rp_169 rfl rfl (by decide) (by decide) rp_144 rfl (Nat.le_of_ble_eq_true rfl) ⟨rfl, Nat.le_of_ble_eq_true rfl⟩ h (fun v s1 h => ?_)
    obtain ⟨r1, rfl, h⟩ := h
    refine cf_R_prim (pc := 107) (q := ([.ref 38, .int x1, .long r1], [])) rp_169 rfl rfl (by decide) (by decide) rp_281 rfl (Nat.le_of_ble_eq_true rfl) ⟨rfl, Nat.le_of_ble_eq_true rfl⟩ (cq_wset rfl) ?_
    refine cf_R_w rp_169 (rf_bk am_t169 52 2) 110 [(0, .ref 25), (1, .int x1)] [] (wd_s s1 38 x1 r1) (by repeat (first | exact trivial | refine ⟨rfl, ?_⟩)) (by decide +kernel) ?_
    exact cf_R_le (l := [(0, .ref 25), (1, .int (x1 + Int32.ofInt 1))]) rfl rfl (⟨rfl, rfl, trivial⟩) h
/-- LazyHouse$Machine.collect ()V, from 64 on -/
def wc_Machine_collect_64 (d : Nat) (s : cf_S) (Q : cf_S → Prop) : Prop := (((s.1 25 8) = 0 → wc_Machine_collect_116 d s Q) ∧ (¬ ((s.1 25 8) = 0) → cf_R (d + 10) 169 (73, [(0, .ref 25), (1, .int (Int32.ofInt 1))], [], s) (cf_qV Q)))
set_option maxRecDepth 20000 in
theorem wc_Machine_collect_64_ok {d : Nat} {s : cf_S} {Q : cf_S → Prop} (h : wc_Machine_collect_64 d s Q) : cf_R (d + 10) 169 (64, [(0, .ref 25)], [], s) (cf_qV Q) := by
  unfold wc_Machine_collect_64 at h
  refine cf_R_w rp_169 (rf_bk am_t169 30 3) 64 [(0, .ref 25)] [] s (by repeat (first | exact trivial | refine ⟨rfl, ?_⟩)) (by decide +kernel) ?_
  refine cf_R_if (b := am_cnd .eq (s.1 25 8) 0) (p := 116) (q := 71) (fun hb => ?_) (fun hb => ?_)
  · replace h := h.1 (of_decide_eq_true hb)
    exact cf_R_le (l := [(0, .ref 25)]) rfl rfl (⟨rfl, trivial⟩) (wc_Machine_collect_116_ok h)
  · replace h := h.2 (of_decide_eq_false hb)
    refine cf_R_w rp_169 (rf_bk am_t169 33 2) 71 [(0, .ref 25)] [] s (by repeat (first | exact trivial | refine ⟨rfl, ?_⟩)) (by decide +kernel) ?_
    exact cf_R_le (l := [(0, .ref 25), (1, .int (Int32.ofInt 1))]) rfl rfl (⟨rfl, rfl, trivial⟩) h
/-- LazyHouse$Machine.collect ()V, from 49 on -/
def wc_Machine_collect_49 (d : Nat) (s : cf_S) (Q : cf_S → Prop) : Prop := cf_J (d + 9) 144 [(0, .ref 26), (1, .long (s.2.1 25 10))] s (fun r1 s1 => wc_Machine_collect_64 d (cf_sj s1 25 10 r1) Q)
set_option maxRecDepth 20000 in
theorem wc_Machine_collect_49_ok {d : Nat} {s : cf_S} {Q : cf_S → Prop} (h : wc_Machine_collect_49 d s Q) : cf_R (d + 10) 169 (49, [(0, .ref 25)], [], s) (cf_qV Q) := by
  unfold wc_Machine_collect_49 at h
  refine cf_R_w rp_169 (rf_bk am_t169 23 5) 49 [(0, .ref 25)] [] s (by repeat (first | exact trivial | refine ⟨rfl, ?_⟩)) (by decide +kernel) ?_
  refine cf_R_call (pc := 58) (q := ([.ref 26, .long (s.2.1 25 10)], [.ref 25])) rp_169 rfl rfl (by decide) (by decide) rp_144 rfl (Nat.le_of_ble_eq_true rfl) ⟨rfl, Nat.le_of_ble_eq_true rfl⟩ h (fun v s1 h => ?_)
  obtain ⟨r1, rfl, h⟩ := h
  refine cf_R_w rp_169 (rf_bk am_t169 29 1) 61 [(0, .ref 25)] [.long r1, .ref 25] s1 (by repeat (first | exact trivial | refine ⟨rfl, ?_⟩)) (by decide +kernel) ?_
  refine And.intro rfl ?_
  exact cf_R_le (l := [(0, .ref 25)]) rfl rfl (⟨rfl, trivial⟩) (wc_Machine_collect_64_ok h)
/-- LazyHouse$Machine.collect ()V, from 0 on -/
def wc_Machine_collect (d : Nat) (s : cf_S) (Q : cf_S → Prop) : Prop := cf_V (d + 9) 268 [(0, .ref 31), (1, .ref 26)] (hp_sw s) (fun s1 => ((¬ (s1.1 25 8) = (Int32.ofInt 1) → (((s1.1 25 8) = (Int32.ofInt 2) → wc_Machine_collect_49 d s1 Q) ∧ (¬ ((s1.1 25 8) = (Int32.ofInt 2)) → ((¬ (s1.1 25 8) = (Int32.ofInt 3) → wc_Machine_collect_64 d s1 Q) ∧ ((s1.1 25 8) = (Int32.ofInt 3) → wc_Machine_collect_49 d s1 Q))))) ∧ ((s1.1 25 8) = (Int32.ofInt 1) → cf_V (d + 9) 170 [(0, .ref 25)] s1 (fun s2 => wc_Machine_collect_64 d s2 Q))))
set_option maxRecDepth 20000 in
theorem wc_Machine_collect_ok {d : Nat} {s : cf_S} {Q : cf_S → Prop} (h : wc_Machine_collect d s Q) : cf_V (d + 10) 169 [(0, .ref 25)] s Q := by
  unfold wc_Machine_collect at h
  unfold cf_V
  refine cf_R_w rp_169 (rf_bk am_t169 0 2) 0 [(0, .ref 25)] [] s (by repeat (first | exact trivial | refine ⟨rfl, ?_⟩)) (by decide +kernel) ?_
  refine cf_R_prim (pc := 4) (q := ([.ref 26], [])) rp_169 rfl rfl (by decide) (by decide) rp_143 rfl (Nat.le_of_ble_eq_true rfl) ⟨rfl, Nat.le_of_ble_eq_true rfl⟩ (cq_sw) ?_
  refine cf_R_w rp_169 (rf_bk am_t169 3 4) 7 [(0, .ref 25)] [] (hp_sw s) (by repeat (first | exact trivial | refine ⟨rfl, ?_⟩)) (by decide +kernel) ?_
  refine cf_R_call (pc := 15) (q := ([.ref 31, .ref 26], [])) rp_169 rfl rfl (by decide) (by decide) rp_268 rfl (Nat.le_of_ble_eq_true rfl) ⟨rfl, Nat.le_of_ble_eq_true rfl⟩ h (fun v s1 h => ?_)
  obtain ⟨rfl, h⟩ := h
  refine cf_R_w rp_169 (rf_bk am_t169 8 4) 18 [(0, .ref 25)] [] s1 (by repeat (first | exact trivial | refine ⟨rfl, ?_⟩)) (by decide +kernel) ?_
  refine cf_R_if (b := am_cnd .ne (s1.1 25 8) (Int32.ofInt 1)) (p := 33) (q := 26) (fun hb => ?_) (fun hb => ?_)
  · replace h := h.1 (of_decide_eq_true hb)
    refine cf_R_w rp_169 (rf_bk am_t169 15 4) 33 [(0, .ref 25)] [] s1 (by repeat (first | exact trivial | refine ⟨rfl, ?_⟩)) (by decide +kernel) ?_
    refine cf_R_if (b := am_cnd .eq (s1.1 25 8) (Int32.ofInt 2)) (p := 49) (q := 41) (fun hb => ?_) (fun hb => ?_)
    · replace h := h.1 (of_decide_eq_true hb)
      exact cf_R_le (l := [(0, .ref 25)]) rfl rfl (⟨rfl, trivial⟩) (wc_Machine_collect_49_ok h)
    · replace h := h.2 (of_decide_eq_false hb)
      refine cf_R_w rp_169 (rf_bk am_t169 19 4) 41 [(0, .ref 25)] [] s1 (by repeat (first | exact trivial | refine ⟨rfl, ?_⟩)) (by decide +kernel) ?_
      refine cf_R_if (b := am_cnd .ne (s1.1 25 8) (Int32.ofInt 3)) (p := 64) (q := 49) (fun hb => ?_) (fun hb => ?_)
      · replace h := h.1 (of_decide_eq_true hb)
        exact cf_R_le (l := [(0, .ref 25)]) rfl rfl (⟨rfl, trivial⟩) (wc_Machine_collect_64_ok h)
      · replace h := h.2 (Decidable.not_not.mp (of_decide_eq_false hb))
        exact cf_R_le (l := [(0, .ref 25)]) rfl rfl (⟨rfl, trivial⟩) (wc_Machine_collect_49_ok h)
  · replace h := h.2 (Decidable.not_not.mp (of_decide_eq_false hb))
    refine cf_R_w rp_169 (rf_bk am_t169 12 1) 26 [(0, .ref 25)] [] s1 (by repeat (first | exact trivial | refine ⟨rfl, ?_⟩)) (by decide +kernel) ?_
    refine cf_R_call (pc := 27) (q := ([.ref 25], [])) rp_169 rfl rfl (by decide) (by decide) rp_170 rfl (Nat.le_of_ble_eq_true rfl) ⟨rfl, Nat.le_of_ble_eq_true rfl⟩ h (fun v s2 h => ?_)
    obtain ⟨rfl, h⟩ := h
    refine cf_R_w rp_169 (rf_bk am_t169 14 1) 30 [(0, .ref 25)] [] s2 (by repeat (first | exact trivial | refine ⟨rfl, ?_⟩)) (by decide +kernel) ?_
    exact cf_R_le (l := [(0, .ref 25)]) rfl rfl (⟨rfl, trivial⟩) (wc_Machine_collect_64_ok h)
/-- LazyHouse$Machine.keepEnvironment ()V, from 49 on -/
def wc_Machine_keepEnvironment_49 (d : Nat) (x1 : Int32) (x2 : Int32) (x3 : Int32) (s : cf_S) (Q : cf_S → Prop) : Prop := (((tb_get s 18 (s.1 25 9) ((Int8.ofInt 12).toInt32)) ≤ x3 → ((¬ x1 = 0 → Q s) ∧ (x1 = 0 → cf_V (d + 9) 236 [(0, .ref 3), (1, .int (s.1 25 9))] s (fun s1 => Q s1)))) ∧ (¬ ((tb_get s 18 (s.1 25 9) ((Int8.ofInt 12).toInt32)) ≤ x3) → cf_J (d + 9) 144 [(0, .ref 26), (1, .long (wd_g s 36 (tb_get s 20 (x2 + x3) (Int32.ofInt 0))))] s (fun r2 s2 => cf_R (d + 10) 170 (49, [(0, .ref 25), (1, .int x1), (2, .int x2), (3, .int (x3 + Int32.ofInt 1))], [], (wd_s s2 36 (tb_get s 20 (x2 + x3) (Int32.ofInt 0)) r2)) (cf_qV Q))))
set_option maxRecDepth 20000 in
theorem wc_Machine_keepEnvironment_49_ok {d : Nat} {x1 : Int32} {x2 : Int32} {x3 : Int32} {s : cf_S} {Q : cf_S → Prop} (h : wc_Machine_keepEnvironment_49 d x1 x2 x3 s Q) : cf_R (d + 10) 170 (49, [(0, .ref 25), (1, .int x1), (2, .int x2), (3, .int x3)], [], s) (cf_qV Q) := by
  unfold wc_Machine_keepEnvironment_49 at h
  refine cf_R_w rp_170 (rf_bk am_t170 25 6) 49 [(0, .ref 25), (1, .int x1), (2, .int x2), (3, .int x3)] [] s (by repeat (first | exact trivial | refine ⟨rfl, ?_⟩)) (by decide +kernel) ?_
  refine cf_R_prim (pc := 60) (q := ([.ref 18, .int (s.1 25 9), .int ((Int8.ofInt 12).toInt32)], [.int x3])) rp_170 rfl rfl (by decide) (by decide) rp_273 rfl (Nat.le_of_ble_eq_true rfl) ⟨rfl, Nat.le_of_ble_eq_true rfl⟩ (cq_get rfl) ?_
  refine cf_R_w rp_170 (rf_bk am_t170 32 1) 63 [(0, .ref 25), (1, .int x1), (2, .int x2), (3, .int x3)] [.int (tb_get s 18 (s.1 25 9) ((Int8.ofInt 12).toInt32)), .int x3] s (by repeat (first | exact trivial | refine ⟨rfl, ?_⟩)) (by decide +kernel) ?_
  refine cf_R_if (b := am_cnd .ge x3 (tb_get s 18 (s.1 25 9) ((Int8.ofInt 12).toInt32))) (p := 110) (q := 66) (fun hb => ?_) (fun hb => ?_)
  · replace h := h.1 (of_decide_eq_true hb)
    refine cf_R_w rp_170 (rf_bk am_t170 54 2) 110 [(0, .ref 25), (1, .int x1), (2, .int x2), (3, .int x3)] [] s (by repeat (first | exact trivial | refine ⟨rfl, ?_⟩)) (by decide +kernel) ?_
    refine cf_R_if (b := am_cnd .ne x1 0) (p := 125) (q := 114) (fun hb => ?_) (fun hb => ?_)
    · replace h := h.1 (of_decide_eq_true hb)
      exact cf_R_ret (pc := 125) rp_170 rfl rfl rfl ⟨rfl, h⟩
    · replace h := h.2 (Decidable.not_not.mp (of_decide_eq_false hb))
      refine cf_R_w rp_170 (rf_bk am_t170 56 4) 114 [(0, .ref 25), (1, .int x1), (2, .int x2), (3, .int x3)] [] s (by repeat (first | exact trivial | refine ⟨rfl, ?_⟩)) (by decide +kernel) ?_
      refine cf_R_call (pc := 122) (q := ([.ref 3, .int (s.1 25 9)], [])) rp_170 rfl rfl (by decide) (by decide) rp_236 rfl (Nat.le_of_ble_eq_true rfl) ⟨rfl, Nat.le_of_ble_eq_true rfl⟩ h (fun v s1 h => ?_)
      obtain ⟨rfl, h⟩ := h
      exact cf_R_ret (pc := 125) rp_170 rfl rfl rfl ⟨rfl, h⟩
  · replace h := h.2 (of_decide_eq_false hb)
    refine cf_R_w rp_170 (rf_bk am_t170 33 6) 66 [(0, .ref 25), (1, .int x1), (2, .int x2), (3, .int x3)] [] s (by repeat (first | exact trivial | refine ⟨rfl, ?_⟩)) (by decide +kernel) ?_
    refine cf_R_prim (pc := 74) (q := ([.ref 20, .int (x2 + x3), .int (Int32.ofInt 0)], [])) rp_170 rfl rfl (by decide) (by decide) rp_273 rfl (Nat.le_of_ble_eq_true rfl) ⟨rfl, Nat.le_of_ble_eq_true rfl⟩ (cq_get rfl) ?_
    refine cf_R_w rp_170 (rf_bk am_t170 40 9) 77 [(0, .ref 25), (1, .int x1), (2, .int x2), (3, .int x3)] [.int (tb_get s 20 (x2 + x3) (Int32.ofInt 0))] s (by repeat (first | exact trivial | refine ⟨rfl, ?_⟩)) (by decide +kernel) ?_
    refine cf_R_prim (pc := 95) (q := ([.ref 36, .int (tb_get s 20 (x2 + x3) (Int32.ofInt 0))], [.ref 26, .int (tb_get s 20 (x2 + x3) (Int32.ofInt 0)), .ref 36])) rp_170 rfl rfl (by decide) (by decide) rp_280 rfl (Nat.le_of_ble_eq_true rfl) ⟨rfl, Nat.le_of_ble_eq_true rfl⟩ (cq_wget rfl) ?_
    refine cf_R_call (pc := 98) (q := ([.ref 26, .long (wd_g s 36 (tb_get s 20 (x2 + x3) (Int32.ofInt 0)))], [.int (tb_get s 20 (x2 + x3) (Int32.ofInt 0)), .ref 36])) rp_170 rfl rfl (by decide) (by decide) rp_144 rfl (Nat.le_of_ble_eq_true rfl) ⟨rfl, Nat.le_of_ble_eq_true rfl⟩ h (fun v s2 h => ?_)
    obtain ⟨r2, rfl, h⟩ := h
    refine cf_R_prim (pc := 101) (q := ([.ref 36, .int (tb_get s 20 (x2 + x3) (Int32.ofInt 0)), .long r2], [])) rp_170 rfl rfl (by decide) (by decide) rp_281 rfl (Nat.le_of_ble_eq_true rfl) ⟨rfl, Nat.le_of_ble_eq_true rfl⟩ (cq_wset rfl) ?_
    refine cf_R_w rp_170 (rf_bk am_t170 52 2) 104 [(4, .int (tb_get s 20 (x2 + x3) (Int32.ofInt 0))), (0, .ref 25), (1, .int x1), (2, .int x2), (3, .int x3)] [] (wd_s s2 36 (tb_get s 20 (x2 + x3) (Int32.ofInt 0)) r2) (by repeat (first | exact trivial | refine ⟨rfl, ?_⟩)) (by decide +kernel) ?_
    exact cf_R_le (l := [(0, .ref 25), (1, .int x1), (2, .int x2), (3, .int (x3 + Int32.ofInt 1))]) rfl rfl (⟨rfl, rfl, rfl, rfl, trivial⟩) h
/-- LazyHouse$Machine.keepEnvironment ()V, from 21 on -/
def wc_Machine_keepEnvironment_21 (d : Nat) (y0 : Int32) (s : cf_S) (Q : cf_S → Prop) : Prop := cf_V (d + 9) 235 [(0, .ref 3), (1, .int (s.1 25 9))] s (fun s1 => cf_R (d + 10) 170 (49, [(0, .ref 25), (1, .int y0), (2, .int (tb_get s1 18 (s1.1 25 9) ((Int8.ofInt 11).toInt32))), (3, .int (Int32.ofInt 0))], [], s1) (cf_qV Q))
set_option maxRecDepth 20000 in
theorem wc_Machine_keepEnvironment_21_ok {d : Nat} {y0 : Int32} {s : cf_S} {Q : cf_S → Prop} (h : wc_Machine_keepEnvironment_21 d y0 s Q) : cf_R (d + 10) 170 (21, [(0, .ref 25)], [.int y0], s) (cf_qV Q) := by
  unfold wc_Machine_keepEnvironment_21 at h
  refine cf_R_w rp_170 (rf_bk am_t170 10 5) 21 [(0, .ref 25)] [.int y0] s (by repeat (first | exact trivial | refine ⟨rfl, ?_⟩)) (by decide +kernel) ?_
  refine cf_R_call (pc := 30) (q := ([.ref 3, .int (s.1 25 9)], [])) rp_170 rfl rfl (by decide) (by decide) rp_235 rfl (Nat.le_of_ble_eq_true rfl) ⟨rfl, Nat.le_of_ble_eq_true rfl⟩ h (fun v s1 h => ?_)
  obtain ⟨rfl, h⟩ := h
  refine cf_R_w rp_170 (rf_bk am_t170 16 5) 33 [(1, .int y0), (0, .ref 25)] [] s1 (by repeat (first | exact trivial | refine ⟨rfl, ?_⟩)) (by decide +kernel) ?_
  refine cf_R_prim (pc := 43) (q := ([.ref 18, .int (s1.1 25 9), .int ((Int8.ofInt 11).toInt32)], [])) rp_170 rfl rfl (by decide) (by decide) rp_273 rfl (Nat.le_of_ble_eq_true rfl) ⟨rfl, Nat.le_of_ble_eq_true rfl⟩ (cq_get rfl) ?_
  refine cf_R_w rp_170 (rf_bk am_t170 22 3) 46 [(1, .int y0), (0, .ref 25)] [.int (tb_get s1 18 (s1.1 25 9) ((Int8.ofInt 11).toInt32))] s1 (by repeat (first | exact trivial | refine ⟨rfl, ?_⟩)) (by decide +kernel) ?_
  exact cf_R_le (l := [(0, .ref 25), (1, .int y0), (2, .int (tb_get s1 18 (s1.1 25 9) ((Int8.ofInt 11).toInt32))), (3, .int (Int32.ofInt 0))]) rfl rfl (⟨rfl, rfl, rfl, rfl, trivial⟩) h
/-- LazyHouse$Machine.keepEnvironment ()V, from 0 on -/
def wc_Machine_keepEnvironment (d : Nat) (s : cf_S) (Q : cf_S → Prop) : Prop := (((tb_get s 18 (s.1 25 9) ((Int8.ofInt 11).toInt32)) = 0 → wc_Machine_keepEnvironment_21 d (Int32.ofInt 0) s Q) ∧ (¬ ((tb_get s 18 (s.1 25 9) ((Int8.ofInt 11).toInt32)) = 0) → wc_Machine_keepEnvironment_21 d (Int32.ofInt 1) s Q))
set_option maxRecDepth 20000 in
theorem wc_Machine_keepEnvironment_ok {d : Nat} {s : cf_S} {Q : cf_S → Prop} (h : wc_Machine_keepEnvironment d s Q) : cf_V (d + 10) 170 [(0, .ref 25)] s Q := by
  unfold wc_Machine_keepEnvironment at h
  unfold cf_V
  refine cf_R_w rp_170 (rf_bk am_t170 0 5) 0 [(0, .ref 25)] [] s (by repeat (first | exact trivial | refine ⟨rfl, ?_⟩)) (by decide +kernel) ?_
  refine cf_R_prim (pc := 10) (q := ([.ref 18, .int (s.1 25 9), .int ((Int8.ofInt 11).toInt32)], [])) rp_170 rfl rfl (by decide) (by decide) rp_273 rfl (Nat.le_of_ble_eq_true rfl) ⟨rfl, Nat.le_of_ble_eq_true rfl⟩ (cq_get rfl) ?_
  refine cf_R_w rp_170 (rf_bk am_t170 6 1) 13 [(0, .ref 25)] [.int (tb_get s 18 (s.1 25 9) ((Int8.ofInt 11).toInt32))] s (by repeat (first | exact trivial | refine ⟨rfl, ?_⟩)) (by decide +kernel) ?_
  refine cf_R_if (b := am_cnd .eq (tb_get s 18 (s.1 25 9) ((Int8.ofInt 11).toInt32)) 0) (p := 20) (q := 16) (fun hb => ?_) (fun hb => ?_)
  · replace h := h.1 (of_decide_eq_true hb)
    refine cf_R_w rp_170 (rf_bk am_t170 9 1) 20 [(0, .ref 25)] [] s (by repeat (first | exact trivial | refine ⟨rfl, ?_⟩)) (by decide +kernel) ?_
    exact cf_R_le (l := [(0, .ref 25)]) rfl rfl (⟨rfl, trivial⟩) (wc_Machine_keepEnvironment_21_ok h)
  · replace h := h.2 (of_decide_eq_false hb)
    refine cf_R_w rp_170 (rf_bk am_t170 7 2) 16 [(0, .ref 25)] [] s (by repeat (first | exact trivial | refine ⟨rfl, ?_⟩)) (by decide +kernel) ?_
    exact cf_R_le (l := [(0, .ref 25)]) rfl rfl (⟨rfl, trivial⟩) (wc_Machine_keepEnvironment_21_ok h)
/-- LazyHouse$Machine.evaluate ()V, from 166 on -/
def wc_Machine_evaluate_166 (d : Nat) (s : cf_S) (Q : cf_S → Prop) : Prop := cf_V (d + 9) 176 [(0, .ref 25), (1, .int (Int32.ofInt 3)), (2, .int (s.1 25 9)), (3, .int (tb_get s 18 (s.1 25 9) (Int32.ofInt 3)))] s (fun s1 => Q s1)
set_option maxRecDepth 20000 in
theorem wc_Machine_evaluate_166_ok {d : Nat} {s : cf_S} {Q : cf_S → Prop} (h : wc_Machine_evaluate_166 d s Q) : cf_R (d + 10) 171 (166, [(0, .ref 25)], [], s) (cf_qV Q) := by
  unfold wc_Machine_evaluate_166 at h
  refine cf_R_w rp_171 (rf_bk am_t171 53 9) 166 [(0, .ref 25)] [] s (by repeat (first | exact trivial | refine ⟨rfl, ?_⟩)) (by decide +kernel) ?_
  refine cf_R_prim (pc := 181) (q := ([.ref 18, .int (s.1 25 9), .int (Int32.ofInt 3)], [.int (s.1 25 9), .int (Int32.ofInt 3), .ref 25])) rp_171 rfl rfl (by decide) (by decide) rp_273 rfl (Nat.le_of_ble_eq_true rfl) ⟨rfl, Nat.le_of_ble_eq_true rfl⟩ (cq_get rfl) ?_
  refine cf_R_call (pc := 184) (q := ([.ref 25, .int (Int32.ofInt 3), .int (s.1 25 9), .int (tb_get s 18 (s.1 25 9) (Int32.ofInt 3))], [])) rp_171 rfl rfl (by decide) (by decide) rp_176 rfl (Nat.le_of_ble_eq_true rfl) ⟨rfl, Nat.le_of_ble_eq_true rfl⟩ h (fun v s1 h => ?_)
  obtain ⟨rfl, h⟩ := h
  exact cf_R_ret (pc := 187) rp_171 rfl rfl rfl ⟨rfl, h⟩
/-- LazyHouse$Machine.evaluate ()V, from 83 on -/
def wc_Machine_evaluate_83 (d : Nat) (s : cf_S) (Q : cf_S → Prop) : Prop := cf_J (d + 9) 172 [(0, .ref 25), (1, .int (s.1 25 9))] s (fun r1 s1 => cf_V (d + 9) 163 [(0, .ref 25), (1, .long r1)] s1 (fun s2 => Q s2))
set_option maxRecDepth 20000 in
theorem wc_Machine_evaluate_83_ok {d : Nat} {s : cf_S} {Q : cf_S → Prop} (h : wc_Machine_evaluate_83 d s Q) : cf_R (d + 10) 171 (83, [(0, .ref 25)], [], s) (cf_qV Q) := by
  unfold wc_Machine_evaluate_83 at h
  refine cf_R_w rp_171 (rf_bk am_t171 14 4) 83 [(0, .ref 25)] [] s (by repeat (first | exact trivial | refine ⟨rfl, ?_⟩)) (by decide +kernel) ?_
  refine cf_R_call (pc := 89) (q := ([.ref 25, .int (s.1 25 9)], [.ref 25])) rp_171 rfl rfl (by decide) (by decide) rp_172 rfl (Nat.le_of_ble_eq_true rfl) ⟨rfl, Nat.le_of_ble_eq_true rfl⟩ h (fun v s1 h => ?_)
  obtain ⟨r1, rfl, h⟩ := h
  refine cf_R_call (pc := 92) (q := ([.ref 25, .long r1], [])) rp_171 rfl rfl (by decide) (by decide) rp_163 rfl (Nat.le_of_ble_eq_true rfl) ⟨rfl, Nat.le_of_ble_eq_true rfl⟩ h (fun v s2 h => ?_)
  obtain ⟨rfl, h⟩ := h
  refine cf_R_w rp_171 (rf_bk am_t171 20 1) 95 [(0, .ref 25)] [] s2 (by repeat (first | exact trivial | refine ⟨rfl, ?_⟩)) (by decide +kernel) ?_
  exact cf_R_ret (pc := 187) rp_171 rfl rfl rfl ⟨rfl, h⟩
/-- LazyHouse$Machine.evaluate ()V, from 68 on -/
def wc_Machine_evaluate_68 (d : Nat) (s : cf_S) (Q : cf_S → Prop) : Prop := cf_J (d + 9) 172 [(0, .ref 25), (1, .int (s.1 25 9))] s (fun r1 s1 => cf_V (d + 9) 162 [(0, .ref 25), (1, .long r1)] s1 (fun s2 => Q s2))
set_option maxRecDepth 20000 in
theorem wc_Machine_evaluate_68_ok {d : Nat} {s : cf_S} {Q : cf_S → Prop} (h : wc_Machine_evaluate_68 d s Q) : cf_R (d + 10) 171 (68, [(0, .ref 25)], [], s) (cf_qV Q) := by
  unfold wc_Machine_evaluate_68 at h
  refine cf_R_w rp_171 (rf_bk am_t171 7 4) 68 [(0, .ref 25)] [] s (by repeat (first | exact trivial | refine ⟨rfl, ?_⟩)) (by decide +kernel) ?_
  refine cf_R_call (pc := 74) (q := ([.ref 25, .int (s.1 25 9)], [.ref 25])) rp_171 rfl rfl (by decide) (by decide) rp_172 rfl (Nat.le_of_ble_eq_true rfl) ⟨rfl, Nat.le_of_ble_eq_true rfl⟩ h (fun v s1 h => ?_)
  obtain ⟨r1, rfl, h⟩ := h
  refine cf_R_call (pc := 77) (q := ([.ref 25, .long r1], [])) rp_171 rfl rfl (by decide) (by decide) rp_162 rfl (Nat.le_of_ble_eq_true rfl) ⟨rfl, Nat.le_of_ble_eq_true rfl⟩ h (fun v s2 h => ?_)
  obtain ⟨rfl, h⟩ := h
  refine cf_R_w rp_171 (rf_bk am_t171 13 1) 80 [(0, .ref 25)] [] s2 (by repeat (first | exact trivial | refine ⟨rfl, ?_⟩)) (by decide +kernel) ?_
  exact cf_R_ret (pc := 187) rp_171 rfl rfl rfl ⟨rfl, h⟩
/-- LazyHouse$Machine.evaluate ()V, from 0 on -/
def wc_Machine_evaluate (d : Nat) (s : cf_S) (Q : cf_S → Prop) : Prop := (((tb_get s 18 (s.1 25 9) (Int32.ofInt 0)) = 2 → wc_Machine_evaluate_68 d s Q) ∧ (¬ ((tb_get s 18 (s.1 25 9) (Int32.ofInt 0)) = 2) → (((tb_get s 18 (s.1 25 9) (Int32.ofInt 0)) = 3 → wc_Machine_evaluate_68 d s Q) ∧ (¬ ((tb_get s 18 (s.1 25 9) (Int32.ofInt 0)) = 3) → (((tb_get s 18 (s.1 25 9) (Int32.ofInt 0)) = 4 → wc_Machine_evaluate_83 d s Q) ∧ (¬ ((tb_get s 18 (s.1 25 9) (Int32.ofInt 0)) = 4) → (((tb_get s 18 (s.1 25 9) (Int32.ofInt 0)) = 5 → wc_Machine_evaluate_83 d s Q) ∧ (¬ ((tb_get s 18 (s.1 25 9) (Int32.ofInt 0)) = 5) → (((tb_get s 18 (s.1 25 9) (Int32.ofInt 0)) = 6 → cf_V (d + 9) 173 [(0, .ref 25)] s (fun s1 => Q s1)) ∧ (¬ ((tb_get s 18 (s.1 25 9) (Int32.ofInt 0)) = 6) → (((tb_get s 18 (s.1 25 9) (Int32.ofInt 0)) = 7 → cf_J (d + 9) 177 [(0, .ref 25), (1, .int (s.1 25 9))] s (fun r2 s2 => cf_V (d + 9) 163 [(0, .ref 25), (1, .long r2)] s2 (fun s3 => Q s3))) ∧ (¬ ((tb_get s 18 (s.1 25 9) (Int32.ofInt 0)) = 7) → (((tb_get s 18 (s.1 25 9) (Int32.ofInt 0)) = 8 → cf_V (d + 9) 174 [(0, .ref 25)] s (fun s4 => Q s4)) ∧ (¬ ((tb_get s 18 (s.1 25 9) (Int32.ofInt 0)) = 8) → (((tb_get s 18 (s.1 25 9) (Int32.ofInt 0)) = 9 → cf_V (d + 9) 175 [(0, .ref 25)] s (fun s5 => Q s5)) ∧ (¬ ((tb_get s 18 (s.1 25 9) (Int32.ofInt 0)) = 9) → (((tb_get s 18 (s.1 25 9) (Int32.ofInt 0)) = 10 → wc_Machine_evaluate_166 d s Q) ∧ (¬ ((tb_get s 18 (s.1 25 9) (Int32.ofInt 0)) = 10) → (((tb_get s 18 (s.1 25 9) (Int32.ofInt 0)) = 11 → cf_V (d + 9) 176 [(0, .ref 25), (1, .int (Int32.ofInt 2)), (2, .int (tb_get s 18 (s.1 25 9) (Int32.ofInt 3))), (3, .int (tb_get s 18 (s.1 25 9) (Int32.ofInt 3)))] s (fun s6 => Q s6)) ∧ (¬ ((tb_get s 18 (s.1 25 9) (Int32.ofInt 0)) = 11) → wc_Machine_evaluate_166 d s Q))))))))))))))))))))
set_option maxRecDepth 20000 in
theorem wc_Machine_evaluate_ok {d : Nat} {s : cf_S} {Q : cf_S → Prop} (h : wc_Machine_evaluate d s Q) : cf_V (d + 10) 171 [(0, .ref 25)] s Q := by
  unfold wc_Machine_evaluate at h
  unfold cf_V
  refine cf_R_w rp_171 (rf_bk am_t171 0 5) 0 [(0, .ref 25)] [] s (by repeat (first | exact trivial | refine ⟨rfl, ?_⟩)) (by decide +kernel) ?_
  refine cf_R_prim (pc := 9) (q := ([.ref 18, .int (s.1 25 9), .int (Int32.ofInt 0)], [])) rp_171 rfl rfl (by decide) (by decide) rp_273 rfl (Nat.le_of_ble_eq_true rfl) ⟨rfl, Nat.le_of_ble_eq_true rfl⟩ (cq_get rfl) ?_
  refine cf_R_w rp_171 (rf_bk am_t171 6 1) 12 [(0, .ref 25)] [.int (tb_get s 18 (s.1 25 9) (Int32.ofInt 0))] s (by repeat (first | exact trivial | refine ⟨rfl, ?_⟩)) (by decide +kernel) ?_
  refine cf_R_sw (fun hb => ?_) (fun hb => ?_)
  · replace h := h.1 hb
    exact cf_R_le (l := [(0, .ref 25)]) rfl rfl (⟨rfl, trivial⟩) (wc_Machine_evaluate_68_ok h)
  replace h := h.2 hb
  refine cf_R_sw (fun hb => ?_) (fun hb => ?_)
  · replace h := h.1 hb
    exact cf_R_le (l := [(0, .ref 25)]) rfl rfl (⟨rfl, trivial⟩) (wc_Machine_evaluate_68_ok h)
  replace h := h.2 hb
  refine cf_R_sw (fun hb => ?_) (fun hb => ?_)
  · replace h := h.1 hb
    exact cf_R_le (l := [(0, .ref 25)]) rfl rfl (⟨rfl, trivial⟩) (wc_Machine_evaluate_83_ok h)
  replace h := h.2 hb
  refine cf_R_sw (fun hb => ?_) (fun hb => ?_)
  · replace h := h.1 hb
    exact cf_R_le (l := [(0, .ref 25)]) rfl rfl (⟨rfl, trivial⟩) (wc_Machine_evaluate_83_ok h)
  replace h := h.2 hb
  refine cf_R_sw (fun hb => ?_) (fun hb => ?_)
  · replace h := h.1 hb
    refine cf_R_w rp_171 (rf_bk am_t171 28 1) 113 [(0, .ref 25)] [] s (by repeat (first | exact trivial | refine ⟨rfl, ?_⟩)) (by decide +kernel) ?_
    refine cf_R_call (pc := 114) (q := ([.ref 25], [])) rp_171 rfl rfl (by decide) (by decide) rp_173 rfl (Nat.le_of_ble_eq_true rfl) ⟨rfl, Nat.le_of_ble_eq_true rfl⟩ h (fun v s1 h => ?_)
    obtain ⟨rfl, h⟩ := h
    refine cf_R_w rp_171 (rf_bk am_t171 30 1) 117 [(0, .ref 25)] [] s1 (by repeat (first | exact trivial | refine ⟨rfl, ?_⟩)) (by decide +kernel) ?_
    exact cf_R_ret (pc := 187) rp_171 rfl rfl rfl ⟨rfl, h⟩
  replace h := h.2 hb
  refine cf_R_sw (fun hb => ?_) (fun hb => ?_)
  · replace h := h.1 hb
    refine cf_R_w rp_171 (rf_bk am_t171 21 4) 98 [(0, .ref 25)] [] s (by repeat (first | exact trivial | refine ⟨rfl, ?_⟩)) (by decide +kernel) ?_
    refine cf_R_call (pc := 104) (q := ([.ref 25, .int (s.1 25 9)], [.ref 25])) rp_171 rfl rfl (by decide) (by decide) rp_177 rfl (Nat.le_of_ble_eq_true rfl) ⟨rfl, Nat.le_of_ble_eq_true rfl⟩ h (fun v s2 h => ?_)
    obtain ⟨r2, rfl, h⟩ := h
    refine cf_R_call (pc := 107) (q := ([.ref 25, .long r2], [])) rp_171 rfl rfl (by decide) (by decide) rp_163 rfl (Nat.le_of_ble_eq_true rfl) ⟨rfl, Nat.le_of_ble_eq_true rfl⟩ h (fun v s3 h => ?_)
    obtain ⟨rfl, h⟩ := h
    refine cf_R_w rp_171 (rf_bk am_t171 27 1) 110 [(0, .ref 25)] [] s3 (by repeat (first | exact trivial | refine ⟨rfl, ?_⟩)) (by decide +kernel) ?_
    exact cf_R_ret (pc := 187) rp_171 rfl rfl rfl ⟨rfl, h⟩
  replace h := h.2 hb
  refine cf_R_sw (fun hb => ?_) (fun hb => ?_)
  · replace h := h.1 hb
    refine cf_R_w rp_171 (rf_bk am_t171 31 1) 120 [(0, .ref 25)] [] s (by repeat (first | exact trivial | refine ⟨rfl, ?_⟩)) (by decide +kernel) ?_
    refine cf_R_call (pc := 121) (q := ([.ref 25], [])) rp_171 rfl rfl (by decide) (by decide) rp_174 rfl (Nat.le_of_ble_eq_true rfl) ⟨rfl, Nat.le_of_ble_eq_true rfl⟩ h (fun v s4 h => ?_)
    obtain ⟨rfl, h⟩ := h
    refine cf_R_w rp_171 (rf_bk am_t171 33 1) 124 [(0, .ref 25)] [] s4 (by repeat (first | exact trivial | refine ⟨rfl, ?_⟩)) (by decide +kernel) ?_
    exact cf_R_ret (pc := 187) rp_171 rfl rfl rfl ⟨rfl, h⟩
  replace h := h.2 hb
  refine cf_R_sw (fun hb => ?_) (fun hb => ?_)
  · replace h := h.1 hb
    refine cf_R_w rp_171 (rf_bk am_t171 34 1) 127 [(0, .ref 25)] [] s (by repeat (first | exact trivial | refine ⟨rfl, ?_⟩)) (by decide +kernel) ?_
    refine cf_R_call (pc := 128) (q := ([.ref 25], [])) rp_171 rfl rfl (by decide) (by decide) rp_175 rfl (Nat.le_of_ble_eq_true rfl) ⟨rfl, Nat.le_of_ble_eq_true rfl⟩ h (fun v s5 h => ?_)
    obtain ⟨rfl, h⟩ := h
    refine cf_R_w rp_171 (rf_bk am_t171 36 1) 131 [(0, .ref 25)] [] s5 (by repeat (first | exact trivial | refine ⟨rfl, ?_⟩)) (by decide +kernel) ?_
    exact cf_R_ret (pc := 187) rp_171 rfl rfl rfl ⟨rfl, h⟩
  replace h := h.2 hb
  refine cf_R_sw (fun hb => ?_) (fun hb => ?_)
  · replace h := h.1 hb
    exact cf_R_le (l := [(0, .ref 25)]) rfl rfl (⟨rfl, trivial⟩) (wc_Machine_evaluate_166_ok h)
  replace h := h.2 hb
  refine cf_R_sw (fun hb => ?_) (fun hb => ?_)
  · replace h := h.1 hb
    refine cf_R_w rp_171 (rf_bk am_t171 37 7) 134 [(0, .ref 25)] [] s (by repeat (first | exact trivial | refine ⟨rfl, ?_⟩)) (by decide +kernel) ?_
    refine cf_R_prim (pc := 145) (q := ([.ref 18, .int (s.1 25 9), .int (Int32.ofInt 3)], [.int (Int32.ofInt 2), .ref 25])) rp_171 rfl rfl (by decide) (by decide) rp_273 rfl (Nat.le_of_ble_eq_true rfl) ⟨rfl, Nat.le_of_ble_eq_true rfl⟩ (cq_get rfl) ?_
    refine cf_R_w rp_171 (rf_bk am_t171 45 5) 148 [(0, .ref 25)] [.int (tb_get s 18 (s.1 25 9) (Int32.ofInt 3)), .int (Int32.ofInt 2), .ref 25] s (by repeat (first | exact trivial | refine ⟨rfl, ?_⟩)) (by decide +kernel) ?_
    refine cf_R_prim (pc := 157) (q := ([.ref 18, .int (s.1 25 9), .int (Int32.ofInt 3)], [.int (tb_get s 18 (s.1 25 9) (Int32.ofInt 3)), .int (Int32.ofInt 2), .ref 25])) rp_171 rfl rfl (by decide) (by decide) rp_273 rfl (Nat.le_of_ble_eq_true rfl) ⟨rfl, Nat.le_of_ble_eq_true rfl⟩ (cq_get rfl) ?_
    refine cf_R_call (pc := 160) (q := ([.ref 25, .int (Int32.ofInt 2), .int (tb_get s 18 (s.1 25 9) (Int32.ofInt 3)), .int (tb_get s 18 (s.1 25 9) (Int32.ofInt 3))], [])) rp_171 rfl rfl (by decide) (by decide) rp_176 rfl (Nat.le_of_ble_eq_true rfl) ⟨rfl, Nat.le_of_ble_eq_true rfl⟩ h (fun v s6 h => ?_)
    obtain ⟨rfl, h⟩ := h
    refine cf_R_w rp_171 (rf_bk am_t171 52 1) 163 [(0, .ref 25)] [] s6 (by repeat (first | exact trivial | refine ⟨rfl, ?_⟩)) (by decide +kernel) ?_
    exact cf_R_ret (pc := 187) rp_171 rfl rfl rfl ⟨rfl, h⟩
  replace h := h.2 hb
  show cf_R (d + 10) 171 (166, _, _, _) _
  exact cf_R_le (l := [(0, .ref 25)]) rfl rfl (⟨rfl, trivial⟩) (wc_Machine_evaluate_166_ok h)
/-- LazyHouse$Machine.simpleWord (I)J, from 69 on -/
def wc_Machine_simpleWord_69 (d : Nat) (x2 : Int32) (s : cf_S) (Q : Int64 → cf_S → Prop) : Prop := Q (rf_word (Int32.ofInt 0) x2) s
set_option maxRecDepth 20000 in
theorem wc_Machine_simpleWord_69_ok {d : Nat} {x2 : Int32} {s : cf_S} {Q : Int64 → cf_S → Prop} (h : wc_Machine_simpleWord_69 d x2 s Q) : cf_R (d + 10) 172 (69, [(2, .int x2)], [], s) (cf_qJ Q) := by
  unfold wc_Machine_simpleWord_69 at h
  refine cf_R_w rp_172 (rf_bk am_t172 25 2) 69 [(2, .int x2)] [] s (by repeat (first | exact trivial | refine ⟨rfl, ?_⟩)) (by decide +kernel) ?_
  refine cf_R_prim (pc := 71) (q := ([.int (Int32.ofInt 0), .int x2], [])) rp_172 rfl rfl (by decide) (by decide) rp_275 rfl (Nat.le_of_ble_eq_true rfl) ⟨rfl, Nat.le_of_ble_eq_true rfl⟩ (cq_of) ?_
  exact cf_R_ret (pc := 74) (v := some (.long (rf_word (Int32.ofInt 0) x2))) rp_172 rfl rfl rfl ⟨_, rfl, h⟩
/-- LazyHouse$Machine.simpleWord (I)J, from 0 on -/
def wc_Machine_simpleWord (d : Nat) (x1 : Int32) (s : cf_S) (Q : Int64 → cf_S → Prop) : Prop := (((tb_get s 18 x1 (Int32.ofInt 0)) = 2 → Q (wd_g s 36 (tb_get s 18 x1 (Int32.ofInt 1))) s) ∧ (¬ ((tb_get s 18 x1 (Int32.ofInt 0)) = 2) → (((tb_get s 18 x1 (Int32.ofInt 0)) = 3 → Q (rf_word (Int32.ofInt 2) (tb_get s 18 x1 (Int32.ofInt 1))) s) ∧ (¬ ((tb_get s 18 x1 (Int32.ofInt 0)) = 3) → (((tb_get s 18 x1 (Int32.ofInt 0)) = 4 → wc_Machine_simpleWord_69 d (tb_get s 18 x1 (Int32.ofInt 1)) s Q) ∧ (¬ ((tb_get s 18 x1 (Int32.ofInt 0)) = 4) → (((tb_get s 18 x1 (Int32.ofInt 0)) = 5 → Q (rf_word (Int32.ofInt 1) (tb_get s 18 x1 (Int32.ofInt 1))) s) ∧ (¬ ((tb_get s 18 x1 (Int32.ofInt 0)) = 5) → wc_Machine_simpleWord_69 d (tb_get s 18 x1 (Int32.ofInt 1)) s Q))))))))
set_option maxRecDepth 20000 in
theorem wc_Machine_simpleWord_ok {d : Nat} {x1 : Int32} {s : cf_S} {Q : Int64 → cf_S → Prop} (h : wc_Machine_simpleWord d x1 s Q) : cf_J (d + 10) 172 [(0, .ref 25), (1, .int x1)] s Q := by
  unfold wc_Machine_simpleWord at h
  unfold cf_J
  refine cf_R_w rp_172 (rf_bk am_t172 0 4) 0 [(0, .ref 25), (1, .int x1)] [] s (by repeat (first | exact trivial | refine ⟨rfl, ?_⟩)) (by decide +kernel) ?_
  refine cf_R_prim (pc := 6) (q := ([.ref 18, .int x1, .int (Int32.ofInt 1)], [])) rp_172 rfl rfl (by decide) (by decide) rp_273 rfl (Nat.le_of_ble_eq_true rfl) ⟨rfl, Nat.le_of_ble_eq_true rfl⟩ (cq_get rfl) ?_
  refine cf_R_w rp_172 (rf_bk am_t172 5 5) 9 [(0, .ref 25), (1, .int x1)] [.int (tb_get s 18 x1 (Int32.ofInt 1))] s (by repeat (first | exact trivial | refine ⟨rfl, ?_⟩)) (by decide +kernel) ?_
  refine cf_R_prim (pc := 16) (q := ([.ref 18, .int x1, .int (Int32.ofInt 0)], [])) rp_172 rfl rfl (by decide) (by decide) rp_273 rfl (Nat.le_of_ble_eq_true rfl) ⟨rfl, Nat.le_of_ble_eq_true rfl⟩ (cq_get rfl) ?_
  refine cf_R_w rp_172 (rf_bk am_t172 11 1) 19 [(2, .int (tb_get s 18 x1 (Int32.ofInt 1))), (0, .ref 25), (1, .int x1)] [.int (tb_get s 18 x1 (Int32.ofInt 0))] s (by repeat (first | exact trivial | refine ⟨rfl, ?_⟩)) (by decide +kernel) ?_
  refine cf_R_sw (fun hb => ?_) (fun hb => ?_)
  · replace h := h.1 hb
    refine cf_R_w rp_172 (rf_bk am_t172 12 3) 48 [(2, .int (tb_get s 18 x1 (Int32.ofInt 1))), (0, .ref 25), (1, .int x1)] [] s (by repeat (first | exact trivial | refine ⟨rfl, ?_⟩)) (by decide +kernel) ?_
    refine cf_R_prim (pc := 53) (q := ([.ref 36, .int (tb_get s 18 x1 (Int32.ofInt 1))], [])) rp_172 rfl rfl (by decide) (by decide) rp_280 rfl (Nat.le_of_ble_eq_true rfl) ⟨rfl, Nat.le_of_ble_eq_true rfl⟩ (cq_wget rfl) ?_
    exact cf_R_ret (pc := 56) (v := some (.long (wd_g s 36 (tb_get s 18 x1 (Int32.ofInt 1))))) rp_172 rfl rfl rfl ⟨_, rfl, h⟩
  replace h := h.2 hb
  refine cf_R_sw (fun hb => ?_) (fun hb => ?_)
  · replace h := h.1 hb
    refine cf_R_w rp_172 (rf_bk am_t172 17 2) 57 [(2, .int (tb_get s 18 x1 (Int32.ofInt 1))), (0, .ref 25), (1, .int x1)] [] s (by repeat (first | exact trivial | refine ⟨rfl, ?_⟩)) (by decide +kernel) ?_
    refine cf_R_prim (pc := 59) (q := ([.int (Int32.ofInt 2), .int (tb_get s 18 x1 (Int32.ofInt 1))], [])) rp_172 rfl rfl (by decide) (by decide) rp_275 rfl (Nat.le_of_ble_eq_true rfl) ⟨rfl, Nat.le_of_ble_eq_true rfl⟩ (cq_of) ?_
    exact cf_R_ret (pc := 62) (v := some (.long (rf_word (Int32.ofInt 2) (tb_get s 18 x1 (Int32.ofInt 1))))) rp_172 rfl rfl rfl ⟨_, rfl, h⟩
  replace h := h.2 hb
  refine cf_R_sw (fun hb => ?_) (fun hb => ?_)
  · replace h := h.1 hb
    exact cf_R_le (l := [(2, .int (tb_get s 18 x1 (Int32.ofInt 1)))]) rfl rfl (⟨rfl, trivial⟩) (wc_Machine_simpleWord_69_ok h)
  replace h := h.2 hb
  refine cf_R_sw (fun hb => ?_) (fun hb => ?_)
  · replace h := h.1 hb
    refine cf_R_w rp_172 (rf_bk am_t172 21 2) 63 [(2, .int (tb_get s 18 x1 (Int32.ofInt 1))), (0, .ref 25), (1, .int x1)] [] s (by repeat (first | exact trivial | refine ⟨rfl, ?_⟩)) (by decide +kernel) ?_
    refine cf_R_prim (pc := 65) (q := ([.int (Int32.ofInt 1), .int (tb_get s 18 x1 (Int32.ofInt 1))], [])) rp_172 rfl rfl (by decide) (by decide) rp_275 rfl (Nat.le_of_ble_eq_true rfl) ⟨rfl, Nat.le_of_ble_eq_true rfl⟩ (cq_of) ?_
    exact cf_R_ret (pc := 68) (v := some (.long (rf_word (Int32.ofInt 1) (tb_get s 18 x1 (Int32.ofInt 1))))) rp_172 rfl rfl rfl ⟨_, rfl, h⟩
  replace h := h.2 hb
  show cf_R (d + 10) 172 (69, _, _, _) _
  exact cf_R_le (l := [(2, .int (tb_get s 18 x1 (Int32.ofInt 1)))]) rfl rfl (⟨rfl, trivial⟩) (wc_Machine_simpleWord_69_ok h)
/-- LazyHouse$Machine.evaluateDatum ()V, from 51 on -/
def wc_Machine_evaluateDatum_51 (d : Nat) (x1 : Int32) (x2 : Int32) (x3 : Int32) (x4 : Int32) (s : cf_S) (Q : cf_S → Prop) : Prop := ((x1 ≤ x4 → cf_V (d + 9) 163 [(0, .ref 25), (1, .long (rf_word (Int32.ofInt 3) x2))] s (fun s1 => Q s1)) ∧ (¬ (x1 ≤ x4) → cf_J (d + 9) 177 [(0, .ref 25), (1, .int x3)] s (fun r2 s2 => cf_V (d + 9) 138 [(0, .ref 26), (1, .int x2), (2, .int x4), (3, .long r2)] s2 (fun s3 => cf_R (d + 10) 173 (51, [(0, .ref 25), (1, .int x1), (2, .int x2), (3, .int (tb_get s3 18 x3 ((Int8.ofInt 6).toInt32))), (4, .int (x4 + Int32.ofInt 1))], [], s3) (cf_qV Q)))))
set_option maxRecDepth 20000 in
theorem wc_Machine_evaluateDatum_51_ok {d : Nat} {x1 : Int32} {x2 : Int32} {x3 : Int32} {x4 : Int32} {s : cf_S} {Q : cf_S → Prop} (h : wc_Machine_evaluateDatum_51 d x1 x2 x3 x4 s Q) : cf_R (d + 10) 173 (51, [(0, .ref 25), (1, .int x1), (2, .int x2), (3, .int x3), (4, .int x4)], [], s) (cf_qV Q) := by
  unfold wc_Machine_evaluateDatum_51 at h
  refine cf_R_w rp_173 (rf_bk am_t173 28 3) 51 [(0, .ref 25), (1, .int x1), (2, .int x2), (3, .int x3), (4, .int x4)] [] s (by repeat (first | exact trivial | refine ⟨rfl, ?_⟩)) (by decide +kernel) ?_
  refine cf_R_if (b := am_cnd .ge x4 x1) (p := 89) (q := 57) (fun hb => ?_) (fun hb => ?_)
  · replace h := h.1 (of_decide_eq_true hb)
    refine cf_R_w rp_173 (rf_bk am_t173 47 3) 89 [(0, .ref 25), (1, .int x1), (2, .int x2), (3, .int x3), (4, .int x4)] [] s (by repeat (first | exact trivial | refine ⟨rfl, ?_⟩)) (by decide +kernel) ?_
    refine cf_R_prim (pc := 92) (q := ([.int (Int32.ofInt 3), .int x2], [.ref 25])) rp_173 rfl rfl (by decide) (by decide) rp_275 rfl (Nat.le_of_ble_eq_true rfl) ⟨rfl, Nat.le_of_ble_eq_true rfl⟩ (cq_of) ?_
    refine cf_R_call (pc := 95) (q := ([.ref 25, .long (rf_word (Int32.ofInt 3) x2)], [])) rp_173 rfl rfl (by decide) (by decide) rp_163 rfl (Nat.le_of_ble_eq_true rfl) ⟨rfl, Nat.le_of_ble_eq_true rfl⟩ h (fun v s1 h => ?_)
    obtain ⟨rfl, h⟩ := h
    exact cf_R_ret (pc := 98) rp_173 rfl rfl rfl ⟨rfl, h⟩
  · replace h := h.2 (of_decide_eq_false hb)
    refine cf_R_w rp_173 (rf_bk am_t173 31 6) 57 [(0, .ref 25), (1, .int x1), (2, .int x2), (3, .int x3), (4, .int x4)] [] s (by repeat (first | exact trivial | refine ⟨rfl, ?_⟩)) (by decide +kernel) ?_
    refine cf_R_call (pc := 66) (q := ([.ref 25, .int x3], [.int x4, .int x2, .ref 26])) rp_173 rfl rfl (by decide) (by decide) rp_177 rfl (Nat.le_of_ble_eq_true rfl) ⟨rfl, Nat.le_of_ble_eq_true rfl⟩ h (fun v s2 h => ?_)
    obtain ⟨r2, rfl, h⟩ := h
    refine cf_R_call (pc := 69) (q := ([.ref 26, .int x2, .int x4, .long r2], [])) rp_173 rfl rfl (by decide) (by decide) rp_138 rfl (Nat.le_of_ble_eq_true rfl) ⟨rfl, Nat.le_of_ble_eq_true rfl⟩ h (fun v s3 h => ?_)
    obtain ⟨rfl, h⟩ := h
    refine cf_R_w rp_173 (rf_bk am_t173 39 4) 72 [(0, .ref 25), (1, .int x1), (2, .int x2), (3, .int x3), (4, .int x4)] [] s3 (by repeat (first | exact trivial | refine ⟨rfl, ?_⟩)) (by decide +kernel) ?_
    refine cf_R_prim (pc := 79) (q := ([.ref 18, .int x3, .int ((Int8.ofInt 6).toInt32)], [])) rp_173 rfl rfl (by decide) (by decide) rp_273 rfl (Nat.le_of_ble_eq_true rfl) ⟨rfl, Nat.le_of_ble_eq_true rfl⟩ (cq_get rfl) ?_
    refine cf_R_w rp_173 (rf_bk am_t173 44 3) 82 [(0, .ref 25), (1, .int x1), (2, .int x2), (3, .int x3), (4, .int x4)] [.int (tb_get s3 18 x3 ((Int8.ofInt 6).toInt32))] s3 (by repeat (first | exact trivial | refine ⟨rfl, ?_⟩)) (by decide +kernel) ?_
    exact cf_R_le (l := [(0, .ref 25), (1, .int x1), (2, .int x2), (3, .int (tb_get s3 18 x3 ((Int8.ofInt 6).toInt32))), (4, .int (x4 + Int32.ofInt 1))]) rfl rfl (⟨rfl, rfl, rfl, rfl, rfl, trivial⟩) h
/-- LazyHouse$Machine.evaluateDatum ()V, from 0 on -/
def wc_Machine_evaluateDatum (d : Nat) (s : cf_S) (Q : cf_S → Prop) : Prop := cf_I (d + 9) 132 [(0, .ref 26), (1, .int (Int32.ofInt 5)), (2, .int (tb_get s 18 (s.1 25 9) (Int32.ofInt 1))), (3, .int (tb_get s 18 (s.1 25 9) (Int32.ofInt 4)))] s (fun r1 s1 => cf_R (d + 10) 173 (51, [(0, .ref 25), (1, .int (tb_get s 18 (s.1 25 9) (Int32.ofInt 4))), (2, .int r1), (3, .int (tb_get s1 18 (s1.1 25 9) (Int32.ofInt 3))), (4, .int (Int32.ofInt 0))], [], s1) (cf_qV Q))
set_option maxRecDepth 20000 in
theorem wc_Machine_evaluateDatum_ok {d : Nat} {s : cf_S} {Q : cf_S → Prop} (h : wc_Machine_evaluateDatum d s Q) : cf_V (d + 10) 173 [(0, .ref 25)] s Q := by
  unfold wc_Machine_evaluateDatum at h
  unfold cf_V
  refine cf_R_w rp_173 (rf_bk am_t173 0 5) 0 [(0, .ref 25)] [] s (by repeat (first | exact trivial | refine ⟨rfl, ?_⟩)) (by decide +kernel) ?_
  refine cf_R_prim (pc := 9) (q := ([.ref 18, .int (s.1 25 9), .int (Int32.ofInt 4)], [])) rp_173 rfl rfl (by decide) (by decide) rp_273 rfl (Nat.le_of_ble_eq_true rfl) ⟨rfl, Nat.le_of_ble_eq_true rfl⟩ (cq_get rfl) ?_
  refine cf_R_w rp_173 (rf_bk am_t173 6 9) 12 [(0, .ref 25)] [.int (tb_get s 18 (s.1 25 9) (Int32.ofInt 4))] s (by repeat (first | exact trivial | refine ⟨rfl, ?_⟩)) (by decide +kernel) ?_
  refine cf_R_prim (pc := 27) (q := ([.ref 18, .int (s.1 25 9), .int (Int32.ofInt 1)], [.int (Int32.ofInt 5), .ref 26])) rp_173 rfl rfl (by decide) (by decide) rp_273 rfl (Nat.le_of_ble_eq_true rfl) ⟨rfl, Nat.le_of_ble_eq_true rfl⟩ (cq_get rfl) ?_
  refine cf_R_w rp_173 (rf_bk am_t173 16 1) 30 [(1, .int (tb_get s 18 (s.1 25 9) (Int32.ofInt 4))), (0, .ref 25)] [.int (tb_get s 18 (s.1 25 9) (Int32.ofInt 1)), .int (Int32.ofInt 5), .ref 26] s (by repeat (first | exact trivial | refine ⟨rfl, ?_⟩)) (by decide +kernel) ?_
  refine cf_R_call (pc := 31) (q := ([.ref 26, .int (Int32.ofInt 5), .int (tb_get s 18 (s.1 25 9) (Int32.ofInt 1)), .int (tb_get s 18 (s.1 25 9) (Int32.ofInt 4))], [])) rp_173 rfl rfl (by decide) (by decide) rp_132 rfl (Nat.le_of_ble_eq_true rfl) ⟨rfl, Nat.le_of_ble_eq_true rfl⟩ h (fun v s1 h => ?_)
  obtain ⟨r1, rfl, h⟩ := h
  refine cf_R_w rp_173 (rf_bk am_t173 18 6) 34 [(1, .int (tb_get s 18 (s.1 25 9) (Int32.ofInt 4))), (0, .ref 25)] [.int r1] s1 (by repeat (first | exact trivial | refine ⟨rfl, ?_⟩)) (by decide +kernel) ?_
  refine cf_R_prim (pc := 44) (q := ([.ref 18, .int (s1.1 25 9), .int (Int32.ofInt 3)], [])) rp_173 rfl rfl (by decide) (by decide) rp_273 rfl (Nat.le_of_ble_eq_true rfl) ⟨rfl, Nat.le_of_ble_eq_true rfl⟩ (cq_get rfl) ?_
  refine cf_R_w rp_173 (rf_bk am_t173 25 3) 47 [(2, .int r1), (1, .int (tb_get s 18 (s.1 25 9) (Int32.ofInt 4))), (0, .ref 25)] [.int (tb_get s1 18 (s1.1 25 9) (Int32.ofInt 3))] s1 (by repeat (first | exact trivial | refine ⟨rfl, ?_⟩)) (by decide +kernel) ?_
  exact cf_R_le (l := [(0, .ref 25), (1, .int (tb_get s 18 (s.1 25 9) (Int32.ofInt 4))), (2, .int r1), (3, .int (tb_get s1 18 (s1.1 25 9) (Int32.ofInt 3))), (4, .int (Int32.ofInt 0))]) rfl rfl (⟨rfl, rfl, rfl, rfl, rfl, trivial⟩) h
/-- LazyHouse$Machine.evaluateCall ()V, from 38 on -/
def wc_Machine_evaluateCall_38 (d : Nat) (x1 : Int32) (x2 : Int32) (x3 : Int32) (s : cf_S) (Q : cf_S → Prop) : Prop := ((x1 ≤ x3 → cf_V (d + 9) 161 [(0, .ref 25), (1, .int (tb_get s 18 (s.1 25 9) (Int32.ofInt 2)))] s (fun s1 => Q s1)) ∧ (¬ (x1 ≤ x3) → cf_J (d + 9) 177 [(0, .ref 25), (1, .int x2)] s (fun r2 s2 => cf_V (d + 9) 265 [(0, .ref 31), (1, .int x3), (2, .long r2)] s2 (fun s3 => cf_R (d + 10) 174 (38, [(0, .ref 25), (1, .int x1), (2, .int (tb_get s3 18 x2 ((Int8.ofInt 6).toInt32))), (3, .int (x3 + Int32.ofInt 1))], [], s3) (cf_qV Q)))))
set_option maxRecDepth 20000 in
theorem wc_Machine_evaluateCall_38_ok {d : Nat} {x1 : Int32} {x2 : Int32} {x3 : Int32} {s : cf_S} {Q : cf_S → Prop} (h : wc_Machine_evaluateCall_38 d x1 x2 x3 s Q) : cf_R (d + 10) 174 (38, [(0, .ref 25), (1, .int x1), (2, .int x2), (3, .int x3)], [], s) (cf_qV Q) := by
  unfold wc_Machine_evaluateCall_38 at h
  refine cf_R_w rp_174 (rf_bk am_t174 22 3) 38 [(0, .ref 25), (1, .int x1), (2, .int x2), (3, .int x3)] [] s (by repeat (first | exact trivial | refine ⟨rfl, ?_⟩)) (by decide +kernel) ?_
  refine cf_R_if (b := am_cnd .ge x3 x1) (p := 73) (q := 43) (fun hb => ?_) (fun hb => ?_)
  · replace h := h.1 (of_decide_eq_true hb)
    refine cf_R_w rp_174 (rf_bk am_t174 40 6) 73 [(0, .ref 25), (1, .int x1), (2, .int x2), (3, .int x3)] [] s (by repeat (first | exact trivial | refine ⟨rfl, ?_⟩)) (by decide +kernel) ?_
    refine cf_R_prim (pc := 83) (q := ([.ref 18, .int (s.1 25 9), .int (Int32.ofInt 2)], [.ref 25])) rp_174 rfl rfl (by decide) (by decide) rp_273 rfl (Nat.le_of_ble_eq_true rfl) ⟨rfl, Nat.le_of_ble_eq_true rfl⟩ (cq_get rfl) ?_
    refine cf_R_call (pc := 86) (q := ([.ref 25, .int (tb_get s 18 (s.1 25 9) (Int32.ofInt 2))], [])) rp_174 rfl rfl (by decide) (by decide) rp_161 rfl (Nat.le_of_ble_eq_true rfl) ⟨rfl, Nat.le_of_ble_eq_true rfl⟩ h (fun v s1 h => ?_)
    obtain ⟨rfl, h⟩ := h
    exact cf_R_ret (pc := 89) rp_174 rfl rfl rfl ⟨rfl, h⟩
  · replace h := h.2 (of_decide_eq_false hb)
    refine cf_R_w rp_174 (rf_bk am_t174 25 5) 43 [(0, .ref 25), (1, .int x1), (2, .int x2), (3, .int x3)] [] s (by repeat (first | exact trivial | refine ⟨rfl, ?_⟩)) (by decide +kernel) ?_
    refine cf_R_call (pc := 50) (q := ([.ref 25, .int x2], [.int x3, .ref 31])) rp_174 rfl rfl (by decide) (by decide) rp_177 rfl (Nat.le_of_ble_eq_true rfl) ⟨rfl, Nat.le_of_ble_eq_true rfl⟩ h (fun v s2 h => ?_)
    obtain ⟨r2, rfl, h⟩ := h
    refine cf_R_call (pc := 53) (q := ([.ref 31, .int x3, .long r2], [])) rp_174 rfl rfl (by decide) (by decide) rp_265 rfl (Nat.le_of_ble_eq_true rfl) ⟨rfl, Nat.le_of_ble_eq_true rfl⟩ h (fun v s3 h => ?_)
    obtain ⟨rfl, h⟩ := h
    refine cf_R_w rp_174 (rf_bk am_t174 32 4) 56 [(0, .ref 25), (1, .int x1), (2, .int x2), (3, .int x3)] [] s3 (by repeat (first | exact trivial | refine ⟨rfl, ?_⟩)) (by decide +kernel) ?_
    refine cf_R_prim (pc := 63) (q := ([.ref 18, .int x2, .int ((Int8.ofInt 6).toInt32)], [])) rp_174 rfl rfl (by decide) (by decide) rp_273 rfl (Nat.le_of_ble_eq_true rfl) ⟨rfl, Nat.le_of_ble_eq_true rfl⟩ (cq_get rfl) ?_
    refine cf_R_w rp_174 (rf_bk am_t174 37 3) 66 [(0, .ref 25), (1, .int x1), (2, .int x2), (3, .int x3)] [.int (tb_get s3 18 x2 ((Int8.ofInt 6).toInt32))] s3 (by repeat (first | exact trivial | refine ⟨rfl, ?_⟩)) (by decide +kernel) ?_
    exact cf_R_le (l := [(0, .ref 25), (1, .int x1), (2, .int (tb_get s3 18 x2 ((Int8.ofInt 6).toInt32))), (3, .int (x3 + Int32.ofInt 1))]) rfl rfl (⟨rfl, rfl, rfl, rfl, trivial⟩) h
/-- LazyHouse$Machine.evaluateCall ()V, from 0 on -/
def wc_Machine_evaluateCall (d : Nat) (s : cf_S) (Q : cf_S → Prop) : Prop := cf_V (d + 9) 260 [(0, .ref 31), (1, .int (Int32.ofInt 5)), (2, .int (Int32.ofInt 0)), (3, .int (tb_get s 18 (s.1 25 9) (Int32.ofInt 4)))] s (fun s1 => cf_R (d + 10) 174 (38, [(0, .ref 25), (1, .int (tb_get s 18 (s.1 25 9) (Int32.ofInt 4))), (2, .int (tb_get s1 18 (s1.1 25 9) (Int32.ofInt 3))), (3, .int (Int32.ofInt 0))], [], s1) (cf_qV Q))
set_option maxRecDepth 20000 in
theorem wc_Machine_evaluateCall_ok {d : Nat} {s : cf_S} {Q : cf_S → Prop} (h : wc_Machine_evaluateCall d s Q) : cf_V (d + 10) 174 [(0, .ref 25)] s Q := by
  unfold wc_Machine_evaluateCall at h
  unfold cf_V
  refine cf_R_w rp_174 (rf_bk am_t174 0 5) 0 [(0, .ref 25)] [] s (by repeat (first | exact trivial | refine ⟨rfl, ?_⟩)) (by decide +kernel) ?_
  refine cf_R_prim (pc := 9) (q := ([.ref 18, .int (s.1 25 9), .int (Int32.ofInt 4)], [])) rp_174 rfl rfl (by decide) (by decide) rp_273 rfl (Nat.le_of_ble_eq_true rfl) ⟨rfl, Nat.le_of_ble_eq_true rfl⟩ (cq_get rfl) ?_
  refine cf_R_w rp_174 (rf_bk am_t174 6 6) 12 [(0, .ref 25)] [.int (tb_get s 18 (s.1 25 9) (Int32.ofInt 4))] s (by repeat (first | exact trivial | refine ⟨rfl, ?_⟩)) (by decide +kernel) ?_
  refine cf_R_call (pc := 20) (q := ([.ref 31, .int (Int32.ofInt 5), .int (Int32.ofInt 0), .int (tb_get s 18 (s.1 25 9) (Int32.ofInt 4))], [])) rp_174 rfl rfl (by decide) (by decide) rp_260 rfl (Nat.le_of_ble_eq_true rfl) ⟨rfl, Nat.le_of_ble_eq_true rfl⟩ h (fun v s1 h => ?_)
  obtain ⟨rfl, h⟩ := h
  refine cf_R_w rp_174 (rf_bk am_t174 13 5) 23 [(1, .int (tb_get s 18 (s.1 25 9) (Int32.ofInt 4))), (0, .ref 25)] [] s1 (by repeat (first | exact trivial | refine ⟨rfl, ?_⟩)) (by decide +kernel) ?_
  refine cf_R_prim (pc := 32) (q := ([.ref 18, .int (s1.1 25 9), .int (Int32.ofInt 3)], [])) rp_174 rfl rfl (by decide) (by decide) rp_273 rfl (Nat.le_of_ble_eq_true rfl) ⟨rfl, Nat.le_of_ble_eq_true rfl⟩ (cq_get rfl) ?_
  refine cf_R_w rp_174 (rf_bk am_t174 19 3) 35 [(1, .int (tb_get s 18 (s.1 25 9) (Int32.ofInt 4))), (0, .ref 25)] [.int (tb_get s1 18 (s1.1 25 9) (Int32.ofInt 3))] s1 (by repeat (first | exact trivial | refine ⟨rfl, ?_⟩)) (by decide +kernel) ?_
  exact cf_R_le (l := [(0, .ref 25), (1, .int (tb_get s 18 (s.1 25 9) (Int32.ofInt 4))), (2, .int (tb_get s1 18 (s1.1 25 9) (Int32.ofInt 3))), (3, .int (Int32.ofInt 0))]) rfl rfl (⟨rfl, rfl, rfl, rfl, trivial⟩) h
/-- LazyHouse$Machine.evaluateLet ()V, from 102 on -/
def wc_Machine_evaluateLet_102 (d : Nat) (x1 : Int32) (x2 : Int32) (x3 : Int32) (s : cf_S) (Q : cf_S → Prop) : Prop := ((x1 ≤ x3 → cf_V (d + 9) 161 [(0, .ref 25), (1, .int (tb_get s 18 (s.1 25 9) (Int32.ofInt 2)))] s (fun s1 => Q s1)) ∧ (¬ (x1 ≤ x3) → cf_V (d + 9) 179 [(0, .ref 25), (1, .int ((wd_g s 36 (tb_get s 18 x2 (Int32.ofInt 1))).toInt32)), (2, .int (tb_get s 18 x2 (Int32.ofInt 2)))] s (fun s2 => cf_R (d + 10) 175 (102, [(0, .ref 25), (1, .int x1), (2, .int (tb_get s2 18 x2 ((Int8.ofInt 6).toInt32))), (3, .int (x3 + Int32.ofInt 1))], [], s2) (cf_qV Q))))
set_option maxRecDepth 20000 in
theorem wc_Machine_evaluateLet_102_ok {d : Nat} {x1 : Int32} {x2 : Int32} {x3 : Int32} {s : cf_S} {Q : cf_S → Prop} (h : wc_Machine_evaluateLet_102 d x1 x2 x3 s Q) : cf_R (d + 10) 175 (102, [(0, .ref 25), (1, .int x1), (2, .int x2), (3, .int x3)], [], s) (cf_qV Q) := by
  unfold wc_Machine_evaluateLet_102 at h
  refine cf_R_w rp_175 (rf_bk am_t175 55 3) 102 [(0, .ref 25), (1, .int x1), (2, .int x2), (3, .int x3)] [] s (by repeat (first | exact trivial | refine ⟨rfl, ?_⟩)) (by decide +kernel) ?_
  refine cf_R_if (b := am_cnd .ge x3 x1) (p := 156) (q := 107) (fun hb => ?_) (fun hb => ?_)
  · replace h := h.1 (of_decide_eq_true hb)
    refine cf_R_w rp_175 (rf_bk am_t175 82 6) 156 [(0, .ref 25), (1, .int x1), (2, .int x2), (3, .int x3)] [] s (by repeat (first | exact trivial | refine ⟨rfl, ?_⟩)) (by decide +kernel) ?_
    refine cf_R_prim (pc := 166) (q := ([.ref 18, .int (s.1 25 9), .int (Int32.ofInt 2)], [.ref 25])) rp_175 rfl rfl (by decide) (by decide) rp_273 rfl (Nat.le_of_ble_eq_true rfl) ⟨rfl, Nat.le_of_ble_eq_true rfl⟩ (cq_get rfl) ?_
    refine cf_R_call (pc := 169) (q := ([.ref 25, .int (tb_get s 18 (s.1 25 9) (Int32.ofInt 2))], [])) rp_175 rfl rfl (by decide) (by decide) rp_161 rfl (Nat.le_of_ble_eq_true rfl) ⟨rfl, Nat.le_of_ble_eq_true rfl⟩ h (fun v s1 h => ?_)
    obtain ⟨rfl, h⟩ := h
    exact cf_R_ret (pc := 172) rp_175 rfl rfl rfl ⟨rfl, h⟩
  · replace h := h.2 (of_decide_eq_false hb)
    refine cf_R_w rp_175 (rf_bk am_t175 58 7) 107 [(0, .ref 25), (1, .int x1), (2, .int x2), (3, .int x3)] [] s (by repeat (first | exact trivial | refine ⟨rfl, ?_⟩)) (by decide +kernel) ?_
    refine cf_R_prim (pc := 118) (q := ([.ref 18, .int x2, .int (Int32.ofInt 1)], [.ref 36, .ref 25])) rp_175 rfl rfl (by decide) (by decide) rp_273 rfl (Nat.le_of_ble_eq_true rfl) ⟨rfl, Nat.le_of_ble_eq_true rfl⟩ (cq_get rfl) ?_
    refine cf_R_prim (pc := 121) (q := ([.ref 36, .int (tb_get s 18 x2 (Int32.ofInt 1))], [.ref 25])) rp_175 rfl rfl (by decide) (by decide) rp_280 rfl (Nat.le_of_ble_eq_true rfl) ⟨rfl, Nat.le_of_ble_eq_true rfl⟩ (cq_wget rfl) ?_
    refine cf_R_prim (pc := 124) (q := ([.long (wd_g s 36 (tb_get s 18 x2 (Int32.ofInt 1)))], [.ref 25])) rp_175 rfl rfl (by decide) (by decide) rp_277 rfl (Nat.le_of_ble_eq_true rfl) ⟨rfl, Nat.le_of_ble_eq_true rfl⟩ (cq_value) ?_
    refine cf_R_w rp_175 (rf_bk am_t175 68 4) 127 [(0, .ref 25), (1, .int x1), (2, .int x2), (3, .int x3)] [.int ((wd_g s 36 (tb_get s 18 x2 (Int32.ofInt 1))).toInt32), .ref 25] s (by repeat (first | exact trivial | refine ⟨rfl, ?_⟩)) (by decide +kernel) ?_
    refine cf_R_prim (pc := 133) (q := ([.ref 18, .int x2, .int (Int32.ofInt 2)], [.int ((wd_g s 36 (tb_get s 18 x2 (Int32.ofInt 1))).toInt32), .ref 25])) rp_175 rfl rfl (by decide) (by decide) rp_273 rfl (Nat.le_of_ble_eq_true rfl) ⟨rfl, Nat.le_of_ble_eq_true rfl⟩ (cq_get rfl) ?_
    refine cf_R_call (pc := 136) (q := ([.ref 25, .int ((wd_g s 36 (tb_get s 18 x2 (Int32.ofInt 1))).toInt32), .int (tb_get s 18 x2 (Int32.ofInt 2))], [])) rp_175 rfl rfl (by decide) (by decide) rp_179 rfl (Nat.le_of_ble_eq_true rfl) ⟨rfl, Nat.le_of_ble_eq_true rfl⟩ h (fun v s2 h => ?_)
    obtain ⟨rfl, h⟩ := h
    refine cf_R_w rp_175 (rf_bk am_t175 74 4) 139 [(0, .ref 25), (1, .int x1), (2, .int x2), (3, .int x3)] [] s2 (by repeat (first | exact trivial | refine ⟨rfl, ?_⟩)) (by decide +kernel) ?_
    refine cf_R_prim (pc := 146) (q := ([.ref 18, .int x2, .int ((Int8.ofInt 6).toInt32)], [])) rp_175 rfl rfl (by decide) (by decide) rp_273 rfl (Nat.le_of_ble_eq_true rfl) ⟨rfl, Nat.le_of_ble_eq_true rfl⟩ (cq_get rfl) ?_
    refine cf_R_w rp_175 (rf_bk am_t175 79 3) 149 [(0, .ref 25), (1, .int x1), (2, .int x2), (3, .int x3)] [.int (tb_get s2 18 x2 ((Int8.ofInt 6).toInt32))] s2 (by repeat (first | exact trivial | refine ⟨rfl, ?_⟩)) (by decide +kernel) ?_
    exact cf_R_le (l := [(0, .ref 25), (1, .int x1), (2, .int (tb_get s2 18 x2 ((Int8.ofInt 6).toInt32))), (3, .int (x3 + Int32.ofInt 1))]) rfl rfl (⟨rfl, rfl, rfl, rfl, trivial⟩) h
/-- LazyHouse$Machine.evaluateLet ()V, from 28 on -/
def wc_Machine_evaluateLet_28 (d : Nat) (x1 : Int32) (x2 : Int32) (x3 : Int32) (s : cf_S) (Q : cf_S → Prop) : Prop := ((x1 ≤ x3 → cf_R (d + 10) 175 (102, [(0, .ref 25), (1, .int x1), (2, .int (tb_get s 18 (s.1 25 9) (Int32.ofInt 3))), (3, .int (Int32.ofInt 0))], [], s) (cf_qV Q)) ∧ (¬ (x1 ≤ x3) → cf_I (d + 9) 178 [(0, .ref 25), (1, .int (tb_get s 18 x2 (Int32.ofInt 2)))] s (fun r1 s1 => cf_R (d + 10) 175 (28, [(0, .ref 25), (1, .int x1), (2, .int (tb_get (wd_s s1 36 (tb_get s1 18 x2 (Int32.ofInt 1)) (rf_word (Int32.ofInt 3) r1)) 18 x2 ((Int8.ofInt 6).toInt32))), (3, .int (x3 + Int32.ofInt 1))], [], (wd_s s1 36 (tb_get s1 18 x2 (Int32.ofInt 1)) (rf_word (Int32.ofInt 3) r1))) (cf_qV Q))))
set_option maxRecDepth 20000 in
theorem wc_Machine_evaluateLet_28_ok {d : Nat} {x1 : Int32} {x2 : Int32} {x3 : Int32} {s : cf_S} {Q : cf_S → Prop} (h : wc_Machine_evaluateLet_28 d x1 x2 x3 s Q) : cf_R (d + 10) 175 (28, [(0, .ref 25), (1, .int x1), (2, .int x2), (3, .int x3)], [], s) (cf_qV Q) := by
  unfold wc_Machine_evaluateLet_28 at h
  refine cf_R_w rp_175 (rf_bk am_t175 16 3) 28 [(0, .ref 25), (1, .int x1), (2, .int x2), (3, .int x3)] [] s (by repeat (first | exact trivial | refine ⟨rfl, ?_⟩)) (by decide +kernel) ?_
  refine cf_R_if (b := am_cnd .ge x3 x1) (p := 87) (q := 33) (fun hb => ?_) (fun hb => ?_)
  · replace h := h.1 (of_decide_eq_true hb)
    refine cf_R_w rp_175 (rf_bk am_t175 46 5) 87 [(0, .ref 25), (1, .int x1), (2, .int x2), (3, .int x3)] [] s (by repeat (first | exact trivial | refine ⟨rfl, ?_⟩)) (by decide +kernel) ?_
    refine cf_R_prim (pc := 96) (q := ([.ref 18, .int (s.1 25 9), .int (Int32.ofInt 3)], [])) rp_175 rfl rfl (by decide) (by decide) rp_273 rfl (Nat.le_of_ble_eq_true rfl) ⟨rfl, Nat.le_of_ble_eq_true rfl⟩ (cq_get rfl) ?_
    refine cf_R_w rp_175 (rf_bk am_t175 52 3) 99 [(0, .ref 25), (1, .int x1), (2, .int x2), (3, .int x3)] [.int (tb_get s 18 (s.1 25 9) (Int32.ofInt 3))] s (by repeat (first | exact trivial | refine ⟨rfl, ?_⟩)) (by decide +kernel) ?_
    exact cf_R_le (l := [(0, .ref 25), (1, .int x1), (2, .int (tb_get s 18 (s.1 25 9) (Int32.ofInt 3))), (3, .int (Int32.ofInt 0))]) rfl rfl (⟨rfl, rfl, rfl, rfl, trivial⟩) h
  · replace h := h.2 (of_decide_eq_false hb)
    refine cf_R_w rp_175 (rf_bk am_t175 19 5) 33 [(0, .ref 25), (1, .int x1), (2, .int x2), (3, .int x3)] [] s (by repeat (first | exact trivial | refine ⟨rfl, ?_⟩)) (by decide +kernel) ?_
    refine cf_R_prim (pc := 40) (q := ([.ref 18, .int x2, .int (Int32.ofInt 2)], [.ref 25])) rp_175 rfl rfl (by decide) (by decide) rp_273 rfl (Nat.le_of_ble_eq_true rfl) ⟨rfl, Nat.le_of_ble_eq_true rfl⟩ (cq_get rfl) ?_
    refine cf_R_call (pc := 43) (q := ([.ref 25, .int (tb_get s 18 x2 (Int32.ofInt 2))], [])) rp_175 rfl rfl (by decide) (by decide) rp_178 rfl (Nat.le_of_ble_eq_true rfl) ⟨rfl, Nat.le_of_ble_eq_true rfl⟩ h (fun v s1 h => ?_)
    obtain ⟨r1, rfl, h⟩ := h
    refine cf_R_w rp_175 (rf_bk am_t175 26 7) 46 [(0, .ref 25), (1, .int x1), (2, .int x2), (3, .int x3)] [.int r1] s1 (by repeat (first | exact trivial | refine ⟨rfl, ?_⟩)) (by decide +kernel) ?_
    refine cf_R_prim (pc := 58) (q := ([.ref 18, .int x2, .int (Int32.ofInt 1)], [.ref 36])) rp_175 rfl rfl (by decide) (by decide) rp_273 rfl (Nat.le_of_ble_eq_true rfl) ⟨rfl, Nat.le_of_ble_eq_true rfl⟩ (cq_get rfl) ?_
    refine cf_R_w rp_175 (rf_bk am_t175 34 2) 61 [(4, .int r1), (0, .ref 25), (1, .int x1), (2, .int x2), (3, .int x3)] [.int (tb_get s1 18 x2 (Int32.ofInt 1)), .ref 36] s1 (by repeat (first | exact trivial | refine ⟨rfl, ?_⟩)) (by decide +kernel) ?_
    refine cf_R_prim (pc := 64) (q := ([.int (Int32.ofInt 3), .int r1], [.int (tb_get s1 18 x2 (Int32.ofInt 1)), .ref 36])) rp_175 rfl rfl (by decide) (by decide) rp_275 rfl (Nat.le_of_ble_eq_true rfl) ⟨rfl, Nat.le_of_ble_eq_true rfl⟩ (cq_of) ?_
    refine cf_R_prim (pc := 67) (q := ([.ref 36, .int (tb_get s1 18 x2 (Int32.ofInt 1)), .long (rf_word (Int32.ofInt 3) r1)], [])) rp_175 rfl rfl (by decide) (by decide) rp_281 rfl (Nat.le_of_ble_eq_true rfl) ⟨rfl, Nat.le_of_ble_eq_true rfl⟩ (cq_wset rfl) ?_
    refine cf_R_w rp_175 (rf_bk am_t175 38 4) 70 [(4, .int r1), (0, .ref 25), (1, .int x1), (2, .int x2), (3, .int x3)] [] (wd_s s1 36 (tb_get s1 18 x2 (Int32.ofInt 1)) (rf_word (Int32.ofInt 3) r1)) (by repeat (first | exact trivial | refine ⟨rfl, ?_⟩)) (by decide +kernel) ?_
    refine cf_R_prim (pc := 77) (q := ([.ref 18, .int x2, .int ((Int8.ofInt 6).toInt32)], [])) rp_175 rfl rfl (by decide) (by decide) rp_273 rfl (Nat.le_of_ble_eq_true rfl) ⟨rfl, Nat.le_of_ble_eq_true rfl⟩ (cq_get rfl) ?_
    refine cf_R_w rp_175 (rf_bk am_t175 43 3) 80 [(4, .int r1), (0, .ref 25), (1, .int x1), (2, .int x2), (3, .int x3)] [.int (tb_get (wd_s s1 36 (tb_get s1 18 x2 (Int32.ofInt 1)) (rf_word (Int32.ofInt 3) r1)) 18 x2 ((Int8.ofInt 6).toInt32))] (wd_s s1 36 (tb_get s1 18 x2 (Int32.ofInt 1)) (rf_word (Int32.ofInt 3) r1)) (by repeat (first | exact trivial | refine ⟨rfl, ?_⟩)) (by decide +kernel) ?_
    exact cf_R_le (l := [(0, .ref 25), (1, .int x1), (2, .int (tb_get (wd_s s1 36 (tb_get s1 18 x2 (Int32.ofInt 1)) (rf_word (Int32.ofInt 3) r1)) 18 x2 ((Int8.ofInt 6).toInt32))), (3, .int (x3 + Int32.ofInt 1))]) rfl rfl (⟨rfl, rfl, rfl, rfl, trivial⟩) h
/-- LazyHouse$Machine.evaluateLet ()V, from 0 on -/
def wc_Machine_evaluateLet (d : Nat) (s : cf_S) (Q : cf_S → Prop) : Prop := cf_R (d + 10) 175 (28, [(0, .ref 25), (1, .int (tb_get s 18 (s.1 25 9) (Int32.ofInt 4))), (2, .int (tb_get s 18 (s.1 25 9) (Int32.ofInt 3))), (3, .int (Int32.ofInt 0))], [], s) (cf_qV Q)
set_option maxRecDepth 20000 in
theorem wc_Machine_evaluateLet_ok {d : Nat} {s : cf_S} {Q : cf_S → Prop} (h : wc_Machine_evaluateLet d s Q) : cf_V (d + 10) 175 [(0, .ref 25)] s Q := by
  unfold wc_Machine_evaluateLet at h
  unfold cf_V
  refine cf_R_w rp_175 (rf_bk am_t175 0 5) 0 [(0, .ref 25)] [] s (by repeat (first | exact trivial | refine ⟨rfl, ?_⟩)) (by decide +kernel) ?_
  refine cf_R_prim (pc := 9) (q := ([.ref 18, .int (s.1 25 9), .int (Int32.ofInt 4)], [])) rp_175 rfl rfl (by decide) (by decide) rp_273 rfl (Nat.le_of_ble_eq_true rfl) ⟨rfl, Nat.le_of_ble_eq_true rfl⟩ (cq_get rfl) ?_
  refine cf_R_w rp_175 (rf_bk am_t175 6 6) 12 [(0, .ref 25)] [.int (tb_get s 18 (s.1 25 9) (Int32.ofInt 4))] s (by repeat (first | exact trivial | refine ⟨rfl, ?_⟩)) (by decide +kernel) ?_
  refine cf_R_prim (pc := 22) (q := ([.ref 18, .int (s.1 25 9), .int (Int32.ofInt 3)], [])) rp_175 rfl rfl (by decide) (by decide) rp_273 rfl (Nat.le_of_ble_eq_true rfl) ⟨rfl, Nat.le_of_ble_eq_true rfl⟩ (cq_get rfl) ?_
  refine cf_R_w rp_175 (rf_bk am_t175 13 3) 25 [(1, .int (tb_get s 18 (s.1 25 9) (Int32.ofInt 4))), (0, .ref 25)] [.int (tb_get s 18 (s.1 25 9) (Int32.ofInt 3))] s (by repeat (first | exact trivial | refine ⟨rfl, ?_⟩)) (by decide +kernel) ?_
  exact cf_R_le (l := [(0, .ref 25), (1, .int (tb_get s 18 (s.1 25 9) (Int32.ofInt 4))), (2, .int (tb_get s 18 (s.1 25 9) (Int32.ofInt 3))), (3, .int (Int32.ofInt 0))]) rfl rfl (⟨rfl, rfl, rfl, rfl, trivial⟩) h
/-- LazyHouse$Machine.pushCapturing (III)V, from 38 on -/
def wc_Machine_pushCapturing_38 (d : Nat) (x4 : Int32) (x5 : Int32) (x6 : Int32) (s : cf_S) (Q : cf_S → Prop) : Prop := ((x4 ≤ x6 → cf_V (d + 9) 161 [(0, .ref 25), (1, .int (tb_get s 18 (s.1 25 9) (Int32.ofInt 2)))] s (fun s1 => Q s1)) ∧ (¬ (x4 ≤ x6) → cf_V (d + 9) 265 [(0, .ref 31), (1, .int x6), (2, .long (wd_g s 36 (tb_get s 20 (x5 + x6) (Int32.ofInt 0))))] s (fun s2 => cf_R (d + 10) 176 (38, [(0, .ref 25), (4, .int x4), (5, .int x5), (6, .int (x6 + Int32.ofInt 1))], [], s2) (cf_qV Q))))
set_option maxRecDepth 20000 in
theorem wc_Machine_pushCapturing_38_ok {d : Nat} {x4 : Int32} {x5 : Int32} {x6 : Int32} {s : cf_S} {Q : cf_S → Prop} (h : wc_Machine_pushCapturing_38 d x4 x5 x6 s Q) : cf_R (d + 10) 176 (38, [(0, .ref 25), (4, .int x4), (5, .int x5), (6, .int x6)], [], s) (cf_qV Q) := by
  unfold wc_Machine_pushCapturing_38 at h
  refine cf_R_w rp_176 (rf_bk am_t176 20 3) 38 [(0, .ref 25), (4, .int x4), (5, .int x5), (6, .int x6)] [] s (by repeat (first | exact trivial | refine ⟨rfl, ?_⟩)) (by decide +kernel) ?_
  refine cf_R_if (b := am_cnd .ge x6 x4) (p := 80) (q := 45) (fun hb => ?_) (fun hb => ?_)
  · replace h := h.1 (of_decide_eq_true hb)
    refine cf_R_w rp_176 (rf_bk am_t176 39 6) 80 [(0, .ref 25), (4, .int x4), (5, .int x5), (6, .int x6)] [] s (by repeat (first | exact trivial | refine ⟨rfl, ?_⟩)) (by decide +kernel) ?_
    refine cf_R_prim (pc := 90) (q := ([.ref 18, .int (s.1 25 9), .int (Int32.ofInt 2)], [.ref 25])) rp_176 rfl rfl (by decide) (by decide) rp_273 rfl (Nat.le_of_ble_eq_true rfl) ⟨rfl, Nat.le_of_ble_eq_true rfl⟩ (cq_get rfl) ?_
    refine cf_R_call (pc := 93) (q := ([.ref 25, .int (tb_get s 18 (s.1 25 9) (Int32.ofInt 2))], [])) rp_176 rfl rfl (by decide) (by decide) rp_161 rfl (Nat.le_of_ble_eq_true rfl) ⟨rfl, Nat.le_of_ble_eq_true rfl⟩ h (fun v s1 h => ?_)
    obtain ⟨rfl, h⟩ := h
    exact cf_R_ret (pc := 96) rp_176 rfl rfl rfl ⟨rfl, h⟩
  · replace h := h.2 (of_decide_eq_false hb)
    refine cf_R_w rp_176 (rf_bk am_t176 23 11) 45 [(0, .ref 25), (4, .int x4), (5, .int x5), (6, .int x6)] [] s (by repeat (first | exact trivial | refine ⟨rfl, ?_⟩)) (by decide +kernel) ?_
    refine cf_R_prim (pc := 65) (q := ([.ref 20, .int (x5 + x6), .int (Int32.ofInt 0)], [.ref 36, .int x6, .ref 31])) rp_176 rfl rfl (by decide) (by decide) rp_273 rfl (Nat.le_of_ble_eq_true rfl) ⟨rfl, Nat.le_of_ble_eq_true rfl⟩ (cq_get rfl) ?_
    refine cf_R_prim (pc := 68) (q := ([.ref 36, .int (tb_get s 20 (x5 + x6) (Int32.ofInt 0))], [.int x6, .ref 31])) rp_176 rfl rfl (by decide) (by decide) rp_280 rfl (Nat.le_of_ble_eq_true rfl) ⟨rfl, Nat.le_of_ble_eq_true rfl⟩ (cq_wget rfl) ?_
    refine cf_R_call (pc := 71) (q := ([.ref 31, .int x6, .long (wd_g s 36 (tb_get s 20 (x5 + x6) (Int32.ofInt 0)))], [])) rp_176 rfl rfl (by decide) (by decide) rp_265 rfl (Nat.le_of_ble_eq_true rfl) ⟨rfl, Nat.le_of_ble_eq_true rfl⟩ h (fun v s2 h => ?_)
    obtain ⟨rfl, h⟩ := h
    refine cf_R_w rp_176 (rf_bk am_t176 37 2) 74 [(0, .ref 25), (4, .int x4), (5, .int x5), (6, .int x6)] [] s2 (by repeat (first | exact trivial | refine ⟨rfl, ?_⟩)) (by decide +kernel) ?_
    exact cf_R_le (l := [(0, .ref 25), (4, .int x4), (5, .int x5), (6, .int (x6 + Int32.ofInt 1))]) rfl rfl (⟨rfl, rfl, rfl, rfl, trivial⟩) h
/-- LazyHouse$Machine.pushCapturing (III)V, from 0 on -/
def wc_Machine_pushCapturing (d : Nat) (x1 : Int32) (x2 : Int32) (x3 : Int32) (s : cf_S) (Q : cf_S → Prop) : Prop := cf_V (d + 9) 260 [(0, .ref 31), (1, .int x1), (2, .int x2), (3, .int (tb_get s 18 x3 ((Int8.ofInt 12).toInt32)))] s (fun s1 => cf_R (d + 10) 176 (38, [(0, .ref 25), (4, .int (tb_get s 18 x3 ((Int8.ofInt 12).toInt32))), (5, .int (tb_get s 18 x3 ((Int8.ofInt 11).toInt32))), (6, .int (Int32.ofInt 0))], [], s1) (cf_qV Q))
set_option maxRecDepth 20000 in
theorem wc_Machine_pushCapturing_ok {d : Nat} {x1 : Int32} {x2 : Int32} {x3 : Int32} {s : cf_S} {Q : cf_S → Prop} (h : wc_Machine_pushCapturing d x1 x2 x3 s Q) : cf_V (d + 10) 176 [(0, .ref 25), (1, .int x1), (2, .int x2), (3, .int x3)] s Q := by
  unfold wc_Machine_pushCapturing at h
  unfold cf_V
  refine cf_R_w rp_176 (rf_bk am_t176 0 4) 0 [(0, .ref 25), (1, .int x1), (2, .int x2), (3, .int x3)] [] s (by repeat (first | exact trivial | refine ⟨rfl, ?_⟩)) (by decide +kernel) ?_
  refine cf_R_prim (pc := 7) (q := ([.ref 18, .int x3, .int ((Int8.ofInt 12).toInt32)], [])) rp_176 rfl rfl (by decide) (by decide) rp_273 rfl (Nat.le_of_ble_eq_true rfl) ⟨rfl, Nat.le_of_ble_eq_true rfl⟩ (cq_get rfl) ?_
  refine cf_R_w rp_176 (rf_bk am_t176 5 5) 10 [(0, .ref 25), (1, .int x1), (2, .int x2), (3, .int x3)] [.int (tb_get s 18 x3 ((Int8.ofInt 12).toInt32))] s (by repeat (first | exact trivial | refine ⟨rfl, ?_⟩)) (by decide +kernel) ?_
  refine cf_R_prim (pc := 19) (q := ([.ref 18, .int x3, .int ((Int8.ofInt 11).toInt32)], [])) rp_176 rfl rfl (by decide) (by decide) rp_273 rfl (Nat.le_of_ble_eq_true rfl) ⟨rfl, Nat.le_of_ble_eq_true rfl⟩ (cq_get rfl) ?_
  refine cf_R_w rp_176 (rf_bk am_t176 11 6) 22 [(4, .int (tb_get s 18 x3 ((Int8.ofInt 12).toInt32))), (0, .ref 25), (1, .int x1), (2, .int x2), (3, .int x3)] [.int (tb_get s 18 x3 ((Int8.ofInt 11).toInt32))] s (by repeat (first | exact trivial | refine ⟨rfl, ?_⟩)) (by decide +kernel) ?_
  refine cf_R_call (pc := 32) (q := ([.ref 31, .int x1, .int x2, .int (tb_get s 18 x3 ((Int8.ofInt 12).toInt32))], [])) rp_176 rfl rfl (by decide) (by decide) rp_260 rfl (Nat.le_of_ble_eq_true rfl) ⟨rfl, Nat.le_of_ble_eq_true rfl⟩ h (fun v s1 h => ?_)
  obtain ⟨rfl, h⟩ := h
  refine cf_R_w rp_176 (rf_bk am_t176 18 2) 35 [(5, .int (tb_get s 18 x3 ((Int8.ofInt 11).toInt32))), (4, .int (tb_get s 18 x3 ((Int8.ofInt 12).toInt32))), (0, .ref 25), (1, .int x1), (2, .int x2), (3, .int x3)] [] s1 (by repeat (first | exact trivial | refine ⟨rfl, ?_⟩)) (by decide +kernel) ?_
  exact cf_R_le (l := [(0, .ref 25), (4, .int (tb_get s 18 x3 ((Int8.ofInt 12).toInt32))), (5, .int (tb_get s 18 x3 ((Int8.ofInt 11).toInt32))), (6, .int (Int32.ofInt 0))]) rfl rfl (⟨rfl, rfl, rfl, rfl, trivial⟩) h
/-- LazyHouse$Machine.makeInPlace (I)J, from 0 on -/
def wc_Machine_makeInPlace (d : Nat) (x1 : Int32) (s : cf_S) (Q : Int64 → cf_S → Prop) : Prop := ((¬ (tb_get s 18 x1 ((Int8.ofInt 13).toInt32)) = 0 → cf_I (d + 9) 178 [(0, .ref 25), (1, .int x1)] s (fun r1 s1 => cf_V (d + 9) 179 [(0, .ref 25), (1, .int r1), (2, .int x1)] s1 (fun s2 => Q (rf_word (Int32.ofInt 3) r1) s2))) ∧ ((tb_get s 18 x1 ((Int8.ofInt 13).toInt32)) = 0 → cf_J (d + 9) 172 [(0, .ref 25), (1, .int x1)] s (fun r3 s3 => Q r3 s3)))
set_option maxRecDepth 20000 in
theorem wc_Machine_makeInPlace_ok {d : Nat} {x1 : Int32} {s : cf_S} {Q : Int64 → cf_S → Prop} (h : wc_Machine_makeInPlace d x1 s Q) : cf_J (d + 10) 177 [(0, .ref 25), (1, .int x1)] s Q := by
  unfold wc_Machine_makeInPlace at h
  unfold cf_J
  refine cf_R_w rp_177 (rf_bk am_t177 0 4) 0 [(0, .ref 25), (1, .int x1)] [] s (by repeat (first | exact trivial | refine ⟨rfl, ?_⟩)) (by decide +kernel) ?_
  refine cf_R_prim (pc := 7) (q := ([.ref 18, .int x1, .int ((Int8.ofInt 13).toInt32)], [])) rp_177 rfl rfl (by decide) (by decide) rp_273 rfl (Nat.le_of_ble_eq_true rfl) ⟨rfl, Nat.le_of_ble_eq_true rfl⟩ (cq_get rfl) ?_
  refine cf_R_w rp_177 (rf_bk am_t177 5 1) 10 [(0, .ref 25), (1, .int x1)] [.int (tb_get s 18 x1 ((Int8.ofInt 13).toInt32))] s (by repeat (first | exact trivial | refine ⟨rfl, ?_⟩)) (by decide +kernel) ?_
  refine cf_R_if (b := am_cnd .ne (tb_get s 18 x1 ((Int8.ofInt 13).toInt32)) 0) (p := 19) (q := 13) (fun hb => ?_) (fun hb => ?_)
  · replace h := h.1 (of_decide_eq_true hb)
    refine cf_R_w rp_177 (rf_bk am_t177 10 2) 19 [(0, .ref 25), (1, .int x1)] [] s (by repeat (first | exact trivial | refine ⟨rfl, ?_⟩)) (by decide +kernel) ?_
    refine cf_R_call (pc := 21) (q := ([.ref 25, .int x1], [])) rp_177 rfl rfl (by decide) (by decide) rp_178 rfl (Nat.le_of_ble_eq_true rfl) ⟨rfl, Nat.le_of_ble_eq_true rfl⟩ h (fun v s1 h => ?_)
    obtain ⟨r1, rfl, h⟩ := h
    refine cf_R_w rp_177 (rf_bk am_t177 13 4) 24 [(0, .ref 25), (1, .int x1)] [.int r1] s1 (by repeat (first | exact trivial | refine ⟨rfl, ?_⟩)) (by decide +kernel) ?_
    refine cf_R_call (pc := 28) (q := ([.ref 25, .int r1, .int x1], [])) rp_177 rfl rfl (by decide) (by decide) rp_179 rfl (Nat.le_of_ble_eq_true rfl) ⟨rfl, Nat.le_of_ble_eq_true rfl⟩ h (fun v s2 h => ?_)
    obtain ⟨rfl, h⟩ := h
    refine cf_R_w rp_177 (rf_bk am_t177 18 2) 31 [(2, .int r1), (0, .ref 25), (1, .int x1)] [] s2 (by repeat (first | exact trivial | refine ⟨rfl, ?_⟩)) (by decide +kernel) ?_
    refine cf_R_prim (pc := 33) (q := ([.int (Int32.ofInt 3), .int r1], [])) rp_177 rfl rfl (by decide) (by decide) rp_275 rfl (Nat.le_of_ble_eq_true rfl) ⟨rfl, Nat.le_of_ble_eq_true rfl⟩ (cq_of) ?_
    exact cf_R_ret (pc := 36) (v := some (.long (rf_word (Int32.ofInt 3) r1))) rp_177 rfl rfl rfl ⟨_, rfl, h⟩
  · replace h := h.2 (Decidable.not_not.mp (of_decide_eq_false hb))
    refine cf_R_w rp_177 (rf_bk am_t177 6 2) 13 [(0, .ref 25), (1, .int x1)] [] s (by repeat (first | exact trivial | refine ⟨rfl, ?_⟩)) (by decide +kernel) ?_
    refine cf_R_call (pc := 15) (q := ([.ref 25, .int x1], [])) rp_177 rfl rfl (by decide) (by decide) rp_172 rfl (Nat.le_of_ble_eq_true rfl) ⟨rfl, Nat.le_of_ble_eq_true rfl⟩ h (fun v s3 h => ?_)
    obtain ⟨r3, rfl, h⟩ := h
    exact cf_R_ret (pc := 18) (v := some (.long r3)) rp_177 rfl rfl rfl ⟨_, rfl, h⟩
/-- LazyHouse$Machine.makeEmpty (I)I, from 0 on -/
def wc_Machine_makeEmpty (d : Nat) (x1 : Int32) (s : cf_S) (Q : Int32 → cf_S → Prop) : Prop := (((tb_get s 18 x1 ((Int8.ofInt 13).toInt32)) = 1 → cf_I (d + 9) 132 [(0, .ref 26), (1, .int (Int32.ofInt 4)), (2, .int x1), (3, .int (tb_get s 18 x1 ((Int8.ofInt 12).toInt32)))] s (fun r1 s1 => Q r1 s1)) ∧ (¬ ((tb_get s 18 x1 ((Int8.ofInt 13).toInt32)) = 1) → (((tb_get s 18 x1 ((Int8.ofInt 13).toInt32)) = 2 → cf_I (d + 9) 132 [(0, .ref 26), (1, .int (Int32.ofInt 5)), (2, .int (tb_get s 18 x1 (Int32.ofInt 1))), (3, .int (tb_get s 18 x1 (Int32.ofInt 4)))] s (fun r2 s2 => Q r2 s2)) ∧ (¬ ((tb_get s 18 x1 ((Int8.ofInt 13).toInt32)) = 2) → cf_I (d + 9) 132 [(0, .ref 26), (1, .int (Int32.ofInt 1)), (2, .int x1), (3, .int (tb_get s 18 x1 ((Int8.ofInt 12).toInt32)))] s (fun r3 s3 => Q r3 s3)))))
set_option maxRecDepth 20000 in
theorem wc_Machine_makeEmpty_ok {d : Nat} {x1 : Int32} {s : cf_S} {Q : Int32 → cf_S → Prop} (h : wc_Machine_makeEmpty d x1 s Q) : cf_I (d + 10) 178 [(0, .ref 25), (1, .int x1)] s Q := by
  unfold wc_Machine_makeEmpty at h
  unfold cf_I
  refine cf_R_w rp_178 (rf_bk am_t178 0 4) 0 [(0, .ref 25), (1, .int x1)] [] s (by repeat (first | exact trivial | refine ⟨rfl, ?_⟩)) (by decide +kernel) ?_
  refine cf_R_prim (pc := 7) (q := ([.ref 18, .int x1, .int ((Int8.ofInt 13).toInt32)], [])) rp_178 rfl rfl (by decide) (by decide) rp_273 rfl (Nat.le_of_ble_eq_true rfl) ⟨rfl, Nat.le_of_ble_eq_true rfl⟩ (cq_get rfl) ?_
  refine cf_R_w rp_178 (rf_bk am_t178 5 1) 10 [(0, .ref 25), (1, .int x1)] [.int (tb_get s 18 x1 ((Int8.ofInt 13).toInt32))] s (by repeat (first | exact trivial | refine ⟨rfl, ?_⟩)) (by decide +kernel) ?_
  refine cf_R_sw (fun hb => ?_) (fun hb => ?_)
  · replace h := h.1 hb
    refine cf_R_w rp_178 (rf_bk am_t178 21 8) 63 [(0, .ref 25), (1, .int x1)] [] s (by repeat (first | exact trivial | refine ⟨rfl, ?_⟩)) (by decide +kernel) ?_
    refine cf_R_prim (pc := 76) (q := ([.ref 18, .int x1, .int ((Int8.ofInt 12).toInt32)], [.int x1, .int (Int32.ofInt 4), .ref 26])) rp_178 rfl rfl (by decide) (by decide) rp_273 rfl (Nat.le_of_ble_eq_true rfl) ⟨rfl, Nat.le_of_ble_eq_true rfl⟩ (cq_get rfl) ?_
    refine cf_R_call (pc := 79) (q := ([.ref 26, .int (Int32.ofInt 4), .int x1, .int (tb_get s 18 x1 ((Int8.ofInt 12).toInt32))], [])) rp_178 rfl rfl (by decide) (by decide) rp_132 rfl (Nat.le_of_ble_eq_true rfl) ⟨rfl, Nat.le_of_ble_eq_true rfl⟩ h (fun v s1 h => ?_)
    obtain ⟨r1, rfl, h⟩ := h
    exact cf_R_ret (pc := 82) (v := some (.int r1)) rp_178 rfl rfl rfl ⟨_, rfl, h⟩
  replace h := h.2 hb
  refine cf_R_sw (fun hb => ?_) (fun hb => ?_)
  · replace h := h.1 hb
    refine cf_R_w rp_178 (rf_bk am_t178 6 7) 36 [(0, .ref 25), (1, .int x1)] [] s (by repeat (first | exact trivial | refine ⟨rfl, ?_⟩)) (by decide +kernel) ?_
    refine cf_R_prim (pc := 47) (q := ([.ref 18, .int x1, .int (Int32.ofInt 1)], [.int (Int32.ofInt 5), .ref 26])) rp_178 rfl rfl (by decide) (by decide) rp_273 rfl (Nat.le_of_ble_eq_true rfl) ⟨rfl, Nat.le_of_ble_eq_true rfl⟩ (cq_get rfl) ?_
    refine cf_R_w rp_178 (rf_bk am_t178 14 4) 50 [(0, .ref 25), (1, .int x1)] [.int (tb_get s 18 x1 (Int32.ofInt 1)), .int (Int32.ofInt 5), .ref 26] s (by repeat (first | exact trivial | refine ⟨rfl, ?_⟩)) (by decide +kernel) ?_
    refine cf_R_prim (pc := 56) (q := ([.ref 18, .int x1, .int (Int32.ofInt 4)], [.int (tb_get s 18 x1 (Int32.ofInt 1)), .int (Int32.ofInt 5), .ref 26])) rp_178 rfl rfl (by decide) (by decide) rp_273 rfl (Nat.le_of_ble_eq_true rfl) ⟨rfl, Nat.le_of_ble_eq_true rfl⟩ (cq_get rfl) ?_
    refine cf_R_call (pc := 59) (q := ([.ref 26, .int (Int32.ofInt 5), .int (tb_get s 18 x1 (Int32.ofInt 1)), .int (tb_get s 18 x1 (Int32.ofInt 4))], [])) rp_178 rfl rfl (by decide) (by decide) rp_132 rfl (Nat.le_of_ble_eq_true rfl) ⟨rfl, Nat.le_of_ble_eq_true rfl⟩ h (fun v s2 h => ?_)
    obtain ⟨r2, rfl, h⟩ := h
    exact cf_R_ret (pc := 62) (v := some (.int r2)) rp_178 rfl rfl rfl ⟨_, rfl, h⟩
  replace h := h.2 hb
  show cf_R (d + 10) 178 (83, _, _, _) _
  refine cf_R_w rp_178 (rf_bk am_t178 32 8) 83 [(0, .ref 25), (1, .int x1)] [] s (by repeat (first | exact trivial | refine ⟨rfl, ?_⟩)) (by decide +kernel) ?_
  refine cf_R_prim (pc := 96) (q := ([.ref 18, .int x1, .int ((Int8.ofInt 12).toInt32)], [.int x1, .int (Int32.ofInt 1), .ref 26])) rp_178 rfl rfl (by decide) (by decide) rp_273 rfl (Nat.le_of_ble_eq_true rfl) ⟨rfl, Nat.le_of_ble_eq_true rfl⟩ (cq_get rfl) ?_
  refine cf_R_call (pc := 99) (q := ([.ref 26, .int (Int32.ofInt 1), .int x1, .int (tb_get s 18 x1 ((Int8.ofInt 12).toInt32))], [])) rp_178 rfl rfl (by decide) (by decide) rp_132 rfl (Nat.le_of_ble_eq_true rfl) ⟨rfl, Nat.le_of_ble_eq_true rfl⟩ h (fun v s3 h => ?_)
  obtain ⟨r3, rfl, h⟩ := h
  exact cf_R_ret (pc := 102) (v := some (.int r3)) rp_178 rfl rfl rfl ⟨_, rfl, h⟩
