/-! PART 43: the reference, decompiled: product, beginsAtom, call, atom, definition, definitionOf, lookUp, isMain, program, addFree, noFree, gatherFree, setFree -/
/-- product (I)I, from 70 on -/
def wr_product_70 (d : Nat) (x1 : Int32) (y0 : Int32) (s : rf_S) (Q : Int32 → rf_S → Prop) : Prop := rf_R (d + 1) 30 (6, [(0, .ref rf_o), (1, .int x1), (2, .int y0)], [], s) (rf_qI Q)
set_option maxRecDepth 20000 in
theorem wr_product_70_ok {d : Nat} {x1 : Int32} {y0 : Int32} {s : rf_S} {Q : Int32 → rf_S → Prop} (h : wr_product_70 d x1 y0 s Q) : rf_R (d + 1) 30 (70, [(0, .ref rf_o), (1, .int x1)], [.int y0], s) (rf_qI Q) := by
  unfold wr_product_70 at h
  refine rf_R_wv rp_30 (rf_bk am_t30 36 2) 70 [(0, .ref rf_o), (1, .int x1)] [.int y0] s (by repeat (first | exact trivial | refine ⟨rfl, ?_⟩)) (by decide +kernel) ?_
  exact rf_R_le (l := [(0, .ref rf_o), (1, .int x1), (2, .int y0)]) rfl rfl (⟨rfl, rfl, rfl, trivial⟩) h
/-- product (I)I, from 33 on -/
def wr_product_33 (d : Nat) (x1 : Int32) (x2 : Int32) (s : rf_S) (Q : Int32 → rf_S → Prop) : Prop := rf_V d 9 [(0, .ref rf_o)] s (fun s1 => rf_I d 32 [(0, .ref rf_o), (1, .int x1)] s1 (fun r2 s2 => ((0 ≤ (s2.1 9) → wr_product_70 d x1 (Int32.ofInt (-1)) s2 Q) ∧ (¬ (0 ≤ (s2.1 9)) → rf_I d 14 [(0, .ref rf_o), (1, .int ((Int8.ofInt 9).toInt32)), (2, .int (s.1 8)), (3, .int x2), (4, .int r2)] s2 (fun r3 s3 => wr_product_70 d x1 r3 s3 Q)))))
set_option maxRecDepth 20000 in
theorem wr_product_33_ok {d : Nat} {x1 : Int32} {x2 : Int32} {s : rf_S} {Q : Int32 → rf_S → Prop} (h : wr_product_33 d x1 x2 s Q) : rf_R (d + 1) 30 (33, [(0, .ref rf_o), (1, .int x1), (2, .int x2)], [], s) (rf_qI Q) := by
  unfold wr_product_33 at h
  refine rf_R_wv rp_30 (rf_bk am_t30 16 4) 33 [(0, .ref rf_o), (1, .int x1), (2, .int x2)] [] s (by repeat (first | exact trivial | refine ⟨rfl, ?_⟩)) (by decide +kernel) ?_
  refine rf_R_call (pc := 39) (q := ([.ref rf_o], [])) rp_30 rfl rfl (by decide) rp_9 rfl (Nat.le_of_ble_eq_true rfl) ⟨rfl, Nat.le_of_ble_eq_true rfl⟩ h (fun v s1 h => ?_)
  obtain ⟨rfl, h⟩ := h
  refine rf_R_wv rp_30 (rf_bk am_t30 21 2) 42 [(3, .int (s.1 8)), (0, .ref rf_o), (1, .int x1), (2, .int x2)] [] s1 (by repeat (first | exact trivial | refine ⟨rfl, ?_⟩)) (by decide +kernel) ?_
  refine rf_R_call (pc := 44) (q := ([.ref rf_o, .int x1], [])) rp_30 rfl rfl (by decide) rp_32 rfl (Nat.le_of_ble_eq_true rfl) ⟨rfl, Nat.le_of_ble_eq_true rfl⟩ h (fun v s2 h => ?_)
  obtain ⟨r2, rfl, h⟩ := h
  refine rf_R_wv rp_30 (rf_bk am_t30 24 4) 47 [(3, .int (s.1 8)), (0, .ref rf_o), (1, .int x1), (2, .int x2)] [.int r2] s2 (by repeat (first | exact trivial | refine ⟨rfl, ?_⟩)) (by decide +kernel) ?_
  refine rf_R_if (b := am_cnd .ge (s2.1 9) 0) (p := 69) (q := 56) (fun hb => ?_) (fun hb => ?_)
  · replace h := h.1 (of_decide_eq_true hb)
    refine rf_R_wv rp_30 (rf_bk am_t30 35 1) 69 [(4, .int r2), (3, .int (s.1 8)), (0, .ref rf_o), (1, .int x1), (2, .int x2)] [] s2 (by repeat (first | exact trivial | refine ⟨rfl, ?_⟩)) (by decide +kernel) ?_
    exact rf_R_le (l := [(0, .ref rf_o), (1, .int x1)]) rfl rfl (⟨rfl, rfl, trivial⟩) (wr_product_70_ok h)
  · replace h := h.2 (of_decide_eq_false hb)
    refine rf_R_wv rp_30 (rf_bk am_t30 28 5) 56 [(4, .int r2), (3, .int (s.1 8)), (0, .ref rf_o), (1, .int x1), (2, .int x2)] [] s2 (by repeat (first | exact trivial | refine ⟨rfl, ?_⟩)) (by decide +kernel) ?_
    refine rf_R_call (pc := 63) (q := ([.ref rf_o, .int ((Int8.ofInt 9).toInt32), .int (s.1 8), .int x2, .int r2], [])) rp_30 rfl rfl (by decide) rp_14 rfl (Nat.le_of_ble_eq_true rfl) ⟨rfl, Nat.le_of_ble_eq_true rfl⟩ h (fun v s3 h => ?_)
    obtain ⟨r3, rfl, h⟩ := h
    refine rf_R_wv rp_30 (rf_bk am_t30 34 1) 66 [(4, .int r2), (3, .int (s.1 8)), (0, .ref rf_o), (1, .int x1), (2, .int x2)] [.int r3] s3 (by repeat (first | exact trivial | refine ⟨rfl, ?_⟩)) (by decide +kernel) ?_
    exact rf_R_le (l := [(0, .ref rf_o), (1, .int x1)]) rfl rfl (⟨rfl, rfl, trivial⟩) (wr_product_70_ok h)
/-- product (I)I, from 6 on -/
def wr_product_6 (d : Nat) (x1 : Int32) (x2 : Int32) (s : rf_S) (Q : Int32 → rf_S → Prop) : Prop := rf_I d 11 [(0, .ref rf_o), (1, .int ((Int8.ofInt 42).toInt32))] s (fun r1 s1 => ((¬ r1 = 0 → wr_product_33 d x1 x2 s1 Q) ∧ (r1 = 0 → rf_I d 11 [(0, .ref rf_o), (1, .int ((Int8.ofInt 47).toInt32))] s1 (fun r2 s2 => ((¬ r2 = 0 → wr_product_33 d x1 x2 s2 Q) ∧ (r2 = 0 → rf_I d 11 [(0, .ref rf_o), (1, .int ((Int8.ofInt 37).toInt32))] s2 (fun r3 s3 => ((r3 = 0 → Q x2 s3) ∧ (¬ (r3 = 0) → wr_product_33 d x1 x2 s3 Q)))))))))
set_option maxRecDepth 20000 in
theorem wr_product_6_ok {d : Nat} {x1 : Int32} {x2 : Int32} {s : rf_S} {Q : Int32 → rf_S → Prop} (h : wr_product_6 d x1 x2 s Q) : rf_R (d + 1) 30 (6, [(0, .ref rf_o), (1, .int x1), (2, .int x2)], [], s) (rf_qI Q) := by
  unfold wr_product_6 at h
  refine rf_R_wv rp_30 (rf_bk am_t30 4 2) 6 [(0, .ref rf_o), (1, .int x1), (2, .int x2)] [] s (by repeat (first | exact trivial | refine ⟨rfl, ?_⟩)) (by decide +kernel) ?_
  refine rf_R_call (pc := 9) (q := ([.ref rf_o, .int ((Int8.ofInt 42).toInt32)], [])) rp_30 rfl rfl (by decide) rp_11 rfl (Nat.le_of_ble_eq_true rfl) ⟨rfl, Nat.le_of_ble_eq_true rfl⟩ h (fun v s1 h => ?_)
  obtain ⟨r1, rfl, h⟩ := h
  refine rf_R_wv rp_30 (rf_bk am_t30 7 1) 12 [(0, .ref rf_o), (1, .int x1), (2, .int x2)] [.int r1] s1 (by repeat (first | exact trivial | refine ⟨rfl, ?_⟩)) (by decide +kernel) ?_
  refine rf_R_if (b := am_cnd .ne r1 0) (p := 33) (q := 15) (fun hb => ?_) (fun hb => ?_)
  · replace h := h.1 (of_decide_eq_true hb)
    exact rf_R_le (l := [(0, .ref rf_o), (1, .int x1), (2, .int x2)]) rfl rfl (⟨rfl, rfl, rfl, trivial⟩) (wr_product_33_ok h)
  · replace h := h.2 (Decidable.not_not.mp (of_decide_eq_false hb))
    refine rf_R_wv rp_30 (rf_bk am_t30 8 2) 15 [(0, .ref rf_o), (1, .int x1), (2, .int x2)] [] s1 (by repeat (first | exact trivial | refine ⟨rfl, ?_⟩)) (by decide +kernel) ?_
    refine rf_R_call (pc := 18) (q := ([.ref rf_o, .int ((Int8.ofInt 47).toInt32)], [])) rp_30 rfl rfl (by decide) rp_11 rfl (Nat.le_of_ble_eq_true rfl) ⟨rfl, Nat.le_of_ble_eq_true rfl⟩ h (fun v s2 h => ?_)
    obtain ⟨r2, rfl, h⟩ := h
    refine rf_R_wv rp_30 (rf_bk am_t30 11 1) 21 [(0, .ref rf_o), (1, .int x1), (2, .int x2)] [.int r2] s2 (by repeat (first | exact trivial | refine ⟨rfl, ?_⟩)) (by decide +kernel) ?_
    refine rf_R_if (b := am_cnd .ne r2 0) (p := 33) (q := 24) (fun hb => ?_) (fun hb => ?_)
    · replace h := h.1 (of_decide_eq_true hb)
      exact rf_R_le (l := [(0, .ref rf_o), (1, .int x1), (2, .int x2)]) rfl rfl (⟨rfl, rfl, rfl, trivial⟩) (wr_product_33_ok h)
    · replace h := h.2 (Decidable.not_not.mp (of_decide_eq_false hb))
      refine rf_R_wv rp_30 (rf_bk am_t30 12 2) 24 [(0, .ref rf_o), (1, .int x1), (2, .int x2)] [] s2 (by repeat (first | exact trivial | refine ⟨rfl, ?_⟩)) (by decide +kernel) ?_
      refine rf_R_call (pc := 27) (q := ([.ref rf_o, .int ((Int8.ofInt 37).toInt32)], [])) rp_30 rfl rfl (by decide) rp_11 rfl (Nat.le_of_ble_eq_true rfl) ⟨rfl, Nat.le_of_ble_eq_true rfl⟩ h (fun v s3 h => ?_)
      obtain ⟨r3, rfl, h⟩ := h
      refine rf_R_wv rp_30 (rf_bk am_t30 15 1) 30 [(0, .ref rf_o), (1, .int x1), (2, .int x2)] [.int r3] s3 (by repeat (first | exact trivial | refine ⟨rfl, ?_⟩)) (by decide +kernel) ?_
      refine rf_R_if (b := am_cnd .eq r3 0) (p := 74) (q := 33) (fun hb => ?_) (fun hb => ?_)
      · replace h := h.1 (of_decide_eq_true hb)
        refine rf_R_wv rp_30 (rf_bk am_t30 38 1) 74 [(0, .ref rf_o), (1, .int x1), (2, .int x2)] [] s3 (by repeat (first | exact trivial | refine ⟨rfl, ?_⟩)) (by decide +kernel) ?_
        exact rf_R_ret (pc := 75) (v := some (.int x2)) rp_30 rfl rfl rfl ⟨_, rfl, h⟩
      · replace h := h.2 (of_decide_eq_false hb)
        exact rf_R_le (l := [(0, .ref rf_o), (1, .int x1), (2, .int x2)]) rfl rfl (⟨rfl, rfl, rfl, trivial⟩) (wr_product_33_ok h)
/-- product (I)I, from 0 on -/
def wr_product (d : Nat) (x1 : Int32) (s : rf_S) (Q : Int32 → rf_S → Prop) : Prop := rf_I d 32 [(0, .ref rf_o), (1, .int x1)] s (fun r1 s1 => rf_R (d + 1) 30 (6, [(0, .ref rf_o), (1, .int x1), (2, .int r1)], [], s1) (rf_qI Q))
set_option maxRecDepth 20000 in
theorem wr_product_ok {d : Nat} {x1 : Int32} {s : rf_S} {Q : Int32 → rf_S → Prop} (h : wr_product d x1 s Q) : rf_I (d + 1) 30 [(0, .ref rf_o), (1, .int x1)] s Q := by
  unfold wr_product at h
  unfold rf_I
  refine rf_R_wv rp_30 (rf_bk am_t30 0 2) 0 [(0, .ref rf_o), (1, .int x1)] [] s (by repeat (first | exact trivial | refine ⟨rfl, ?_⟩)) (by decide +kernel) ?_
  refine rf_R_call (pc := 2) (q := ([.ref rf_o, .int x1], [])) rp_30 rfl rfl (by decide) rp_32 rfl (Nat.le_of_ble_eq_true rfl) ⟨rfl, Nat.le_of_ble_eq_true rfl⟩ h (fun v s1 h => ?_)
  obtain ⟨r1, rfl, h⟩ := h
  refine rf_R_wv rp_30 (rf_bk am_t30 3 1) 5 [(0, .ref rf_o), (1, .int x1)] [.int r1] s1 (by repeat (first | exact trivial | refine ⟨rfl, ?_⟩)) (by decide +kernel) ?_
  exact rf_R_le (l := [(0, .ref rf_o), (1, .int x1), (2, .int r1)]) rfl rfl (⟨rfl, rfl, rfl, trivial⟩) h
/-- beginsAtom ()Z, from 40 on -/
def wr_beginsAtom_40 (d : Nat) (s : rf_S) (Q : Int32 → rf_S → Prop) : Prop := Q (Int32.ofInt 1) s
set_option maxRecDepth 20000 in
theorem wr_beginsAtom_40_ok {d : Nat} {s : rf_S} {Q : Int32 → rf_S → Prop} (h : wr_beginsAtom_40 d s Q) : rf_R (d + 1) 31 (40, [], [], s) (rf_qI Q) := by
  unfold wr_beginsAtom_40 at h
  refine rf_R_wv rp_31 (rf_bk am_t31 19 2) 40 [] [] s (by repeat (first | exact trivial | refine ⟨rfl, ?_⟩)) (by decide +kernel) ?_
  exact rf_R_ret (pc := 45) (v := some (.int (Int32.ofInt 1))) rp_31 rfl rfl rfl ⟨_, rfl, h⟩
/-- beginsAtom ()Z, from 0 on -/
def wr_beginsAtom (d : Nat) (s : rf_S) (Q : Int32 → rf_S → Prop) : Prop := ((0 ≤ (s.1 9) → Q (Int32.ofInt 0) s) ∧ (¬ (0 ≤ (s.1 9)) → (((s.1 5) = (Int32.ofInt 2) → wr_beginsAtom_40 d s Q) ∧ (¬ ((s.1 5) = (Int32.ofInt 2)) → (((s.1 5) = (Int32.ofInt 3) → wr_beginsAtom_40 d s Q) ∧ (¬ ((s.1 5) = (Int32.ofInt 3)) → (((s.1 5) = (Int32.ofInt 4) → wr_beginsAtom_40 d s Q) ∧ (¬ ((s.1 5) = (Int32.ofInt 4)) → rf_I d 11 [(0, .ref rf_o), (1, .int ((Int8.ofInt 40).toInt32))] s (fun r1 s1 => ((r1 = 0 → Q (Int32.ofInt 0) s1) ∧ (¬ (r1 = 0) → wr_beginsAtom_40 d s1 Q)))))))))))
set_option maxRecDepth 20000 in
theorem wr_beginsAtom_ok {d : Nat} {s : rf_S} {Q : Int32 → rf_S → Prop} (h : wr_beginsAtom d s Q) : rf_I (d + 1) 31 [(0, .ref rf_o)] s Q := by
  unfold wr_beginsAtom at h
  unfold rf_I
  refine rf_R_wv rp_31 (rf_bk am_t31 0 3) 0 [(0, .ref rf_o)] [] s (by repeat (first | exact trivial | refine ⟨rfl, ?_⟩)) (by decide +kernel) ?_
  refine rf_R_if (b := am_cnd .ge (s.1 9) 0) (p := 44) (q := 7) (fun hb => ?_) (fun hb => ?_)
  · replace h := h.1 (of_decide_eq_true hb)
    refine rf_R_wv rp_31 (rf_bk am_t31 21 1) 44 [(0, .ref rf_o)] [] s (by repeat (first | exact trivial | refine ⟨rfl, ?_⟩)) (by decide +kernel) ?_
    exact rf_R_ret (pc := 45) (v := some (.int (Int32.ofInt 0))) rp_31 rfl rfl rfl ⟨_, rfl, h⟩
  · replace h := h.2 (of_decide_eq_false hb)
    refine rf_R_wv rp_31 (rf_bk am_t31 3 4) 7 [(0, .ref rf_o)] [] s (by repeat (first | exact trivial | refine ⟨rfl, ?_⟩)) (by decide +kernel) ?_
    refine rf_R_if (b := am_cnd .eq (s.1 5) (Int32.ofInt 2)) (p := 40) (q := 15) (fun hb => ?_) (fun hb => ?_)
    · replace h := h.1 (of_decide_eq_true hb)
      exact rf_R_le (l := []) rfl rfl trivial (wr_beginsAtom_40_ok h)
    · replace h := h.2 (of_decide_eq_false hb)
      refine rf_R_wv rp_31 (rf_bk am_t31 7 4) 15 [(0, .ref rf_o)] [] s (by repeat (first | exact trivial | refine ⟨rfl, ?_⟩)) (by decide +kernel) ?_
      refine rf_R_if (b := am_cnd .eq (s.1 5) (Int32.ofInt 3)) (p := 40) (q := 23) (fun hb => ?_) (fun hb => ?_)
      · replace h := h.1 (of_decide_eq_true hb)
        exact rf_R_le (l := []) rfl rfl trivial (wr_beginsAtom_40_ok h)
      · replace h := h.2 (of_decide_eq_false hb)
        refine rf_R_wv rp_31 (rf_bk am_t31 11 4) 23 [(0, .ref rf_o)] [] s (by repeat (first | exact trivial | refine ⟨rfl, ?_⟩)) (by decide +kernel) ?_
        refine rf_R_if (b := am_cnd .eq (s.1 5) (Int32.ofInt 4)) (p := 40) (q := 31) (fun hb => ?_) (fun hb => ?_)
        · replace h := h.1 (of_decide_eq_true hb)
          exact rf_R_le (l := []) rfl rfl trivial (wr_beginsAtom_40_ok h)
        · replace h := h.2 (of_decide_eq_false hb)
          refine rf_R_wv rp_31 (rf_bk am_t31 15 2) 31 [(0, .ref rf_o)] [] s (by repeat (first | exact trivial | refine ⟨rfl, ?_⟩)) (by decide +kernel) ?_
          refine rf_R_call (pc := 34) (q := ([.ref rf_o, .int ((Int8.ofInt 40).toInt32)], [])) rp_31 rfl rfl (by decide) rp_11 rfl (Nat.le_of_ble_eq_true rfl) ⟨rfl, Nat.le_of_ble_eq_true rfl⟩ h (fun v s1 h => ?_)
          obtain ⟨r1, rfl, h⟩ := h
          refine rf_R_wv rp_31 (rf_bk am_t31 18 1) 37 [(0, .ref rf_o)] [.int r1] s1 (by repeat (first | exact trivial | refine ⟨rfl, ?_⟩)) (by decide +kernel) ?_
          refine rf_R_if (b := am_cnd .eq r1 0) (p := 44) (q := 40) (fun hb => ?_) (fun hb => ?_)
          · replace h := h.1 (of_decide_eq_true hb)
            refine rf_R_wv rp_31 (rf_bk am_t31 21 1) 44 [(0, .ref rf_o)] [] s1 (by repeat (first | exact trivial | refine ⟨rfl, ?_⟩)) (by decide +kernel) ?_
            exact rf_R_ret (pc := 45) (v := some (.int (Int32.ofInt 0))) rp_31 rfl rfl rfl ⟨_, rfl, h⟩
          · replace h := h.2 (of_decide_eq_false hb)
            exact rf_R_le (l := []) rfl rfl trivial (wr_beginsAtom_40_ok h)
/-- call (I)I, from 44 on -/
def wr_call_44 (d : Nat) (x1 : Int32) (x2 : Int32) (x3 : Int32) (x4 : Int32) (s : rf_S) (Q : Int32 → rf_S → Prop) : Prop := rf_I d 31 [(0, .ref rf_o)] s (fun r1 s1 => ((r1 = 0 → (((s1.1 9) < 0 → ((x2 = 0 → rf_I d 16 [(0, .ref rf_o), (1, .int x4)] s1 (fun r2 s2 => rf_I d 14 [(0, .ref rf_o), (1, .int (Int32.ofInt 5)), (2, .int r2), (3, .int ((s1.1 18) - x4)), (4, .int (Int32.ofInt 0))] s2 (fun r3 s3 => Q r3 s3))) ∧ (¬ (x2 = 0) → rf_I d 16 [(0, .ref rf_o), (1, .int x4)] s1 (fun r4 s4 => (rf_in x3 2100 ∧ rf_I d 14 [(0, .ref rf_o), (1, .int (Int32.ofInt 4)), (2, .int r4), (3, .int ((s1.1 18) - x4)), (4, .int (s4.2.2.1 13 x3.toNatClampNeg))] s4 (fun r5 s5 => Q r5 s5)))))) ∧ (¬ ((s1.1 9) < 0) → Q (Int32.ofInt (-1)) s1))) ∧ (¬ (r1 = 0) → rf_I d 33 [(0, .ref rf_o), (1, .int x1)] s1 (fun r6 s6 => rf_V d 15 [(0, .ref rf_o), (1, .int r6)] s6 (fun s7 => rf_R (d + 1) 32 (44, [(0, .ref rf_o), (1, .int x1), (2, .int x2), (3, .int x3), (4, .int x4)], [], s7) (rf_qI Q))))))
set_option maxRecDepth 20000 in
theorem wr_call_44_ok {d : Nat} {x1 : Int32} {x2 : Int32} {x3 : Int32} {x4 : Int32} {s : rf_S} {Q : Int32 → rf_S → Prop} (h : wr_call_44 d x1 x2 x3 x4 s Q) : rf_R (d + 1) 32 (44, [(0, .ref rf_o), (1, .int x1), (2, .int x2), (3, .int x3), (4, .int x4)], [], s) (rf_qI Q) := by
  unfold wr_call_44 at h
  refine rf_R_wv rp_32 (rf_bk am_t32 25 1) 44 [(0, .ref rf_o), (1, .int x1), (2, .int x2), (3, .int x3), (4, .int x4)] [] s (by repeat (first | exact trivial | refine ⟨rfl, ?_⟩)) (by decide +kernel) ?_
  refine rf_R_call (pc := 45) (q := ([.ref rf_o], [])) rp_32 rfl rfl (by decide) rp_31 rfl (Nat.le_of_ble_eq_true rfl) ⟨rfl, Nat.le_of_ble_eq_true rfl⟩ h (fun v s1 h => ?_)
  obtain ⟨r1, rfl, h⟩ := h
  refine rf_R_wv rp_32 (rf_bk am_t32 27 1) 48 [(0, .ref rf_o), (1, .int x1), (2, .int x2), (3, .int x3), (4, .int x4)] [.int r1] s1 (by repeat (first | exact trivial | refine ⟨rfl, ?_⟩)) (by decide +kernel) ?_
  refine rf_R_if (b := am_cnd .eq r1 0) (p := 63) (q := 51) (fun hb => ?_) (fun hb => ?_)
  · replace h := h.1 (of_decide_eq_true hb)
    refine rf_R_wv rp_32 (rf_bk am_t32 34 3) 63 [(0, .ref rf_o), (1, .int x1), (2, .int x2), (3, .int x3), (4, .int x4)] [] s1 (by repeat (first | exact trivial | refine ⟨rfl, ?_⟩)) (by decide +kernel) ?_
    refine rf_R_if (b := am_cnd .lt (s1.1 9) 0) (p := 72) (q := 70) (fun hb => ?_) (fun hb => ?_)
    · replace h := h.1 (of_decide_eq_true hb)
      refine rf_R_wv rp_32 (rf_bk am_t32 39 7) 72 [(0, .ref rf_o), (1, .int x1), (2, .int x2), (3, .int x3), (4, .int x4)] [] s1 (by repeat (first | exact trivial | refine ⟨rfl, ?_⟩)) (by decide +kernel) ?_
      refine rf_R_if (b := am_cnd .eq x2 0) (p := 107) (q := 85) (fun hb => ?_) (fun hb => ?_)
      · replace h := h.1 (of_decide_eq_true hb)
        refine rf_R_wv rp_32 (rf_bk am_t32 58 4) 107 [(5, .int ((s1.1 18) - x4)), (0, .ref rf_o), (1, .int x1), (2, .int x2), (3, .int x3), (4, .int x4)] [] s1 (by repeat (first | exact trivial | refine ⟨rfl, ?_⟩)) (by decide +kernel) ?_
        refine rf_R_call (pc := 112) (q := ([.ref rf_o, .int x4], [.int (Int32.ofInt 5), .ref rf_o])) rp_32 rfl rfl (by decide) rp_16 rfl (Nat.le_of_ble_eq_true rfl) ⟨rfl, Nat.le_of_ble_eq_true rfl⟩ h (fun v s2 h => ?_)
        obtain ⟨r2, rfl, h⟩ := h
        refine rf_R_wv rp_32 (rf_bk am_t32 63 2) 115 [(5, .int ((s1.1 18) - x4)), (0, .ref rf_o), (1, .int x1), (2, .int x2), (3, .int x3), (4, .int x4)] [.int r2, .int (Int32.ofInt 5), .ref rf_o] s2 (by repeat (first | exact trivial | refine ⟨rfl, ?_⟩)) (by decide +kernel) ?_
        refine rf_R_call (pc := 118) (q := ([.ref rf_o, .int (Int32.ofInt 5), .int r2, .int ((s1.1 18) - x4), .int (Int32.ofInt 0)], [])) rp_32 rfl rfl (by decide) rp_14 rfl (Nat.le_of_ble_eq_true rfl) ⟨rfl, Nat.le_of_ble_eq_true rfl⟩ h (fun v s3 h => ?_)
        obtain ⟨r3, rfl, h⟩ := h
        exact rf_R_ret (pc := 121) (v := some (.int r3)) rp_32 rfl rfl rfl ⟨_, rfl, h⟩
      · replace h := h.2 (of_decide_eq_false hb)
        refine rf_R_wv rp_32 (rf_bk am_t32 46 4) 85 [(5, .int ((s1.1 18) - x4)), (0, .ref rf_o), (1, .int x1), (2, .int x2), (3, .int x3), (4, .int x4)] [] s1 (by repeat (first | exact trivial | refine ⟨rfl, ?_⟩)) (by decide +kernel) ?_
        refine rf_R_call (pc := 90) (q := ([.ref rf_o, .int x4], [.int (Int32.ofInt 4), .ref rf_o])) rp_32 rfl rfl (by decide) rp_16 rfl (Nat.le_of_ble_eq_true rfl) ⟨rfl, Nat.le_of_ble_eq_true rfl⟩ h (fun v s4 h => ?_)
        obtain ⟨r4, rfl, h⟩ := h
        refine rf_R_wv rp_32 (rf_bk am_t32 51 5) 93 [(5, .int ((s1.1 18) - x4)), (0, .ref rf_o), (1, .int x1), (2, .int x2), (3, .int x3), (4, .int x4)] [.int r4, .int (Int32.ofInt 4), .ref rf_o] s4 (by repeat (first | exact trivial | refine ⟨rfl, ?_⟩)) (by decide +kernel) ?_
        refine And.intro h.1 ?_
        replace h := h.2
        refine rf_R_call (pc := 101) (q := ([.ref rf_o, .int (Int32.ofInt 4), .int r4, .int ((s1.1 18) - x4), .int (s4.2.2.1 13 x3.toNatClampNeg)], [])) rp_32 rfl rfl (by decide) rp_14 rfl (Nat.le_of_ble_eq_true rfl) ⟨rfl, Nat.le_of_ble_eq_true rfl⟩ h (fun v s5 h => ?_)
        obtain ⟨r5, rfl, h⟩ := h
        refine rf_R_wv rp_32 (rf_bk am_t32 57 1) 104 [(5, .int ((s1.1 18) - x4)), (0, .ref rf_o), (1, .int x1), (2, .int x2), (3, .int x3), (4, .int x4)] [.int r5] s5 (by repeat (first | exact trivial | refine ⟨rfl, ?_⟩)) (by decide +kernel) ?_
        exact rf_R_ret (pc := 121) (v := some (.int r5)) rp_32 rfl rfl rfl ⟨_, rfl, h⟩
    · replace h := h.2 (of_decide_eq_false hb)
      refine rf_R_wv rp_32 (rf_bk am_t32 37 1) 70 [(0, .ref rf_o), (1, .int x1), (2, .int x2), (3, .int x3), (4, .int x4)] [] s1 (by repeat (first | exact trivial | refine ⟨rfl, ?_⟩)) (by decide +kernel) ?_
      exact rf_R_ret (pc := 71) (v := some (.int (Int32.ofInt (-1)))) rp_32 rfl rfl rfl ⟨_, rfl, h⟩
  · replace h := h.2 (of_decide_eq_false hb)
    refine rf_R_wv rp_32 (rf_bk am_t32 28 3) 51 [(0, .ref rf_o), (1, .int x1), (2, .int x2), (3, .int x3), (4, .int x4)] [] s1 (by repeat (first | exact trivial | refine ⟨rfl, ?_⟩)) (by decide +kernel) ?_
    refine rf_R_call (pc := 54) (q := ([.ref rf_o, .int x1], [.ref rf_o])) rp_32 rfl rfl (by decide) rp_33 rfl (Nat.le_of_ble_eq_true rfl) ⟨rfl, Nat.le_of_ble_eq_true rfl⟩ h (fun v s6 h => ?_)
    obtain ⟨r6, rfl, h⟩ := h
    refine rf_R_call (pc := 57) (q := ([.ref rf_o, .int r6], [])) rp_32 rfl rfl (by decide) rp_15 rfl (Nat.le_of_ble_eq_true rfl) ⟨rfl, Nat.le_of_ble_eq_true rfl⟩ h (fun v s7 h => ?_)
    obtain ⟨rfl, h⟩ := h
    refine rf_R_wv rp_32 (rf_bk am_t32 33 1) 60 [(0, .ref rf_o), (1, .int x1), (2, .int x2), (3, .int x3), (4, .int x4)] [] s7 (by repeat (first | exact trivial | refine ⟨rfl, ?_⟩)) (by decide +kernel) ?_
    exact rf_R_le (l := [(0, .ref rf_o), (1, .int x1), (2, .int x2), (3, .int x3), (4, .int x4)]) rfl rfl (⟨rfl, rfl, rfl, rfl, rfl, trivial⟩) h
/-- call (I)I, from 13 on -/
def wr_call_13 (d : Nat) (x1 : Int32) (y0 : Int32) (s : rf_S) (Q : Int32 → rf_S → Prop) : Prop := rf_I d 33 [(0, .ref rf_o), (1, .int x1)] s (fun r1 s1 => rf_I d 31 [(0, .ref rf_o)] s1 (fun r2 s2 => ((¬ r2 = 0 → ((¬ y0 = 0 → rf_R (d + 1) 32 (44, [(0, .ref rf_o), (1, .int x1), (2, .int y0), (3, .int r1), (4, .int (s2.1 18))], [], s2) (rf_qI Q)) ∧ (y0 = 0 → rf_V d 15 [(0, .ref rf_o), (1, .int r1)] s2 (fun s3 => rf_R (d + 1) 32 (44, [(0, .ref rf_o), (1, .int x1), (2, .int y0), (3, .int r1), (4, .int (s2.1 18))], [], s3) (rf_qI Q))))) ∧ (r2 = 0 → Q r1 s2))))
set_option maxRecDepth 20000 in
theorem wr_call_13_ok {d : Nat} {x1 : Int32} {y0 : Int32} {s : rf_S} {Q : Int32 → rf_S → Prop} (h : wr_call_13 d x1 y0 s Q) : rf_R (d + 1) 32 (13, [(0, .ref rf_o), (1, .int x1)], [.int y0], s) (rf_qI Q) := by
  unfold wr_call_13 at h
  refine rf_R_wv rp_32 (rf_bk am_t32 7 3) 13 [(0, .ref rf_o), (1, .int x1)] [.int y0] s (by repeat (first | exact trivial | refine ⟨rfl, ?_⟩)) (by decide +kernel) ?_
  refine rf_R_call (pc := 16) (q := ([.ref rf_o, .int x1], [])) rp_32 rfl rfl (by decide) rp_33 rfl (Nat.le_of_ble_eq_true rfl) ⟨rfl, Nat.le_of_ble_eq_true rfl⟩ h (fun v s1 h => ?_)
  obtain ⟨r1, rfl, h⟩ := h
  refine rf_R_wv rp_32 (rf_bk am_t32 11 2) 19 [(2, .int y0), (0, .ref rf_o), (1, .int x1)] [.int r1] s1 (by repeat (first | exact trivial | refine ⟨rfl, ?_⟩)) (by decide +kernel) ?_
  refine rf_R_call (pc := 21) (q := ([.ref rf_o], [])) rp_32 rfl rfl (by decide) rp_31 rfl (Nat.le_of_ble_eq_true rfl) ⟨rfl, Nat.le_of_ble_eq_true rfl⟩ h (fun v s2 h => ?_)
  obtain ⟨r2, rfl, h⟩ := h
  refine rf_R_wv rp_32 (rf_bk am_t32 14 1) 24 [(3, .int r1), (2, .int y0), (0, .ref rf_o), (1, .int x1)] [.int r2] s2 (by repeat (first | exact trivial | refine ⟨rfl, ?_⟩)) (by decide +kernel) ?_
  refine rf_R_if (b := am_cnd .ne r2 0) (p := 29) (q := 27) (fun hb => ?_) (fun hb => ?_)
  · replace h := h.1 (of_decide_eq_true hb)
    refine rf_R_wv rp_32 (rf_bk am_t32 17 5) 29 [(3, .int r1), (2, .int y0), (0, .ref rf_o), (1, .int x1)] [] s2 (by repeat (first | exact trivial | refine ⟨rfl, ?_⟩)) (by decide +kernel) ?_
    refine rf_R_if (b := am_cnd .ne y0 0) (p := 44) (q := 39) (fun hb => ?_) (fun hb => ?_)
    · replace h := h.1 (of_decide_eq_true hb)
      exact rf_R_le (l := [(0, .ref rf_o), (1, .int x1), (2, .int y0), (3, .int r1), (4, .int (s2.1 18))]) rfl rfl (⟨rfl, rfl, rfl, rfl, rfl, trivial⟩) h
    · replace h := h.2 (Decidable.not_not.mp (of_decide_eq_false hb))
      refine rf_R_wv rp_32 (rf_bk am_t32 22 2) 39 [(4, .int (s2.1 18)), (3, .int r1), (2, .int y0), (0, .ref rf_o), (1, .int x1)] [] s2 (by repeat (first | exact trivial | refine ⟨rfl, ?_⟩)) (by decide +kernel) ?_
      refine rf_R_call (pc := 41) (q := ([.ref rf_o, .int r1], [])) rp_32 rfl rfl (by decide) rp_15 rfl (Nat.le_of_ble_eq_true rfl) ⟨rfl, Nat.le_of_ble_eq_true rfl⟩ h (fun v s3 h => ?_)
      obtain ⟨rfl, h⟩ := h
      exact rf_R_le (l := [(0, .ref rf_o), (1, .int x1), (2, .int y0), (3, .int r1), (4, .int (s2.1 18))]) rfl rfl (⟨rfl, rfl, rfl, rfl, rfl, trivial⟩) h
  · replace h := h.2 (Decidable.not_not.mp (of_decide_eq_false hb))
    refine rf_R_wv rp_32 (rf_bk am_t32 15 1) 27 [(3, .int r1), (2, .int y0), (0, .ref rf_o), (1, .int x1)] [] s2 (by repeat (first | exact trivial | refine ⟨rfl, ?_⟩)) (by decide +kernel) ?_
    exact rf_R_ret (pc := 28) (v := some (.int r1)) rp_32 rfl rfl rfl ⟨_, rfl, h⟩
/-- call (I)I, from 0 on -/
def wr_call (d : Nat) (x1 : Int32) (s : rf_S) (Q : Int32 → rf_S → Prop) : Prop := ((¬ (s.1 5) = (Int32.ofInt 3) → wr_call_13 d x1 (Int32.ofInt 0) s Q) ∧ ((s.1 5) = (Int32.ofInt 3) → wr_call_13 d x1 (Int32.ofInt 1) s Q))
set_option maxRecDepth 20000 in
theorem wr_call_ok {d : Nat} {x1 : Int32} {s : rf_S} {Q : Int32 → rf_S → Prop} (h : wr_call d x1 s Q) : rf_I (d + 1) 32 [(0, .ref rf_o), (1, .int x1)] s Q := by
  unfold wr_call at h
  unfold rf_I
  refine rf_R_wv rp_32 (rf_bk am_t32 0 4) 0 [(0, .ref rf_o), (1, .int x1)] [] s (by repeat (first | exact trivial | refine ⟨rfl, ?_⟩)) (by decide +kernel) ?_
  refine rf_R_if (b := am_cnd .ne (s.1 5) (Int32.ofInt 3)) (p := 12) (q := 8) (fun hb => ?_) (fun hb => ?_)
  · replace h := h.1 (of_decide_eq_true hb)
    refine rf_R_wv rp_32 (rf_bk am_t32 6 1) 12 [(0, .ref rf_o), (1, .int x1)] [] s (by repeat (first | exact trivial | refine ⟨rfl, ?_⟩)) (by decide +kernel) ?_
    exact rf_R_le (l := [(0, .ref rf_o), (1, .int x1)]) rfl rfl (⟨rfl, rfl, trivial⟩) (wr_call_13_ok h)
  · replace h := h.2 (Decidable.not_not.mp (of_decide_eq_false hb))
    refine rf_R_wv rp_32 (rf_bk am_t32 4 2) 8 [(0, .ref rf_o), (1, .int x1)] [] s (by repeat (first | exact trivial | refine ⟨rfl, ?_⟩)) (by decide +kernel) ?_
    exact rf_R_le (l := [(0, .ref rf_o), (1, .int x1)]) rfl rfl (⟨rfl, rfl, trivial⟩) (wr_call_13_ok h)
/-- atom (I)I, from 0 on -/
def wr_atom (d : Nat) (x1 : Int32) (s : rf_S) (Q : Int32 → rf_S → Prop) : Prop := rf_I d 31 [(0, .ref rf_o)] s (fun r1 s1 => ((¬ r1 = 0 → ((¬ (s1.1 5) = (Int32.ofInt 2) → ((¬ (s1.1 5) = (Int32.ofInt 3) → ((¬ (s1.1 5) = (Int32.ofInt 4) → rf_I d 13 [(0, .ref rf_o)] s1 (fun r2 s2 => ((¬ r2 = 0 → rf_I d 22 [(0, .ref rf_o), (1, .int x1)] s2 (fun r3 s3 => rf_I d 11 [(0, .ref rf_o), (1, .int ((Int8.ofInt 41).toInt32))] s3 (fun r4 s4 => rf_I d 12 [(0, .ref rf_o), (1, .int r4)] s4 (fun r5 s5 => ((¬ r5 = 0 → Q r3 (rf_si s5 10 ((s5.1 10) - (Int32.ofInt 1)))) ∧ (r5 = 0 → Q (Int32.ofInt (-1)) s5)))))) ∧ (r2 = 0 → Q (Int32.ofInt (-1)) s2)))) ∧ ((s1.1 5) = (Int32.ofInt 4) → rf_I d 14 [(0, .ref rf_o), (1, .int (Int32.ofInt 1)), (2, .int (s1.1 8)), (3, .int (Int32.ofInt 0)), (4, .int (Int32.ofInt 0))] s1 (fun r6 s6 => rf_V d 9 [(0, .ref rf_o)] s6 (fun s7 => Q r6 s7))))) ∧ ((s1.1 5) = (Int32.ofInt 3) → rf_I d 21 [(0, .ref rf_o)] s1 (fun r8 s8 => rf_I d 14 [(0, .ref rf_o), (1, .int (Int32.ofInt 2)), (2, .int r8), (3, .int (Int32.ofInt 0)), (4, .int (Int32.ofInt 0))] s8 (fun r9 s9 => rf_V d 9 [(0, .ref rf_o)] s9 (fun s10 => Q r9 s10)))))) ∧ ((s1.1 5) = (Int32.ofInt 2) → rf_I d 14 [(0, .ref rf_o), (1, .int (Int32.ofInt 0)), (2, .int (Int32.ofInt 0)), (3, .int (Int32.ofInt 0)), (4, .int (Int32.ofInt 0))] s1 (fun r11 s11 => (rf_in (s11.1 30) 1100 ∧ (rf_in (s11.1 30) 1100 ∧ (rf_in (s11.1 30) 1100 ∧ (rf_in (s11.1 30) 1100 ∧ rf_V d 9 [(0, .ref rf_o)] (rf_si (rf_sb (rf_sb (rf_sb (rf_sb s11 31 (s11.1 30).toNatClampNeg r11) 32 (s11.1 30).toNatClampNeg x1) 33 (s11.1 30).toNatClampNeg (s11.1 6)) 34 (s11.1 30).toNatClampNeg (s11.1 7)) 30 ((s11.1 30) + (Int32.ofInt 1))) (fun s12 => Q r11 s12))))))))) ∧ (r1 = 0 → rf_I d 10 [(0, .ref rf_o), (1, .int (s1.1 6))] s1 (fun r13 s13 => Q (Int32.ofInt (-1)) s13))))
set_option maxRecDepth 20000 in
theorem wr_atom_ok {d : Nat} {x1 : Int32} {s : rf_S} {Q : Int32 → rf_S → Prop} (h : wr_atom d x1 s Q) : rf_I (d + 1) 33 [(0, .ref rf_o), (1, .int x1)] s Q := by
  unfold wr_atom at h
  unfold rf_I
  refine rf_R_wv rp_33 (rf_bk am_t33 0 1) 0 [(0, .ref rf_o), (1, .int x1)] [] s (by repeat (first | exact trivial | refine ⟨rfl, ?_⟩)) (by decide +kernel) ?_
  refine rf_R_call (pc := 1) (q := ([.ref rf_o], [])) rp_33 rfl rfl (by decide) rp_31 rfl (Nat.le_of_ble_eq_true rfl) ⟨rfl, Nat.le_of_ble_eq_true rfl⟩ h (fun v s1 h => ?_)
  obtain ⟨r1, rfl, h⟩ := h
  refine rf_R_wv rp_33 (rf_bk am_t33 2 1) 4 [(0, .ref rf_o), (1, .int x1)] [.int r1] s1 (by repeat (first | exact trivial | refine ⟨rfl, ?_⟩)) (by decide +kernel) ?_
  refine rf_R_if (b := am_cnd .ne r1 0) (p := 18) (q := 7) (fun hb => ?_) (fun hb => ?_)
  · replace h := h.1 (of_decide_eq_true hb)
    refine rf_R_wv rp_33 (rf_bk am_t33 10 4) 18 [(0, .ref rf_o), (1, .int x1)] [] s1 (by repeat (first | exact trivial | refine ⟨rfl, ?_⟩)) (by decide +kernel) ?_
    refine rf_R_if (b := am_cnd .ne (s1.1 5) (Int32.ofInt 2)) (p := 98) (q := 26) (fun hb => ?_) (fun hb => ?_)
    · replace h := h.1 (of_decide_eq_true hb)
      refine rf_R_wv rp_33 (rf_bk am_t33 56 4) 98 [(0, .ref rf_o), (1, .int x1)] [] s1 (by repeat (first | exact trivial | refine ⟨rfl, ?_⟩)) (by decide +kernel) ?_
      refine rf_R_if (b := am_cnd .ne (s1.1 5) (Int32.ofInt 3)) (p := 125) (q := 106) (fun hb => ?_) (fun hb => ?_)
      · replace h := h.1 (of_decide_eq_true hb)
        refine rf_R_wv rp_33 (rf_bk am_t33 71 4) 125 [(0, .ref rf_o), (1, .int x1)] [] s1 (by repeat (first | exact trivial | refine ⟨rfl, ?_⟩)) (by decide +kernel) ?_
        refine rf_R_if (b := am_cnd .ne (s1.1 5) (Int32.ofInt 4)) (p := 152) (q := 133) (fun hb => ?_) (fun hb => ?_)
        · replace h := h.1 (of_decide_eq_true hb)
          refine rf_R_wv rp_33 (rf_bk am_t33 86 1) 152 [(0, .ref rf_o), (1, .int x1)] [] s1 (by repeat (first | exact trivial | refine ⟨rfl, ?_⟩)) (by decide +kernel) ?_
          refine rf_R_call (pc := 153) (q := ([.ref rf_o], [])) rp_33 rfl rfl (by decide) rp_13 rfl (Nat.le_of_ble_eq_true rfl) ⟨rfl, Nat.le_of_ble_eq_true rfl⟩ h (fun v s2 h => ?_)
          obtain ⟨r2, rfl, h⟩ := h
          refine rf_R_wv rp_33 (rf_bk am_t33 88 1) 156 [(0, .ref rf_o), (1, .int x1)] [.int r2] s2 (by repeat (first | exact trivial | refine ⟨rfl, ?_⟩)) (by decide +kernel) ?_
          refine rf_R_if (b := am_cnd .ne r2 0) (p := 161) (q := 159) (fun hb => ?_) (fun hb => ?_)
          · replace h := h.1 (of_decide_eq_true hb)
            refine rf_R_wv rp_33 (rf_bk am_t33 91 2) 161 [(0, .ref rf_o), (1, .int x1)] [] s2 (by repeat (first | exact trivial | refine ⟨rfl, ?_⟩)) (by decide +kernel) ?_
            refine rf_R_call (pc := 163) (q := ([.ref rf_o, .int x1], [])) rp_33 rfl rfl (by decide) rp_22 rfl (Nat.le_of_ble_eq_true rfl) ⟨rfl, Nat.le_of_ble_eq_true rfl⟩ h (fun v s3 h => ?_)
            obtain ⟨r3, rfl, h⟩ := h
            refine rf_R_wv rp_33 (rf_bk am_t33 94 4) 166 [(0, .ref rf_o), (1, .int x1)] [.int r3] s3 (by repeat (first | exact trivial | refine ⟨rfl, ?_⟩)) (by decide +kernel) ?_
            refine rf_R_call (pc := 171) (q := ([.ref rf_o, .int ((Int8.ofInt 41).toInt32)], [.ref rf_o])) rp_33 rfl rfl (by decide) rp_11 rfl (Nat.le_of_ble_eq_true rfl) ⟨rfl, Nat.le_of_ble_eq_true rfl⟩ h (fun v s4 h => ?_)
            obtain ⟨r4, rfl, h⟩ := h
            refine rf_R_call (pc := 174) (q := ([.ref rf_o, .int r4], [])) rp_33 rfl rfl (by decide) rp_12 rfl (Nat.le_of_ble_eq_true rfl) ⟨rfl, Nat.le_of_ble_eq_true rfl⟩ h (fun v s5 h => ?_)
            obtain ⟨r5, rfl, h⟩ := h
            refine rf_R_wv rp_33 (rf_bk am_t33 100 1) 177 [(2, .int r3), (0, .ref rf_o), (1, .int x1)] [.int r5] s5 (by repeat (first | exact trivial | refine ⟨rfl, ?_⟩)) (by decide +kernel) ?_
            refine rf_R_if (b := am_cnd .ne r5 0) (p := 182) (q := 180) (fun hb => ?_) (fun hb => ?_)
            · replace h := h.1 (of_decide_eq_true hb)
              refine rf_R_wv rp_33 (rf_bk am_t33 103 6) 182 [(2, .int r3), (0, .ref rf_o), (1, .int x1)] [] s5 (by repeat (first | exact trivial | refine ⟨rfl, ?_⟩)) (by decide +kernel) ?_
              refine And.intro rfl ?_
              refine rf_R_wv rp_33 (rf_bk am_t33 109 1) 192 [(2, .int r3), (0, .ref rf_o), (1, .int x1)] [] (rf_si s5 10 ((s5.1 10) - (Int32.ofInt 1))) (by repeat (first | exact trivial | refine ⟨rfl, ?_⟩)) (by decide +kernel) ?_
              exact rf_R_ret (pc := 193) (v := some (.int r3)) rp_33 rfl rfl rfl ⟨_, rfl, h⟩
            · replace h := h.2 (Decidable.not_not.mp (of_decide_eq_false hb))
              refine rf_R_wv rp_33 (rf_bk am_t33 101 1) 180 [(2, .int r3), (0, .ref rf_o), (1, .int x1)] [] s5 (by repeat (first | exact trivial | refine ⟨rfl, ?_⟩)) (by decide +kernel) ?_
              exact rf_R_ret (pc := 181) (v := some (.int (Int32.ofInt (-1)))) rp_33 rfl rfl rfl ⟨_, rfl, h⟩
          · replace h := h.2 (Decidable.not_not.mp (of_decide_eq_false hb))
            refine rf_R_wv rp_33 (rf_bk am_t33 89 1) 159 [(0, .ref rf_o), (1, .int x1)] [] s2 (by repeat (first | exact trivial | refine ⟨rfl, ?_⟩)) (by decide +kernel) ?_
            exact rf_R_ret (pc := 160) (v := some (.int (Int32.ofInt (-1)))) rp_33 rfl rfl rfl ⟨_, rfl, h⟩
        · replace h := h.2 (Decidable.not_not.mp (of_decide_eq_false hb))
          refine rf_R_wv rp_33 (rf_bk am_t33 75 6) 133 [(0, .ref rf_o), (1, .int x1)] [] s1 (by repeat (first | exact trivial | refine ⟨rfl, ?_⟩)) (by decide +kernel) ?_
          refine rf_R_call (pc := 141) (q := ([.ref rf_o, .int (Int32.ofInt 1), .int (s1.1 8), .int (Int32.ofInt 0), .int (Int32.ofInt 0)], [])) rp_33 rfl rfl (by decide) rp_14 rfl (Nat.le_of_ble_eq_true rfl) ⟨rfl, Nat.le_of_ble_eq_true rfl⟩ h (fun v s6 h => ?_)
          obtain ⟨r6, rfl, h⟩ := h
          refine rf_R_wv rp_33 (rf_bk am_t33 82 2) 144 [(0, .ref rf_o), (1, .int x1)] [.int r6] s6 (by repeat (first | exact trivial | refine ⟨rfl, ?_⟩)) (by decide +kernel) ?_
          refine rf_R_call (pc := 146) (q := ([.ref rf_o], [])) rp_33 rfl rfl (by decide) rp_9 rfl (Nat.le_of_ble_eq_true rfl) ⟨rfl, Nat.le_of_ble_eq_true rfl⟩ h (fun v s7 h => ?_)
          obtain ⟨rfl, h⟩ := h
          refine rf_R_wv rp_33 (rf_bk am_t33 85 1) 149 [(2, .int r6), (0, .ref rf_o), (1, .int x1)] [] s7 (by repeat (first | exact trivial | refine ⟨rfl, ?_⟩)) (by decide +kernel) ?_
          refine rf_R_wv rp_33 (rf_bk am_t33 109 1) 192 [(2, .int r6), (0, .ref rf_o), (1, .int x1)] [] s7 (by repeat (first | exact trivial | refine ⟨rfl, ?_⟩)) (by decide +kernel) ?_
          exact rf_R_ret (pc := 193) (v := some (.int r6)) rp_33 rfl rfl rfl ⟨_, rfl, h⟩
      · replace h := h.2 (Decidable.not_not.mp (of_decide_eq_false hb))
        refine rf_R_wv rp_33 (rf_bk am_t33 60 3) 106 [(0, .ref rf_o), (1, .int x1)] [] s1 (by repeat (first | exact trivial | refine ⟨rfl, ?_⟩)) (by decide +kernel) ?_
        refine rf_R_call (pc := 109) (q := ([.ref rf_o], [.int (Int32.ofInt 2), .ref rf_o])) rp_33 rfl rfl (by decide) rp_21 rfl (Nat.le_of_ble_eq_true rfl) ⟨rfl, Nat.le_of_ble_eq_true rfl⟩ h (fun v s8 h => ?_)
        obtain ⟨r8, rfl, h⟩ := h
        refine rf_R_wv rp_33 (rf_bk am_t33 64 2) 112 [(0, .ref rf_o), (1, .int x1)] [.int r8, .int (Int32.ofInt 2), .ref rf_o] s8 (by repeat (first | exact trivial | refine ⟨rfl, ?_⟩)) (by decide +kernel) ?_
        refine rf_R_call (pc := 114) (q := ([.ref rf_o, .int (Int32.ofInt 2), .int r8, .int (Int32.ofInt 0), .int (Int32.ofInt 0)], [])) rp_33 rfl rfl (by decide) rp_14 rfl (Nat.le_of_ble_eq_true rfl) ⟨rfl, Nat.le_of_ble_eq_true rfl⟩ h (fun v s9 h => ?_)
        obtain ⟨r9, rfl, h⟩ := h
        refine rf_R_wv rp_33 (rf_bk am_t33 67 2) 117 [(0, .ref rf_o), (1, .int x1)] [.int r9] s9 (by repeat (first | exact trivial | refine ⟨rfl, ?_⟩)) (by decide +kernel) ?_
        refine rf_R_call (pc := 119) (q := ([.ref rf_o], [])) rp_33 rfl rfl (by decide) rp_9 rfl (Nat.le_of_ble_eq_true rfl) ⟨rfl, Nat.le_of_ble_eq_true rfl⟩ h (fun v s10 h => ?_)
        obtain ⟨rfl, h⟩ := h
        refine rf_R_wv rp_33 (rf_bk am_t33 70 1) 122 [(2, .int r9), (0, .ref rf_o), (1, .int x1)] [] s10 (by repeat (first | exact trivial | refine ⟨rfl, ?_⟩)) (by decide +kernel) ?_
        refine rf_R_wv rp_33 (rf_bk am_t33 109 1) 192 [(2, .int r9), (0, .ref rf_o), (1, .int x1)] [] s10 (by repeat (first | exact trivial | refine ⟨rfl, ?_⟩)) (by decide +kernel) ?_
        exact rf_R_ret (pc := 193) (v := some (.int r9)) rp_33 rfl rfl rfl ⟨_, rfl, h⟩
    · replace h := h.2 (Decidable.not_not.mp (of_decide_eq_false hb))
      refine rf_R_wv rp_33 (rf_bk am_t33 14 5) 26 [(0, .ref rf_o), (1, .int x1)] [] s1 (by repeat (first | exact trivial | refine ⟨rfl, ?_⟩)) (by decide +kernel) ?_
      refine rf_R_call (pc := 31) (q := ([.ref rf_o, .int (Int32.ofInt 0), .int (Int32.ofInt 0), .int (Int32.ofInt 0), .int (Int32.ofInt 0)], [])) rp_33 rfl rfl (by decide) rp_14 rfl (Nat.le_of_ble_eq_true rfl) ⟨rfl, Nat.le_of_ble_eq_true rfl⟩ h (fun v s11 h => ?_)
      obtain ⟨r11, rfl, h⟩ := h
      refine rf_R_wv rp_33 (rf_bk am_t33 20 7) 34 [(0, .ref rf_o), (1, .int x1)] [.int r11] s11 (by repeat (first | exact trivial | refine ⟨rfl, ?_⟩)) (by decide +kernel) ?_
      refine And.intro h.1 ?_
      replace h := h.2
      refine rf_R_wv rp_33 (rf_bk am_t33 27 6) 45 [(2, .int r11), (0, .ref rf_o), (1, .int x1)] [] (rf_sb s11 31 (s11.1 30).toNatClampNeg r11) (by repeat (first | exact trivial | refine ⟨rfl, ?_⟩)) (by decide +kernel) ?_
      refine And.intro h.1 ?_
      replace h := h.2
      refine rf_R_wv rp_33 (rf_bk am_t33 33 7) 55 [(2, .int r11), (0, .ref rf_o), (1, .int x1)] [] (rf_sb (rf_sb s11 31 (s11.1 30).toNatClampNeg r11) 32 (s11.1 30).toNatClampNeg x1) (by repeat (first | exact trivial | refine ⟨rfl, ?_⟩)) (by decide +kernel) ?_
      refine And.intro h.1 ?_
      replace h := h.2
      refine rf_R_wv rp_33 (rf_bk am_t33 40 7) 68 [(2, .int r11), (0, .ref rf_o), (1, .int x1)] [] (rf_sb (rf_sb (rf_sb s11 31 (s11.1 30).toNatClampNeg r11) 32 (s11.1 30).toNatClampNeg x1) 33 (s11.1 30).toNatClampNeg (s11.1 6)) (by repeat (first | exact trivial | refine ⟨rfl, ?_⟩)) (by decide +kernel) ?_
      refine And.intro h.1 ?_
      replace h := h.2
      refine rf_R_wv rp_33 (rf_bk am_t33 47 6) 81 [(2, .int r11), (0, .ref rf_o), (1, .int x1)] [] (rf_sb (rf_sb (rf_sb (rf_sb s11 31 (s11.1 30).toNatClampNeg r11) 32 (s11.1 30).toNatClampNeg x1) 33 (s11.1 30).toNatClampNeg (s11.1 6)) 34 (s11.1 30).toNatClampNeg (s11.1 7)) (by repeat (first | exact trivial | refine ⟨rfl, ?_⟩)) (by decide +kernel) ?_
      refine And.intro rfl ?_
      refine rf_R_wv rp_33 (rf_bk am_t33 53 1) 91 [(2, .int r11), (0, .ref rf_o), (1, .int x1)] [] (rf_si (rf_sb (rf_sb (rf_sb (rf_sb s11 31 (s11.1 30).toNatClampNeg r11) 32 (s11.1 30).toNatClampNeg x1) 33 (s11.1 30).toNatClampNeg (s11.1 6)) 34 (s11.1 30).toNatClampNeg (s11.1 7)) 30 ((s11.1 30) + (Int32.ofInt 1))) (by repeat (first | exact trivial | refine ⟨rfl, ?_⟩)) (by decide +kernel) ?_
      refine rf_R_call (pc := 92) (q := ([.ref rf_o], [])) rp_33 rfl rfl (by decide) rp_9 rfl (Nat.le_of_ble_eq_true rfl) ⟨rfl, Nat.le_of_ble_eq_true rfl⟩ h (fun v s12 h => ?_)
      obtain ⟨rfl, h⟩ := h
      refine rf_R_wv rp_33 (rf_bk am_t33 55 1) 95 [(2, .int r11), (0, .ref rf_o), (1, .int x1)] [] s12 (by repeat (first | exact trivial | refine ⟨rfl, ?_⟩)) (by decide +kernel) ?_
      refine rf_R_wv rp_33 (rf_bk am_t33 109 1) 192 [(2, .int r11), (0, .ref rf_o), (1, .int x1)] [] s12 (by repeat (first | exact trivial | refine ⟨rfl, ?_⟩)) (by decide +kernel) ?_
      exact rf_R_ret (pc := 193) (v := some (.int r11)) rp_33 rfl rfl rfl ⟨_, rfl, h⟩
  · replace h := h.2 (Decidable.not_not.mp (of_decide_eq_false hb))
    refine rf_R_wv rp_33 (rf_bk am_t33 3 3) 7 [(0, .ref rf_o), (1, .int x1)] [] s1 (by repeat (first | exact trivial | refine ⟨rfl, ?_⟩)) (by decide +kernel) ?_
    refine rf_R_call (pc := 12) (q := ([.ref rf_o, .int (s1.1 6)], [])) rp_33 rfl rfl (by decide) rp_10 rfl (Nat.le_of_ble_eq_true rfl) ⟨rfl, Nat.le_of_ble_eq_true rfl⟩ h (fun v s13 h => ?_)
    obtain ⟨r13, rfl, h⟩ := h
    refine rf_R_wv rp_33 (rf_bk am_t33 7 2) 15 [(0, .ref rf_o), (1, .int x1)] [.int r13] s13 (by repeat (first | exact trivial | refine ⟨rfl, ?_⟩)) (by decide +kernel) ?_
    exact rf_R_ret (pc := 17) (v := some (.int (Int32.ofInt (-1)))) rp_33 rfl rfl rfl ⟨_, rfl, h⟩
/-- definition ()V, from 213 on -/
def wr_definition_213 (d : Nat) (y0 : Int32) (y1 : Int32) (s : rf_S) (Q : rf_S → Prop) : Prop := (rf_in y1 700 ∧ rf_I d 11 [(0, .ref rf_o), (1, .int ((Int8.ofInt 59).toInt32))] (rf_sb s 46 y1.toNatClampNeg y0) (fun r1 s1 => rf_I d 12 [(0, .ref rf_o), (1, .int r1)] s1 (fun r2 s2 => Q s2)))
set_option maxRecDepth 20000 in
theorem wr_definition_213_ok {d : Nat} {y0 : Int32} {y1 : Int32} {s : rf_S} {Q : rf_S → Prop} (h : wr_definition_213 d y0 y1 s Q) : rf_R (d + 1) 34 (213, [(0, .ref rf_o)], [.int y0, .int y1, .ref (rf_ad 46)], s) (rf_qV Q) := by
  unfold wr_definition_213 at h
  refine rf_R_wv rp_34 (rf_bk am_t34 118 1) 213 [(0, .ref rf_o)] [.int y0, .int y1, .ref (rf_ad 46)] s (by repeat (first | exact trivial | refine ⟨rfl, ?_⟩)) (by decide +kernel) ?_
  refine And.intro h.1 ?_
  replace h := h.2
  refine rf_R_wv rp_34 (rf_bk am_t34 119 3) 214 [(0, .ref rf_o)] [] (rf_sb s 46 y1.toNatClampNeg y0) (by repeat (first | exact trivial | refine ⟨rfl, ?_⟩)) (by decide +kernel) ?_
  refine rf_R_call (pc := 218) (q := ([.ref rf_o, .int ((Int8.ofInt 59).toInt32)], [.ref rf_o])) rp_34 rfl rfl (by decide) rp_11 rfl (Nat.le_of_ble_eq_true rfl) ⟨rfl, Nat.le_of_ble_eq_true rfl⟩ h (fun v s1 h => ?_)
  obtain ⟨r1, rfl, h⟩ := h
  refine rf_R_call (pc := 221) (q := ([.ref rf_o, .int r1], [])) rp_34 rfl rfl (by decide) rp_12 rfl (Nat.le_of_ble_eq_true rfl) ⟨rfl, Nat.le_of_ble_eq_true rfl⟩ h (fun v s2 h => ?_)
  obtain ⟨r2, rfl, h⟩ := h
  refine rf_R_wv rp_34 (rf_bk am_t34 124 1) 224 [(0, .ref rf_o)] [.int r2] s2 (by repeat (first | exact trivial | refine ⟨rfl, ?_⟩)) (by decide +kernel) ?_
  exact rf_R_ret (pc := 226) rp_34 rfl rfl rfl ⟨rfl, h⟩
/-- definition ()V, from 198 on -/
def wr_definition_198 (d : Nat) (x1 : Int32) (y0 : Int32) (y2 : Int32) (s : rf_S) (Q : rf_S → Prop) : Prop := rf_I d 12 [(0, .ref rf_o), (1, .int y0)] s (fun r1 s1 => ((r1 = 0 → wr_definition_213 d (Int32.ofInt (-1)) y2 s1 Q) ∧ (¬ (r1 = 0) → rf_I d 22 [(0, .ref rf_o), (1, .int x1)] s1 (fun r2 s2 => wr_definition_213 d r2 y2 s2 Q))))
set_option maxRecDepth 20000 in
theorem wr_definition_198_ok {d : Nat} {x1 : Int32} {y0 : Int32} {y2 : Int32} {s : rf_S} {Q : rf_S → Prop} (h : wr_definition_198 d x1 y0 y2 s Q) : rf_R (d + 1) 34 (198, [(0, .ref rf_o), (1, .int x1)], [.int y0, .ref rf_o, .int y2, .ref (rf_ad 46)], s) (rf_qV Q) := by
  unfold wr_definition_198 at h
  refine rf_R_call (pc := 198) (q := ([.ref rf_o, .int y0], [.int y2, .ref (rf_ad 46)])) rp_34 rfl rfl (by decide) rp_12 rfl (Nat.le_of_ble_eq_true rfl) ⟨rfl, Nat.le_of_ble_eq_true rfl⟩ h (fun v s1 h => ?_)
  obtain ⟨r1, rfl, h⟩ := h
  refine rf_R_wv rp_34 (rf_bk am_t34 112 1) 201 [(0, .ref rf_o), (1, .int x1)] [.int r1, .int y2, .ref (rf_ad 46)] s1 (by repeat (first | exact trivial | refine ⟨rfl, ?_⟩)) (by decide +kernel) ?_
  refine rf_R_if (b := am_cnd .eq r1 0) (p := 212) (q := 204) (fun hb => ?_) (fun hb => ?_)
  · replace h := h.1 (of_decide_eq_true hb)
    refine rf_R_wv rp_34 (rf_bk am_t34 117 1) 212 [(0, .ref rf_o), (1, .int x1)] [.int y2, .ref (rf_ad 46)] s1 (by repeat (first | exact trivial | refine ⟨rfl, ?_⟩)) (by decide +kernel) ?_
    exact rf_R_le (l := [(0, .ref rf_o)]) rfl rfl (⟨rfl, trivial⟩) (wr_definition_213_ok h)
  · replace h := h.2 (of_decide_eq_false hb)
    refine rf_R_wv rp_34 (rf_bk am_t34 113 2) 204 [(0, .ref rf_o), (1, .int x1)] [.int y2, .ref (rf_ad 46)] s1 (by repeat (first | exact trivial | refine ⟨rfl, ?_⟩)) (by decide +kernel) ?_
    refine rf_R_call (pc := 206) (q := ([.ref rf_o, .int x1], [.int y2, .ref (rf_ad 46)])) rp_34 rfl rfl (by decide) rp_22 rfl (Nat.le_of_ble_eq_true rfl) ⟨rfl, Nat.le_of_ble_eq_true rfl⟩ h (fun v s2 h => ?_)
    obtain ⟨r2, rfl, h⟩ := h
    refine rf_R_wv rp_34 (rf_bk am_t34 116 1) 209 [(0, .ref rf_o), (1, .int x1)] [.int r2, .int y2, .ref (rf_ad 46)] s2 (by repeat (first | exact trivial | refine ⟨rfl, ?_⟩)) (by decide +kernel) ?_
    exact rf_R_le (l := [(0, .ref rf_o)]) rfl rfl (⟨rfl, trivial⟩) (wr_definition_213_ok h)
/-- definition ()V, from 155 on -/
def wr_definition_155 (d : Nat) (x1 : Int32) (x2 : Int32) (x3 : Int32) (s : rf_S) (Q : rf_S → Prop) : Prop := (rf_in x2 700 ∧ rf_I d 16 [(0, .ref rf_o), (1, .int x3)] (rf_sb s 45 x2.toNatClampNeg ((s.1 18) - x3)) (fun r1 s1 => (rf_in x2 700 ∧ ((¬ (s1.1 5) = ((Int8.ofInt 10).toInt32) → wr_definition_198 d x1 (Int32.ofInt 0) x2 (rf_sb s1 44 x2.toNatClampNeg r1) Q) ∧ ((s1.1 5) = ((Int8.ofInt 10).toInt32) → wr_definition_198 d x1 (Int32.ofInt 1) x2 (rf_sb s1 44 x2.toNatClampNeg r1) Q)))))
set_option maxRecDepth 20000 in
theorem wr_definition_155_ok {d : Nat} {x1 : Int32} {x2 : Int32} {x3 : Int32} {s : rf_S} {Q : rf_S → Prop} (h : wr_definition_155 d x1 x2 x3 s Q) : rf_R (d + 1) 34 (155, [(0, .ref rf_o), (1, .int x1), (2, .int x2), (3, .int x3)], [], s) (rf_qV Q) := by
  unfold wr_definition_155 at h
  refine rf_R_wv rp_34 (rf_bk am_t34 85 8) 155 [(0, .ref rf_o), (1, .int x1), (2, .int x2), (3, .int x3)] [] s (by repeat (first | exact trivial | refine ⟨rfl, ?_⟩)) (by decide +kernel) ?_
  refine And.intro h.1 ?_
  replace h := h.2
  refine rf_R_wv rp_34 (rf_bk am_t34 93 5) 167 [(0, .ref rf_o), (1, .int x1), (2, .int x2), (3, .int x3)] [] (rf_sb s 45 x2.toNatClampNeg ((s.1 18) - x3)) (by repeat (first | exact trivial | refine ⟨rfl, ?_⟩)) (by decide +kernel) ?_
  refine rf_R_call (pc := 174) (q := ([.ref rf_o, .int x3], [.int x2, .ref (rf_ad 44)])) rp_34 rfl rfl (by decide) rp_16 rfl (Nat.le_of_ble_eq_true rfl) ⟨rfl, Nat.le_of_ble_eq_true rfl⟩ h (fun v s1 h => ?_)
  obtain ⟨r1, rfl, h⟩ := h
  refine rf_R_wv rp_34 (rf_bk am_t34 99 1) 177 [(0, .ref rf_o), (1, .int x1), (2, .int x2), (3, .int x3)] [.int r1, .int x2, .ref (rf_ad 44)] s1 (by repeat (first | exact trivial | refine ⟨rfl, ?_⟩)) (by decide +kernel) ?_
  refine And.intro h.1 ?_
  replace h := h.2
  refine rf_R_wv rp_34 (rf_bk am_t34 100 8) 178 [(0, .ref rf_o), (1, .int x1), (2, .int x2), (3, .int x3)] [] (rf_sb s1 44 x2.toNatClampNeg r1) (by repeat (first | exact trivial | refine ⟨rfl, ?_⟩)) (by decide +kernel) ?_
  refine rf_R_if (b := am_cnd .ne (s1.1 5) ((Int8.ofInt 10).toInt32)) (p := 197) (q := 193) (fun hb => ?_) (fun hb => ?_)
  · replace h := h.1 (of_decide_eq_true hb)
    refine rf_R_wv rp_34 (rf_bk am_t34 110 1) 197 [(0, .ref rf_o), (1, .int x1), (2, .int x2), (3, .int x3)] [.ref rf_o, .int x2, .ref (rf_ad 46)] (rf_sb s1 44 x2.toNatClampNeg r1) (by repeat (first | exact trivial | refine ⟨rfl, ?_⟩)) (by decide +kernel) ?_
    exact rf_R_le (l := [(0, .ref rf_o), (1, .int x1)]) rfl rfl (⟨rfl, rfl, trivial⟩) (wr_definition_198_ok h)
  · replace h := h.2 (Decidable.not_not.mp (of_decide_eq_false hb))
    refine rf_R_wv rp_34 (rf_bk am_t34 108 2) 193 [(0, .ref rf_o), (1, .int x1), (2, .int x2), (3, .int x3)] [.ref rf_o, .int x2, .ref (rf_ad 46)] (rf_sb s1 44 x2.toNatClampNeg r1) (by repeat (first | exact trivial | refine ⟨rfl, ?_⟩)) (by decide +kernel) ?_
    exact rf_R_le (l := [(0, .ref rf_o), (1, .int x1)]) rfl rfl (⟨rfl, rfl, trivial⟩) (wr_definition_198_ok h)
/-- definition ()V, from 128 on -/
def wr_definition_128 (d : Nat) (x1 : Int32) (x2 : Int32) (x3 : Int32) (s : rf_S) (Q : rf_S → Prop) : Prop := ((¬ (s.1 5) = (Int32.ofInt 2) → wr_definition_155 d x1 x2 x3 s Q) ∧ ((s.1 5) = (Int32.ofInt 2) → ((0 ≤ (s.1 9) → wr_definition_155 d x1 x2 x3 s Q) ∧ (¬ (0 ≤ (s.1 9)) → rf_I d 20 [(0, .ref rf_o), (1, .int x1)] s (fun r1 s1 => rf_V d 15 [(0, .ref rf_o), (1, .int r1)] s1 (fun s2 => rf_R (d + 1) 34 (128, [(0, .ref rf_o), (1, .int x1), (2, .int x2), (3, .int x3)], [], s2) (rf_qV Q)))))))
set_option maxRecDepth 20000 in
theorem wr_definition_128_ok {d : Nat} {x1 : Int32} {x2 : Int32} {x3 : Int32} {s : rf_S} {Q : rf_S → Prop} (h : wr_definition_128 d x1 x2 x3 s Q) : rf_R (d + 1) 34 (128, [(0, .ref rf_o), (1, .int x1), (2, .int x2), (3, .int x3)], [], s) (rf_qV Q) := by
  unfold wr_definition_128 at h
  refine rf_R_wv rp_34 (rf_bk am_t34 72 4) 128 [(0, .ref rf_o), (1, .int x1), (2, .int x2), (3, .int x3)] [] s (by repeat (first | exact trivial | refine ⟨rfl, ?_⟩)) (by decide +kernel) ?_
  refine rf_R_if (b := am_cnd .ne (s.1 5) (Int32.ofInt 2)) (p := 155) (q := 136) (fun hb => ?_) (fun hb => ?_)
  · replace h := h.1 (of_decide_eq_true hb)
    exact rf_R_le (l := [(0, .ref rf_o), (1, .int x1), (2, .int x2), (3, .int x3)]) rfl rfl (⟨rfl, rfl, rfl, rfl, trivial⟩) (wr_definition_155_ok h)
  · replace h := h.2 (Decidable.not_not.mp (of_decide_eq_false hb))
    refine rf_R_wv rp_34 (rf_bk am_t34 76 3) 136 [(0, .ref rf_o), (1, .int x1), (2, .int x2), (3, .int x3)] [] s (by repeat (first | exact trivial | refine ⟨rfl, ?_⟩)) (by decide +kernel) ?_
    refine rf_R_if (b := am_cnd .ge (s.1 9) 0) (p := 155) (q := 143) (fun hb => ?_) (fun hb => ?_)
    · replace h := h.1 (of_decide_eq_true hb)
      exact rf_R_le (l := [(0, .ref rf_o), (1, .int x1), (2, .int x2), (3, .int x3)]) rfl rfl (⟨rfl, rfl, rfl, rfl, trivial⟩) (wr_definition_155_ok h)
    · replace h := h.2 (of_decide_eq_false hb)
      refine rf_R_wv rp_34 (rf_bk am_t34 79 3) 143 [(0, .ref rf_o), (1, .int x1), (2, .int x2), (3, .int x3)] [] s (by repeat (first | exact trivial | refine ⟨rfl, ?_⟩)) (by decide +kernel) ?_
      refine rf_R_call (pc := 146) (q := ([.ref rf_o, .int x1], [.ref rf_o])) rp_34 rfl rfl (by decide) rp_20 rfl (Nat.le_of_ble_eq_true rfl) ⟨rfl, Nat.le_of_ble_eq_true rfl⟩ h (fun v s1 h => ?_)
      obtain ⟨r1, rfl, h⟩ := h
      refine rf_R_call (pc := 149) (q := ([.ref rf_o, .int r1], [])) rp_34 rfl rfl (by decide) rp_15 rfl (Nat.le_of_ble_eq_true rfl) ⟨rfl, Nat.le_of_ble_eq_true rfl⟩ h (fun v s2 h => ?_)
      obtain ⟨rfl, h⟩ := h
      refine rf_R_wv rp_34 (rf_bk am_t34 84 1) 152 [(0, .ref rf_o), (1, .int x1), (2, .int x2), (3, .int x3)] [] s2 (by repeat (first | exact trivial | refine ⟨rfl, ?_⟩)) (by decide +kernel) ?_
      exact rf_R_le (l := [(0, .ref rf_o), (1, .int x1), (2, .int x2), (3, .int x3)]) rfl rfl (⟨rfl, rfl, rfl, rfl, trivial⟩) h
/-- definition ()V, from 33 on -/
def wr_definition_33 (d : Nat) (x1 : Int32) (x2 : Int32) (s : rf_S) (Q : rf_S → Prop) : Prop := (((s.1 41) ≤ x2 → (rf_in (s.1 41) 700 ∧ (rf_in (s.1 41) 700 ∧ rf_V d 9 [(0, .ref rf_o)] (rf_si (rf_sb (rf_sb s 42 (s.1 41).toNatClampNeg (s.1 6)) 43 (s.1 41).toNatClampNeg (s.1 7)) 41 ((s.1 41) + (Int32.ofInt 1))) (fun s1 => rf_R (d + 1) 34 (128, [(0, .ref rf_o), (1, .int x1), (2, .int (s.1 41)), (3, .int (s1.1 18))], [], s1) (rf_qV Q))))) ∧ (¬ ((s.1 41) ≤ x2) → (rf_in x2 700 ∧ rf_in x2 700 ∧ rf_I d 17 [(0, .ref rf_o), (1, .int (s.2.2.1 42 x2.toNatClampNeg)), (2, .int (s.2.2.1 43 x2.toNatClampNeg)), (3, .int (s.1 6)), (4, .int (s.1 7))] s (fun r2 s2 => ((r2 = 0 → rf_R (d + 1) 34 (33, [(0, .ref rf_o), (1, .int x1), (2, .int (x2 + Int32.ofInt 1))], [], s2) (rf_qV Q)) ∧ (¬ (r2 = 0) → rf_I d 10 [(0, .ref rf_o), (1, .int (s2.1 6))] s2 (fun r3 s3 => Q s3)))))))
set_option maxRecDepth 20000 in
theorem wr_definition_33_ok {d : Nat} {x1 : Int32} {x2 : Int32} {s : rf_S} {Q : rf_S → Prop} (h : wr_definition_33 d x1 x2 s Q) : rf_R (d + 1) 34 (33, [(0, .ref rf_o), (1, .int x1), (2, .int x2)], [], s) (rf_qV Q) := by
  unfold wr_definition_33 at h
  refine rf_R_wv rp_34 (rf_bk am_t34 19 4) 33 [(0, .ref rf_o), (1, .int x1), (2, .int x2)] [] s (by repeat (first | exact trivial | refine ⟨rfl, ?_⟩)) (by decide +kernel) ?_
  refine rf_R_if (b := am_cnd .ge x2 (s.1 41)) (p := 84) (q := 41) (fun hb => ?_) (fun hb => ?_)
  · replace h := h.1 (of_decide_eq_true hb)
    refine rf_R_wv rp_34 (rf_bk am_t34 46 9) 84 [(0, .ref rf_o), (1, .int x1), (2, .int x2)] [] s (by repeat (first | exact trivial | refine ⟨rfl, ?_⟩)) (by decide +kernel) ?_
    refine And.intro h.1 ?_
    replace h := h.2
    refine rf_R_wv rp_34 (rf_bk am_t34 55 6) 99 [(2, .int (s.1 41)), (0, .ref rf_o), (1, .int x1)] [] (rf_sb s 42 (s.1 41).toNatClampNeg (s.1 6)) (by repeat (first | exact trivial | refine ⟨rfl, ?_⟩)) (by decide +kernel) ?_
    refine And.intro h.1 ?_
    replace h := h.2
    refine rf_R_wv rp_34 (rf_bk am_t34 61 6) 109 [(2, .int (s.1 41)), (0, .ref rf_o), (1, .int x1)] [] (rf_sb (rf_sb s 42 (s.1 41).toNatClampNeg (s.1 6)) 43 (s.1 41).toNatClampNeg (s.1 7)) (by repeat (first | exact trivial | refine ⟨rfl, ?_⟩)) (by decide +kernel) ?_
    refine And.intro rfl ?_
    refine rf_R_wv rp_34 (rf_bk am_t34 67 1) 119 [(2, .int (s.1 41)), (0, .ref rf_o), (1, .int x1)] [] (rf_si (rf_sb (rf_sb s 42 (s.1 41).toNatClampNeg (s.1 6)) 43 (s.1 41).toNatClampNeg (s.1 7)) 41 ((s.1 41) + (Int32.ofInt 1))) (by repeat (first | exact trivial | refine ⟨rfl, ?_⟩)) (by decide +kernel) ?_
    refine rf_R_call (pc := 120) (q := ([.ref rf_o], [])) rp_34 rfl rfl (by decide) rp_9 rfl (Nat.le_of_ble_eq_true rfl) ⟨rfl, Nat.le_of_ble_eq_true rfl⟩ h (fun v s1 h => ?_)
    obtain ⟨rfl, h⟩ := h
    refine rf_R_wv rp_34 (rf_bk am_t34 69 3) 123 [(2, .int (s.1 41)), (0, .ref rf_o), (1, .int x1)] [] s1 (by repeat (first | exact trivial | refine ⟨rfl, ?_⟩)) (by decide +kernel) ?_
    exact rf_R_le (l := [(0, .ref rf_o), (1, .int x1), (2, .int (s.1 41)), (3, .int (s1.1 18))]) rfl rfl (⟨rfl, rfl, rfl, rfl, trivial⟩) h
  · replace h := h.2 (of_decide_eq_false hb)
    refine rf_R_wv rp_34 (rf_bk am_t34 23 13) 41 [(0, .ref rf_o), (1, .int x1), (2, .int x2)] [] s (by repeat (first | exact trivial | refine ⟨rfl, ?_⟩)) (by decide +kernel) ?_
    refine And.intro h.1 ?_
    replace h := h.2
    refine And.intro h.1 ?_
    replace h := h.2
    refine rf_R_call (pc := 62) (q := ([.ref rf_o, .int (s.2.2.1 42 x2.toNatClampNeg), .int (s.2.2.1 43 x2.toNatClampNeg), .int (s.1 6), .int (s.1 7)], [])) rp_34 rfl rfl (by decide) rp_17 rfl (Nat.le_of_ble_eq_true rfl) ⟨rfl, Nat.le_of_ble_eq_true rfl⟩ h (fun v s2 h => ?_)
    obtain ⟨r2, rfl, h⟩ := h
    refine rf_R_wv rp_34 (rf_bk am_t34 37 1) 65 [(0, .ref rf_o), (1, .int x1), (2, .int x2)] [.int r2] s2 (by repeat (first | exact trivial | refine ⟨rfl, ?_⟩)) (by decide +kernel) ?_
    refine rf_R_if (b := am_cnd .eq r2 0) (p := 78) (q := 68) (fun hb => ?_) (fun hb => ?_)
    · replace h := h.1 (of_decide_eq_true hb)
      refine rf_R_wv rp_34 (rf_bk am_t34 44 2) 78 [(0, .ref rf_o), (1, .int x1), (2, .int x2)] [] s2 (by repeat (first | exact trivial | refine ⟨rfl, ?_⟩)) (by decide +kernel) ?_
      exact rf_R_le (l := [(0, .ref rf_o), (1, .int x1), (2, .int (x2 + Int32.ofInt 1))]) rfl rfl (⟨rfl, rfl, rfl, trivial⟩) h
    · replace h := h.2 (of_decide_eq_false hb)
      refine rf_R_wv rp_34 (rf_bk am_t34 38 3) 68 [(0, .ref rf_o), (1, .int x1), (2, .int x2)] [] s2 (by repeat (first | exact trivial | refine ⟨rfl, ?_⟩)) (by decide +kernel) ?_
      refine rf_R_call (pc := 73) (q := ([.ref rf_o, .int (s2.1 6)], [])) rp_34 rfl rfl (by decide) rp_10 rfl (Nat.le_of_ble_eq_true rfl) ⟨rfl, Nat.le_of_ble_eq_true rfl⟩ h (fun v s3 h => ?_)
      obtain ⟨r3, rfl, h⟩ := h
      refine rf_R_wv rp_34 (rf_bk am_t34 42 1) 76 [(0, .ref rf_o), (1, .int x1), (2, .int x2)] [.int r3] s3 (by repeat (first | exact trivial | refine ⟨rfl, ?_⟩)) (by decide +kernel) ?_
      exact rf_R_ret (pc := 77) rp_34 rfl rfl rfl ⟨rfl, h⟩
/-- definition ()V, from 21 on -/
def wr_definition_21 (d : Nat) (s : rf_S) (Q : rf_S → Prop) : Prop := rf_I d 10 [(0, .ref rf_o), (1, .int (s.1 6))] s (fun r1 s1 => Q s1)
set_option maxRecDepth 20000 in
theorem wr_definition_21_ok {d : Nat} {s : rf_S} {Q : rf_S → Prop} (h : wr_definition_21 d s Q) : rf_R (d + 1) 34 (21, [(0, .ref rf_o)], [], s) (rf_qV Q) := by
  unfold wr_definition_21 at h
  refine rf_R_wv rp_34 (rf_bk am_t34 11 3) 21 [(0, .ref rf_o)] [] s (by repeat (first | exact trivial | refine ⟨rfl, ?_⟩)) (by decide +kernel) ?_
  refine rf_R_call (pc := 26) (q := ([.ref rf_o, .int (s.1 6)], [])) rp_34 rfl rfl (by decide) rp_10 rfl (Nat.le_of_ble_eq_true rfl) ⟨rfl, Nat.le_of_ble_eq_true rfl⟩ h (fun v s1 h => ?_)
  obtain ⟨r1, rfl, h⟩ := h
  refine rf_R_wv rp_34 (rf_bk am_t34 15 1) 29 [(0, .ref rf_o)] [.int r1] s1 (by repeat (first | exact trivial | refine ⟨rfl, ?_⟩)) (by decide +kernel) ?_
  exact rf_R_ret (pc := 30) rp_34 rfl rfl rfl ⟨rfl, h⟩
/-- definition ()V, from 0 on -/
def wr_definition (d : Nat) (s : rf_S) (Q : rf_S → Prop) : Prop := rf_I d 18 [(0, .ref rf_o), (1, .int (Int32.ofInt (-1)))] s (fun r1 s1 => ((¬ (s1.1 5) = (Int32.ofInt 2) → wr_definition_21 d s1 Q) ∧ ((s1.1 5) = (Int32.ofInt 2) → (((s1.1 9) < 0 → rf_R (d + 1) 34 (33, [(0, .ref rf_o), (1, .int r1), (2, .int (Int32.ofInt 0))], [], s1) (rf_qV Q)) ∧ (¬ ((s1.1 9) < 0) → wr_definition_21 d s1 Q)))))
set_option maxRecDepth 20000 in
theorem wr_definition_ok {d : Nat} {s : rf_S} {Q : rf_S → Prop} (h : wr_definition d s Q) : rf_V (d + 1) 34 [(0, .ref rf_o)] s Q := by
  unfold wr_definition at h
  unfold rf_V
  refine rf_R_wv rp_34 (rf_bk am_t34 0 2) 0 [(0, .ref rf_o)] [] s (by repeat (first | exact trivial | refine ⟨rfl, ?_⟩)) (by decide +kernel) ?_
  refine rf_R_call (pc := 2) (q := ([.ref rf_o, .int (Int32.ofInt (-1))], [])) rp_34 rfl rfl (by decide) rp_18 rfl (Nat.le_of_ble_eq_true rfl) ⟨rfl, Nat.le_of_ble_eq_true rfl⟩ h (fun v s1 h => ?_)
  obtain ⟨r1, rfl, h⟩ := h
  refine rf_R_wv rp_34 (rf_bk am_t34 3 5) 5 [(0, .ref rf_o)] [.int r1] s1 (by repeat (first | exact trivial | refine ⟨rfl, ?_⟩)) (by decide +kernel) ?_
  refine rf_R_if (b := am_cnd .ne (s1.1 5) (Int32.ofInt 2)) (p := 21) (q := 14) (fun hb => ?_) (fun hb => ?_)
  · replace h := h.1 (of_decide_eq_true hb)
    exact rf_R_le (l := [(0, .ref rf_o)]) rfl rfl (⟨rfl, trivial⟩) (wr_definition_21_ok h)
  · replace h := h.2 (Decidable.not_not.mp (of_decide_eq_false hb))
    refine rf_R_wv rp_34 (rf_bk am_t34 8 3) 14 [(1, .int r1), (0, .ref rf_o)] [] s1 (by repeat (first | exact trivial | refine ⟨rfl, ?_⟩)) (by decide +kernel) ?_
    refine rf_R_if (b := am_cnd .lt (s1.1 9) 0) (p := 31) (q := 21) (fun hb => ?_) (fun hb => ?_)
    · replace h := h.1 (of_decide_eq_true hb)
      refine rf_R_wv rp_34 (rf_bk am_t34 17 2) 31 [(1, .int r1), (0, .ref rf_o)] [] s1 (by repeat (first | exact trivial | refine ⟨rfl, ?_⟩)) (by decide +kernel) ?_
      exact rf_R_le (l := [(0, .ref rf_o), (1, .int r1), (2, .int (Int32.ofInt 0))]) rfl rfl (⟨rfl, rfl, rfl, trivial⟩) h
    · replace h := h.2 (of_decide_eq_false hb)
      exact rf_R_le (l := [(0, .ref rf_o)]) rfl rfl (⟨rfl, trivial⟩) (wr_definition_21_ok h)
/-- definitionOf (II)I, from 2 on -/
def wr_definitionOf_2 (d : Nat) (x1 : Int32) (x2 : Int32) (x3 : Int32) (s : rf_S) (Q : Int32 → rf_S → Prop) : Prop := (((s.1 41) ≤ x3 → Q (Int32.ofInt (-1)) s) ∧ (¬ ((s.1 41) ≤ x3) → (rf_in x3 700 ∧ rf_in x3 700 ∧ rf_I d 17 [(0, .ref rf_o), (1, .int (s.2.2.1 42 x3.toNatClampNeg)), (2, .int (s.2.2.1 43 x3.toNatClampNeg)), (3, .int x1), (4, .int x2)] s (fun r1 s1 => ((r1 = 0 → rf_R (d + 1) 35 (2, [(0, .ref rf_o), (1, .int x1), (2, .int x2), (3, .int (x3 + Int32.ofInt 1))], [], s1) (rf_qI Q)) ∧ (¬ (r1 = 0) → Q x3 s1))))))
set_option maxRecDepth 20000 in
theorem wr_definitionOf_2_ok {d : Nat} {x1 : Int32} {x2 : Int32} {x3 : Int32} {s : rf_S} {Q : Int32 → rf_S → Prop} (h : wr_definitionOf_2 d x1 x2 x3 s Q) : rf_R (d + 1) 35 (2, [(0, .ref rf_o), (1, .int x1), (2, .int x2), (3, .int x3)], [], s) (rf_qI Q) := by
  unfold wr_definitionOf_2 at h
  refine rf_R_wv rp_35 (rf_bk am_t35 2 4) 2 [(0, .ref rf_o), (1, .int x1), (2, .int x2), (3, .int x3)] [] s (by repeat (first | exact trivial | refine ⟨rfl, ?_⟩)) (by decide +kernel) ?_
  refine rf_R_if (b := am_cnd .ge x3 (s.1 41)) (p := 39) (q := 10) (fun hb => ?_) (fun hb => ?_)
  · replace h := h.1 (of_decide_eq_true hb)
    refine rf_R_wv rp_35 (rf_bk am_t35 23 1) 39 [(0, .ref rf_o), (1, .int x1), (2, .int x2), (3, .int x3)] [] s (by repeat (first | exact trivial | refine ⟨rfl, ?_⟩)) (by decide +kernel) ?_
    exact rf_R_ret (pc := 40) (v := some (.int (Int32.ofInt (-1)))) rp_35 rfl rfl rfl ⟨_, rfl, h⟩
  · replace h := h.2 (of_decide_eq_false hb)
    refine rf_R_wv rp_35 (rf_bk am_t35 6 11) 10 [(0, .ref rf_o), (1, .int x1), (2, .int x2), (3, .int x3)] [] s (by repeat (first | exact trivial | refine ⟨rfl, ?_⟩)) (by decide +kernel) ?_
    refine And.intro h.1 ?_
    replace h := h.2
    refine And.intro h.1 ?_
    replace h := h.2
    refine rf_R_call (pc := 25) (q := ([.ref rf_o, .int (s.2.2.1 42 x3.toNatClampNeg), .int (s.2.2.1 43 x3.toNatClampNeg), .int x1, .int x2], [])) rp_35 rfl rfl (by decide) rp_17 rfl (Nat.le_of_ble_eq_true rfl) ⟨rfl, Nat.le_of_ble_eq_true rfl⟩ h (fun v s1 h => ?_)
    obtain ⟨r1, rfl, h⟩ := h
    refine rf_R_wv rp_35 (rf_bk am_t35 18 1) 28 [(0, .ref rf_o), (1, .int x1), (2, .int x2), (3, .int x3)] [.int r1] s1 (by repeat (first | exact trivial | refine ⟨rfl, ?_⟩)) (by decide +kernel) ?_
    refine rf_R_if (b := am_cnd .eq r1 0) (p := 33) (q := 31) (fun hb => ?_) (fun hb => ?_)
    · replace h := h.1 (of_decide_eq_true hb)
      refine rf_R_wv rp_35 (rf_bk am_t35 21 2) 33 [(0, .ref rf_o), (1, .int x1), (2, .int x2), (3, .int x3)] [] s1 (by repeat (first | exact trivial | refine ⟨rfl, ?_⟩)) (by decide +kernel) ?_
      exact rf_R_le (l := [(0, .ref rf_o), (1, .int x1), (2, .int x2), (3, .int (x3 + Int32.ofInt 1))]) rfl rfl (⟨rfl, rfl, rfl, rfl, trivial⟩) h
    · replace h := h.2 (of_decide_eq_false hb)
      refine rf_R_wv rp_35 (rf_bk am_t35 19 1) 31 [(0, .ref rf_o), (1, .int x1), (2, .int x2), (3, .int x3)] [] s1 (by repeat (first | exact trivial | refine ⟨rfl, ?_⟩)) (by decide +kernel) ?_
      exact rf_R_ret (pc := 32) (v := some (.int x3)) rp_35 rfl rfl rfl ⟨_, rfl, h⟩
/-- definitionOf (II)I, from 0 on -/
def wr_definitionOf (d : Nat) (x1 : Int32) (x2 : Int32) (s : rf_S) (Q : Int32 → rf_S → Prop) : Prop := rf_R (d + 1) 35 (2, [(0, .ref rf_o), (1, .int x1), (2, .int x2), (3, .int (Int32.ofInt 0))], [], s) (rf_qI Q)
set_option maxRecDepth 20000 in
theorem wr_definitionOf_ok {d : Nat} {x1 : Int32} {x2 : Int32} {s : rf_S} {Q : Int32 → rf_S → Prop} (h : wr_definitionOf d x1 x2 s Q) : rf_I (d + 1) 35 [(0, .ref rf_o), (1, .int x1), (2, .int x2)] s Q := by
  unfold wr_definitionOf at h
  unfold rf_I
  refine rf_R_wv rp_35 (rf_bk am_t35 0 2) 0 [(0, .ref rf_o), (1, .int x1), (2, .int x2)] [] s (by repeat (first | exact trivial | refine ⟨rfl, ?_⟩)) (by decide +kernel) ?_
  exact rf_R_le (l := [(0, .ref rf_o), (1, .int x1), (2, .int x2), (3, .int (Int32.ofInt 0))]) rfl rfl (⟨rfl, rfl, rfl, rfl, trivial⟩) h
/-- lookUp ()V, from 126 on -/
def wr_lookUp_126 (d : Nat) (x1 : Int32) (y0 : Int32) (y1 : Int32) (s : rf_S) (Q : rf_S → Prop) : Prop := (rf_in y1 2100 ∧ rf_R (d + 1) 36 (2, [(0, .ref rf_o), (1, .int (x1 + Int32.ofInt 1))], [], (rf_sb s 13 y1.toNatClampNeg y0)) (rf_qV Q))
set_option maxRecDepth 20000 in
theorem wr_lookUp_126_ok {d : Nat} {x1 : Int32} {y0 : Int32} {y1 : Int32} {s : rf_S} {Q : rf_S → Prop} (h : wr_lookUp_126 d x1 y0 y1 s Q) : rf_R (d + 1) 36 (126, [(0, .ref rf_o), (1, .int x1)], [.int y0, .int y1, .ref (rf_ad 13)], s) (rf_qV Q) := by
  unfold wr_lookUp_126 at h
  refine rf_R_wv rp_36 (rf_bk am_t36 76 1) 126 [(0, .ref rf_o), (1, .int x1)] [.int y0, .int y1, .ref (rf_ad 13)] s (by repeat (first | exact trivial | refine ⟨rfl, ?_⟩)) (by decide +kernel) ?_
  refine And.intro h.1 ?_
  replace h := h.2
  refine rf_R_wv rp_36 (rf_bk am_t36 77 2) 127 [(0, .ref rf_o), (1, .int x1)] [] (rf_sb s 13 y1.toNatClampNeg y0) (by repeat (first | exact trivial | refine ⟨rfl, ?_⟩)) (by decide +kernel) ?_
  exact rf_R_le (l := [(0, .ref rf_o), (1, .int (x1 + Int32.ofInt 1))]) rfl rfl (⟨rfl, rfl, trivial⟩) h
/-- lookUp ()V, from 105 on -/
def wr_lookUp_105 (d : Nat) (x1 : Int32) (x2 : Int32) (x3 : Int32) (s : rf_S) (Q : rf_S → Prop) : Prop := (rf_in x1 1100 ∧ ((x2 < 0 → wr_lookUp_126 d x1 ((Int32.ofInt (-1)) - x3) (s.2.2.1 31 x1.toNatClampNeg) s Q) ∧ (¬ (x2 < 0) → wr_lookUp_126 d x1 x2 (s.2.2.1 31 x1.toNatClampNeg) s Q)))
set_option maxRecDepth 20000 in
theorem wr_lookUp_105_ok {d : Nat} {x1 : Int32} {x2 : Int32} {x3 : Int32} {s : rf_S} {Q : rf_S → Prop} (h : wr_lookUp_105 d x1 x2 x3 s Q) : rf_R (d + 1) 36 (105, [(0, .ref rf_o), (1, .int x1), (2, .int x2), (3, .int x3)], [], s) (rf_qV Q) := by
  unfold wr_lookUp_105 at h
  refine rf_R_wv rp_36 (rf_bk am_t36 63 8) 105 [(0, .ref rf_o), (1, .int x1), (2, .int x2), (3, .int x3)] [] s (by repeat (first | exact trivial | refine ⟨rfl, ?_⟩)) (by decide +kernel) ?_
  refine And.intro h.1 ?_
  replace h := h.2
  refine rf_R_if (b := am_cnd .lt x2 0) (p := 123) (q := 119) (fun hb => ?_) (fun hb => ?_)
  · replace h := h.1 (of_decide_eq_true hb)
    refine rf_R_wv rp_36 (rf_bk am_t36 73 3) 123 [(0, .ref rf_o), (1, .int x1), (2, .int x2), (3, .int x3)] [.int (s.2.2.1 31 x1.toNatClampNeg), .ref (rf_ad 13)] s (by repeat (first | exact trivial | refine ⟨rfl, ?_⟩)) (by decide +kernel) ?_
    exact rf_R_le (l := [(0, .ref rf_o), (1, .int x1)]) rfl rfl (⟨rfl, rfl, trivial⟩) (wr_lookUp_126_ok h)
  · replace h := h.2 (of_decide_eq_false hb)
    refine rf_R_wv rp_36 (rf_bk am_t36 71 2) 119 [(0, .ref rf_o), (1, .int x1), (2, .int x2), (3, .int x3)] [.int (s.2.2.1 31 x1.toNatClampNeg), .ref (rf_ad 13)] s (by repeat (first | exact trivial | refine ⟨rfl, ?_⟩)) (by decide +kernel) ?_
    exact rf_R_le (l := [(0, .ref rf_o), (1, .int x1)]) rfl rfl (⟨rfl, rfl, trivial⟩) (wr_lookUp_126_ok h)
/-- lookUp ()V, from 86 on -/
def wr_lookUp_86 (d : Nat) (x1 : Int32) (x2 : Int32) (y0 : Int32) (s : rf_S) (Q : rf_S → Prop) : Prop := ((0 ≤ x2 → wr_lookUp_105 d x1 x2 y0 s Q) ∧ (¬ (0 ≤ x2) → ((0 ≤ y0 → wr_lookUp_105 d x1 x2 y0 s Q) ∧ (¬ (0 ≤ y0) → (rf_in x1 1100 ∧ wr_lookUp_105 d x1 x2 y0 (rf_si s 9 (s.2.2.1 33 x1.toNatClampNeg)) Q)))))
set_option maxRecDepth 20000 in
theorem wr_lookUp_86_ok {d : Nat} {x1 : Int32} {x2 : Int32} {y0 : Int32} {s : rf_S} {Q : rf_S → Prop} (h : wr_lookUp_86 d x1 x2 y0 s Q) : rf_R (d + 1) 36 (86, [(0, .ref rf_o), (1, .int x1), (2, .int x2)], [.int y0], s) (rf_qV Q) := by
  unfold wr_lookUp_86 at h
  refine rf_R_wv rp_36 (rf_bk am_t36 52 3) 86 [(0, .ref rf_o), (1, .int x1), (2, .int x2)] [.int y0] s (by repeat (first | exact trivial | refine ⟨rfl, ?_⟩)) (by decide +kernel) ?_
  refine rf_R_if (b := am_cnd .ge x2 0) (p := 105) (q := 91) (fun hb => ?_) (fun hb => ?_)
  · replace h := h.1 (of_decide_eq_true hb)
    exact rf_R_le (l := [(0, .ref rf_o), (1, .int x1), (2, .int x2), (3, .int y0)]) rfl rfl (⟨rfl, rfl, rfl, rfl, trivial⟩) (wr_lookUp_105_ok h)
  · replace h := h.2 (of_decide_eq_false hb)
    refine rf_R_wv rp_36 (rf_bk am_t36 55 2) 91 [(3, .int y0), (0, .ref rf_o), (1, .int x1), (2, .int x2)] [] s (by repeat (first | exact trivial | refine ⟨rfl, ?_⟩)) (by decide +kernel) ?_
    refine rf_R_if (b := am_cnd .ge y0 0) (p := 105) (q := 95) (fun hb => ?_) (fun hb => ?_)
    · replace h := h.1 (of_decide_eq_true hb)
      exact rf_R_le (l := [(0, .ref rf_o), (1, .int x1), (2, .int x2), (3, .int y0)]) rfl rfl (⟨rfl, rfl, rfl, rfl, trivial⟩) (wr_lookUp_105_ok h)
    · replace h := h.2 (of_decide_eq_false hb)
      refine rf_R_wv rp_36 (rf_bk am_t36 57 6) 95 [(3, .int y0), (0, .ref rf_o), (1, .int x1), (2, .int x2)] [] s (by repeat (first | exact trivial | refine ⟨rfl, ?_⟩)) (by decide +kernel) ?_
      refine And.intro h.1 ?_
      replace h := h.2
      refine And.intro rfl ?_
      exact rf_R_le (l := [(0, .ref rf_o), (1, .int x1), (2, .int x2), (3, .int y0)]) rfl rfl (⟨rfl, rfl, rfl, rfl, trivial⟩) (wr_lookUp_105_ok h)
/-- lookUp ()V, from 62 on -/
def wr_lookUp_62 (d : Nat) (x1 : Int32) (x2 : Int32) (s : rf_S) (Q : rf_S → Prop) : Prop := ((0 ≤ x2 → wr_lookUp_86 d x1 x2 (Int32.ofInt (-1)) s Q) ∧ (¬ (0 ≤ x2) → (rf_in x1 1100 ∧ rf_in x1 1100 ∧ rf_I d 35 [(0, .ref rf_o), (1, .int (s.2.2.1 33 x1.toNatClampNeg)), (2, .int (s.2.2.1 34 x1.toNatClampNeg))] s (fun r1 s1 => wr_lookUp_86 d x1 x2 r1 s1 Q))))
set_option maxRecDepth 20000 in
theorem wr_lookUp_62_ok {d : Nat} {x1 : Int32} {x2 : Int32} {s : rf_S} {Q : rf_S → Prop} (h : wr_lookUp_62 d x1 x2 s Q) : rf_R (d + 1) 36 (62, [(0, .ref rf_o), (1, .int x1), (2, .int x2)], [], s) (rf_qV Q) := by
  unfold wr_lookUp_62 at h
  refine rf_R_wv rp_36 (rf_bk am_t36 38 2) 62 [(0, .ref rf_o), (1, .int x1), (2, .int x2)] [] s (by repeat (first | exact trivial | refine ⟨rfl, ?_⟩)) (by decide +kernel) ?_
  refine rf_R_if (b := am_cnd .ge x2 0) (p := 85) (q := 66) (fun hb => ?_) (fun hb => ?_)
  · replace h := h.1 (of_decide_eq_true hb)
    refine rf_R_wv rp_36 (rf_bk am_t36 51 1) 85 [(0, .ref rf_o), (1, .int x1), (2, .int x2)] [] s (by repeat (first | exact trivial | refine ⟨rfl, ?_⟩)) (by decide +kernel) ?_
    exact rf_R_le (l := [(0, .ref rf_o), (1, .int x1), (2, .int x2)]) rfl rfl (⟨rfl, rfl, rfl, trivial⟩) (wr_lookUp_86_ok h)
  · replace h := h.2 (of_decide_eq_false hb)
    refine rf_R_wv rp_36 (rf_bk am_t36 40 9) 66 [(0, .ref rf_o), (1, .int x1), (2, .int x2)] [] s (by repeat (first | exact trivial | refine ⟨rfl, ?_⟩)) (by decide +kernel) ?_
    refine And.intro h.1 ?_
    replace h := h.2
    refine And.intro h.1 ?_
    replace h := h.2
    refine rf_R_call (pc := 79) (q := ([.ref rf_o, .int (s.2.2.1 33 x1.toNatClampNeg), .int (s.2.2.1 34 x1.toNatClampNeg)], [])) rp_36 rfl rfl (by decide) rp_35 rfl (Nat.le_of_ble_eq_true rfl) ⟨rfl, Nat.le_of_ble_eq_true rfl⟩ h (fun v s1 h => ?_)
    obtain ⟨r1, rfl, h⟩ := h
    refine rf_R_wv rp_36 (rf_bk am_t36 50 1) 82 [(0, .ref rf_o), (1, .int x1), (2, .int x2)] [.int r1] s1 (by repeat (first | exact trivial | refine ⟨rfl, ?_⟩)) (by decide +kernel) ?_
    exact rf_R_le (l := [(0, .ref rf_o), (1, .int x1), (2, .int x2)]) rfl rfl (⟨rfl, rfl, rfl, trivial⟩) (wr_lookUp_86_ok h)
/-- lookUp ()V, from 26 on -/
def wr_lookUp_26 (d : Nat) (x1 : Int32) (x2 : Int32) (x3 : Int32) (s : rf_S) (Q : rf_S → Prop) : Prop := ((x3 < 0 → wr_lookUp_62 d x1 x2 s Q) ∧ (¬ (x3 < 0) → ((0 ≤ x2 → wr_lookUp_62 d x1 x2 s Q) ∧ (¬ (0 ≤ x2) → (rf_in x1 1100 ∧ rf_in x1 1100 ∧ rf_I d 19 [(0, .ref rf_o), (1, .int x3), (2, .int (s.2.2.1 33 x1.toNatClampNeg)), (3, .int (s.2.2.1 34 x1.toNatClampNeg))] s (fun r1 s1 => (rf_in x3 1100 ∧ rf_R (d + 1) 36 (26, [(0, .ref rf_o), (1, .int x1), (2, .int r1), (3, .int (s1.2.2.1 24 x3.toNatClampNeg))], [], s1) (rf_qV Q))))))))
set_option maxRecDepth 20000 in
theorem wr_lookUp_26_ok {d : Nat} {x1 : Int32} {x2 : Int32} {x3 : Int32} {s : rf_S} {Q : rf_S → Prop} (h : wr_lookUp_26 d x1 x2 x3 s Q) : rf_R (d + 1) 36 (26, [(0, .ref rf_o), (1, .int x1), (2, .int x2), (3, .int x3)], [], s) (rf_qV Q) := by
  unfold wr_lookUp_26 at h
  refine rf_R_wv rp_36 (rf_bk am_t36 16 2) 26 [(0, .ref rf_o), (1, .int x1), (2, .int x2), (3, .int x3)] [] s (by repeat (first | exact trivial | refine ⟨rfl, ?_⟩)) (by decide +kernel) ?_
  refine rf_R_if (b := am_cnd .lt x3 0) (p := 62) (q := 30) (fun hb => ?_) (fun hb => ?_)
  · replace h := h.1 (of_decide_eq_true hb)
    exact rf_R_le (l := [(0, .ref rf_o), (1, .int x1), (2, .int x2)]) rfl rfl (⟨rfl, rfl, rfl, trivial⟩) (wr_lookUp_62_ok h)
  · replace h := h.2 (of_decide_eq_false hb)
    refine rf_R_wv rp_36 (rf_bk am_t36 18 2) 30 [(0, .ref rf_o), (1, .int x1), (2, .int x2), (3, .int x3)] [] s (by repeat (first | exact trivial | refine ⟨rfl, ?_⟩)) (by decide +kernel) ?_
    refine rf_R_if (b := am_cnd .ge x2 0) (p := 62) (q := 34) (fun hb => ?_) (fun hb => ?_)
    · replace h := h.1 (of_decide_eq_true hb)
      exact rf_R_le (l := [(0, .ref rf_o), (1, .int x1), (2, .int x2)]) rfl rfl (⟨rfl, rfl, rfl, trivial⟩) (wr_lookUp_62_ok h)
    · replace h := h.2 (of_decide_eq_false hb)
      refine rf_R_wv rp_36 (rf_bk am_t36 20 10) 34 [(0, .ref rf_o), (1, .int x1), (2, .int x2), (3, .int x3)] [] s (by repeat (first | exact trivial | refine ⟨rfl, ?_⟩)) (by decide +kernel) ?_
      refine And.intro h.1 ?_
      replace h := h.2
      refine And.intro h.1 ?_
      replace h := h.2
      refine rf_R_call (pc := 48) (q := ([.ref rf_o, .int x3, .int (s.2.2.1 33 x1.toNatClampNeg), .int (s.2.2.1 34 x1.toNatClampNeg)], [])) rp_36 rfl rfl (by decide) rp_19 rfl (Nat.le_of_ble_eq_true rfl) ⟨rfl, Nat.le_of_ble_eq_true rfl⟩ h (fun v s1 h => ?_)
      obtain ⟨r1, rfl, h⟩ := h
      refine rf_R_wv rp_36 (rf_bk am_t36 31 7) 51 [(0, .ref rf_o), (1, .int x1), (2, .int x2), (3, .int x3)] [.int r1] s1 (by repeat (first | exact trivial | refine ⟨rfl, ?_⟩)) (by decide +kernel) ?_
      refine And.intro h.1 ?_
      replace h := h.2
      exact rf_R_le (l := [(0, .ref rf_o), (1, .int x1), (2, .int r1), (3, .int (s1.2.2.1 24 x3.toNatClampNeg))]) rfl rfl (⟨rfl, rfl, rfl, rfl, trivial⟩) h
/-- lookUp ()V, from 2 on -/
def wr_lookUp_2 (d : Nat) (x1 : Int32) (s : rf_S) (Q : rf_S → Prop) : Prop := (((s.1 30) ≤ x1 → Q s) ∧ (¬ ((s.1 30) ≤ x1) → ((0 ≤ (s.1 9) → Q s) ∧ (¬ (0 ≤ (s.1 9)) → (rf_in x1 1100 ∧ rf_R (d + 1) 36 (26, [(0, .ref rf_o), (1, .int x1), (2, .int (Int32.ofInt (-1))), (3, .int (s.2.2.1 32 x1.toNatClampNeg))], [], s) (rf_qV Q))))))
set_option maxRecDepth 20000 in
theorem wr_lookUp_2_ok {d : Nat} {x1 : Int32} {s : rf_S} {Q : rf_S → Prop} (h : wr_lookUp_2 d x1 s Q) : rf_R (d + 1) 36 (2, [(0, .ref rf_o), (1, .int x1)], [], s) (rf_qV Q) := by
  unfold wr_lookUp_2 at h
  refine rf_R_wv rp_36 (rf_bk am_t36 2 4) 2 [(0, .ref rf_o), (1, .int x1)] [] s (by repeat (first | exact trivial | refine ⟨rfl, ?_⟩)) (by decide +kernel) ?_
  refine rf_R_if (b := am_cnd .ge x1 (s.1 30)) (p := 133) (q := 10) (fun hb => ?_) (fun hb => ?_)
  · replace h := h.1 (of_decide_eq_true hb)
    exact rf_R_ret (pc := 133) rp_36 rfl rfl rfl ⟨rfl, h⟩
  · replace h := h.2 (of_decide_eq_false hb)
    refine rf_R_wv rp_36 (rf_bk am_t36 6 3) 10 [(0, .ref rf_o), (1, .int x1)] [] s (by repeat (first | exact trivial | refine ⟨rfl, ?_⟩)) (by decide +kernel) ?_
    refine rf_R_if (b := am_cnd .ge (s.1 9) 0) (p := 133) (q := 17) (fun hb => ?_) (fun hb => ?_)
    · replace h := h.1 (of_decide_eq_true hb)
      exact rf_R_ret (pc := 133) rp_36 rfl rfl rfl ⟨rfl, h⟩
    · replace h := h.2 (of_decide_eq_false hb)
      refine rf_R_wv rp_36 (rf_bk am_t36 9 7) 17 [(0, .ref rf_o), (1, .int x1)] [] s (by repeat (first | exact trivial | refine ⟨rfl, ?_⟩)) (by decide +kernel) ?_
      refine And.intro h.1 ?_
      replace h := h.2
      exact rf_R_le (l := [(0, .ref rf_o), (1, .int x1), (2, .int (Int32.ofInt (-1))), (3, .int (s.2.2.1 32 x1.toNatClampNeg))]) rfl rfl (⟨rfl, rfl, rfl, rfl, trivial⟩) h
/-- lookUp ()V, from 0 on -/
def wr_lookUp (d : Nat) (s : rf_S) (Q : rf_S → Prop) : Prop := rf_R (d + 1) 36 (2, [(0, .ref rf_o), (1, .int (Int32.ofInt 0))], [], s) (rf_qV Q)
set_option maxRecDepth 20000 in
theorem wr_lookUp_ok {d : Nat} {s : rf_S} {Q : rf_S → Prop} (h : wr_lookUp d s Q) : rf_V (d + 1) 36 [(0, .ref rf_o)] s Q := by
  unfold wr_lookUp at h
  unfold rf_V
  refine rf_R_wv rp_36 (rf_bk am_t36 0 2) 0 [(0, .ref rf_o)] [] s (by repeat (first | exact trivial | refine ⟨rfl, ?_⟩)) (by decide +kernel) ?_
  exact rf_R_le (l := [(0, .ref rf_o), (1, .int (Int32.ofInt 0))]) rfl rfl (⟨rfl, rfl, trivial⟩) h
/-- isMain (I)Z, from 0 on -/
def wr_isMain (d : Nat) (x1 : Int32) (s : rf_S) (Q : Int32 → rf_S → Prop) : Prop := (rf_in x1 700 ∧ rf_in x1 700 ∧ ((¬ (s.2.2.1 43 x1.toNatClampNeg) = (Int32.ofInt 4) → Q (Int32.ofInt 0) s) ∧ ((s.2.2.1 43 x1.toNatClampNeg) = (Int32.ofInt 4) → (rf_in (s.2.2.1 42 x1.toNatClampNeg) 2000 ∧ ((¬ (s.2.2.1 2 (s.2.2.1 42 x1.toNatClampNeg).toNatClampNeg) = ((Int8.ofInt 109).toInt32) → Q (Int32.ofInt 0) s) ∧ ((s.2.2.1 2 (s.2.2.1 42 x1.toNatClampNeg).toNatClampNeg) = ((Int8.ofInt 109).toInt32) → (rf_in ((s.2.2.1 42 x1.toNatClampNeg) + (Int32.ofInt 1)) 2000 ∧ ((¬ (s.2.2.1 2 ((s.2.2.1 42 x1.toNatClampNeg) + (Int32.ofInt 1)).toNatClampNeg) = ((Int8.ofInt 97).toInt32) → Q (Int32.ofInt 0) s) ∧ ((s.2.2.1 2 ((s.2.2.1 42 x1.toNatClampNeg) + (Int32.ofInt 1)).toNatClampNeg) = ((Int8.ofInt 97).toInt32) → (rf_in ((s.2.2.1 42 x1.toNatClampNeg) + (Int32.ofInt 2)) 2000 ∧ ((¬ (s.2.2.1 2 ((s.2.2.1 42 x1.toNatClampNeg) + (Int32.ofInt 2)).toNatClampNeg) = ((Int8.ofInt 105).toInt32) → Q (Int32.ofInt 0) s) ∧ ((s.2.2.1 2 ((s.2.2.1 42 x1.toNatClampNeg) + (Int32.ofInt 2)).toNatClampNeg) = ((Int8.ofInt 105).toInt32) → (rf_in ((s.2.2.1 42 x1.toNatClampNeg) + (Int32.ofInt 3)) 2000 ∧ ((¬ (s.2.2.1 2 ((s.2.2.1 42 x1.toNatClampNeg) + (Int32.ofInt 3)).toNatClampNeg) = ((Int8.ofInt 110).toInt32) → Q (Int32.ofInt 0) s) ∧ ((s.2.2.1 2 ((s.2.2.1 42 x1.toNatClampNeg) + (Int32.ofInt 3)).toNatClampNeg) = ((Int8.ofInt 110).toInt32) → Q (Int32.ofInt 1) s)))))))))))))))
set_option maxRecDepth 20000 in
theorem wr_isMain_ok {d : Nat} {x1 : Int32} {s : rf_S} {Q : Int32 → rf_S → Prop} (h : wr_isMain d x1 s Q) : rf_I d 37 [(0, .ref rf_o), (1, .int x1)] s Q := by
  unfold wr_isMain at h
  unfold rf_I
  refine rf_R_wv rp_37 (rf_bk am_t37 0 11) 0 [(0, .ref rf_o), (1, .int x1)] [] s (by repeat (first | exact trivial | refine ⟨rfl, ?_⟩)) (by decide +kernel) ?_
  refine And.intro h.1 ?_
  replace h := h.2
  refine And.intro h.1 ?_
  replace h := h.2
  refine rf_R_if (b := am_cnd .ne (s.2.2.1 43 x1.toNatClampNeg) (Int32.ofInt 4)) (p := 71) (q := 17) (fun hb => ?_) (fun hb => ?_)
  · replace h := h.1 (of_decide_eq_true hb)
    refine rf_R_wv rp_37 (rf_bk am_t37 43 1) 71 [(2, .int (s.2.2.1 42 x1.toNatClampNeg)), (0, .ref rf_o), (1, .int x1)] [] s (by repeat (first | exact trivial | refine ⟨rfl, ?_⟩)) (by decide +kernel) ?_
    exact rf_R_ret (pc := 72) (v := some (.int (Int32.ofInt 0))) rp_37 rfl rfl rfl ⟨_, rfl, h⟩
  · replace h := h.2 (Decidable.not_not.mp (of_decide_eq_false hb))
    refine rf_R_wv rp_37 (rf_bk am_t37 11 6) 17 [(2, .int (s.2.2.1 42 x1.toNatClampNeg)), (0, .ref rf_o), (1, .int x1)] [] s (by repeat (first | exact trivial | refine ⟨rfl, ?_⟩)) (by decide +kernel) ?_
    refine And.intro h.1 ?_
    replace h := h.2
    refine rf_R_if (b := am_cnd .ne (s.2.2.1 2 (s.2.2.1 42 x1.toNatClampNeg).toNatClampNeg) ((Int8.ofInt 109).toInt32)) (p := 71) (q := 28) (fun hb => ?_) (fun hb => ?_)
    · replace h := h.1 (of_decide_eq_true hb)
      refine rf_R_wv rp_37 (rf_bk am_t37 43 1) 71 [(2, .int (s.2.2.1 42 x1.toNatClampNeg)), (0, .ref rf_o), (1, .int x1)] [] s (by repeat (first | exact trivial | refine ⟨rfl, ?_⟩)) (by decide +kernel) ?_
      exact rf_R_ret (pc := 72) (v := some (.int (Int32.ofInt 0))) rp_37 rfl rfl rfl ⟨_, rfl, h⟩
    · replace h := h.2 (Decidable.not_not.mp (of_decide_eq_false hb))
      refine rf_R_wv rp_37 (rf_bk am_t37 17 8) 28 [(2, .int (s.2.2.1 42 x1.toNatClampNeg)), (0, .ref rf_o), (1, .int x1)] [] s (by repeat (first | exact trivial | refine ⟨rfl, ?_⟩)) (by decide +kernel) ?_
      refine And.intro h.1 ?_
      replace h := h.2
      refine rf_R_if (b := am_cnd .ne (s.2.2.1 2 ((s.2.2.1 42 x1.toNatClampNeg) + (Int32.ofInt 1)).toNatClampNeg) ((Int8.ofInt 97).toInt32)) (p := 71) (q := 41) (fun hb => ?_) (fun hb => ?_)
      · replace h := h.1 (of_decide_eq_true hb)
        refine rf_R_wv rp_37 (rf_bk am_t37 43 1) 71 [(2, .int (s.2.2.1 42 x1.toNatClampNeg)), (0, .ref rf_o), (1, .int x1)] [] s (by repeat (first | exact trivial | refine ⟨rfl, ?_⟩)) (by decide +kernel) ?_
        exact rf_R_ret (pc := 72) (v := some (.int (Int32.ofInt 0))) rp_37 rfl rfl rfl ⟨_, rfl, h⟩
      · replace h := h.2 (Decidable.not_not.mp (of_decide_eq_false hb))
        refine rf_R_wv rp_37 (rf_bk am_t37 25 8) 41 [(2, .int (s.2.2.1 42 x1.toNatClampNeg)), (0, .ref rf_o), (1, .int x1)] [] s (by repeat (first | exact trivial | refine ⟨rfl, ?_⟩)) (by decide +kernel) ?_
        refine And.intro h.1 ?_
        replace h := h.2
        refine rf_R_if (b := am_cnd .ne (s.2.2.1 2 ((s.2.2.1 42 x1.toNatClampNeg) + (Int32.ofInt 2)).toNatClampNeg) ((Int8.ofInt 105).toInt32)) (p := 71) (q := 54) (fun hb => ?_) (fun hb => ?_)
        · replace h := h.1 (of_decide_eq_true hb)
          refine rf_R_wv rp_37 (rf_bk am_t37 43 1) 71 [(2, .int (s.2.2.1 42 x1.toNatClampNeg)), (0, .ref rf_o), (1, .int x1)] [] s (by repeat (first | exact trivial | refine ⟨rfl, ?_⟩)) (by decide +kernel) ?_
          exact rf_R_ret (pc := 72) (v := some (.int (Int32.ofInt 0))) rp_37 rfl rfl rfl ⟨_, rfl, h⟩
        · replace h := h.2 (Decidable.not_not.mp (of_decide_eq_false hb))
          refine rf_R_wv rp_37 (rf_bk am_t37 33 8) 54 [(2, .int (s.2.2.1 42 x1.toNatClampNeg)), (0, .ref rf_o), (1, .int x1)] [] s (by repeat (first | exact trivial | refine ⟨rfl, ?_⟩)) (by decide +kernel) ?_
          refine And.intro h.1 ?_
          replace h := h.2
          refine rf_R_if (b := am_cnd .ne (s.2.2.1 2 ((s.2.2.1 42 x1.toNatClampNeg) + (Int32.ofInt 3)).toNatClampNeg) ((Int8.ofInt 110).toInt32)) (p := 71) (q := 67) (fun hb => ?_) (fun hb => ?_)
          · replace h := h.1 (of_decide_eq_true hb)
            refine rf_R_wv rp_37 (rf_bk am_t37 43 1) 71 [(2, .int (s.2.2.1 42 x1.toNatClampNeg)), (0, .ref rf_o), (1, .int x1)] [] s (by repeat (first | exact trivial | refine ⟨rfl, ?_⟩)) (by decide +kernel) ?_
            exact rf_R_ret (pc := 72) (v := some (.int (Int32.ofInt 0))) rp_37 rfl rfl rfl ⟨_, rfl, h⟩
          · replace h := h.2 (Decidable.not_not.mp (of_decide_eq_false hb))
            refine rf_R_wv rp_37 (rf_bk am_t37 41 2) 67 [(2, .int (s.2.2.1 42 x1.toNatClampNeg)), (0, .ref rf_o), (1, .int x1)] [] s (by repeat (first | exact trivial | refine ⟨rfl, ?_⟩)) (by decide +kernel) ?_
            exact rf_R_ret (pc := 72) (v := some (.int (Int32.ofInt 1))) rp_37 rfl rfl rfl ⟨_, rfl, h⟩
/-- program ()I, from 232 on -/
def wr_program_232 (d : Nat) (s : rf_S) (Q : Int32 → rf_S → Prop) : Prop := (((s.1 9) < 0 → rf_V d 42 [(0, .ref rf_o)] s (fun s1 => Q (s1.1 41) (rf_si s1 40 (Int32.ofInt 1)))) ∧ (¬ ((s.1 9) < 0) → Q ((Int32.ofInt (-1)) - (s.1 9)) s))
set_option maxRecDepth 20000 in
theorem wr_program_232_ok {d : Nat} {s : rf_S} {Q : Int32 → rf_S → Prop} (h : wr_program_232 d s Q) : rf_R (d + 1) 38 (232, [(0, .ref rf_o)], [], s) (rf_qI Q) := by
  unfold wr_program_232 at h
  refine rf_R_wv rp_38 (rf_bk am_t38 125 3) 232 [(0, .ref rf_o)] [] s (by repeat (first | exact trivial | refine ⟨rfl, ?_⟩)) (by decide +kernel) ?_
  refine rf_R_if (b := am_cnd .lt (s.1 9) 0) (p := 246) (q := 239) (fun hb => ?_) (fun hb => ?_)
  · replace h := h.1 (of_decide_eq_true hb)
    refine rf_R_wv rp_38 (rf_bk am_t38 133 1) 246 [(0, .ref rf_o)] [] s (by repeat (first | exact trivial | refine ⟨rfl, ?_⟩)) (by decide +kernel) ?_
    refine rf_R_call (pc := 247) (q := ([.ref rf_o], [])) rp_38 rfl rfl (by decide) rp_42 rfl (Nat.le_of_ble_eq_true rfl) ⟨rfl, Nat.le_of_ble_eq_true rfl⟩ h (fun v s1 h => ?_)
    obtain ⟨rfl, h⟩ := h
    refine rf_R_wv rp_38 (rf_bk am_t38 135 3) 250 [(0, .ref rf_o)] [] s1 (by repeat (first | exact trivial | refine ⟨rfl, ?_⟩)) (by decide +kernel) ?_
    refine And.intro rfl ?_
    refine rf_R_wv rp_38 (rf_bk am_t38 138 2) 255 [(0, .ref rf_o)] [] (rf_si s1 40 (Int32.ofInt 1)) (by repeat (first | exact trivial | refine ⟨rfl, ?_⟩)) (by decide +kernel) ?_
    exact rf_R_ret (pc := 259) (v := some (.int (s1.1 41))) rp_38 rfl rfl rfl ⟨_, rfl, h⟩
  · replace h := h.2 (of_decide_eq_false hb)
    refine rf_R_wv rp_38 (rf_bk am_t38 128 4) 239 [(0, .ref rf_o)] [] s (by repeat (first | exact trivial | refine ⟨rfl, ?_⟩)) (by decide +kernel) ?_
    exact rf_R_ret (pc := 245) (v := some (.int ((Int32.ofInt (-1)) - (s.1 9)))) rp_38 rfl rfl rfl ⟨_, rfl, h⟩
/-- program ()I, from 201 on -/
def wr_program_201 (d : Nat) (x2 : Int32) (y0 : Int32) (s : rf_S) (Q : Int32 → rf_S → Prop) : Prop := rf_R (d + 1) 38 (167, [(0, .ref rf_o), (2, .int (x2 + Int32.ofInt 1))], [], (rf_si s 47 y0)) (rf_qI Q)
set_option maxRecDepth 20000 in
theorem wr_program_201_ok {d : Nat} {x2 : Int32} {y0 : Int32} {s : rf_S} {Q : Int32 → rf_S → Prop} (h : wr_program_201 d x2 y0 s Q) : rf_R (d + 1) 38 (201, [(0, .ref rf_o), (2, .int x2)], [.int y0, .ref rf_o], s) (rf_qI Q) := by
  unfold wr_program_201 at h
  refine rf_R_wv rp_38 (rf_bk am_t38 112 1) 201 [(0, .ref rf_o), (2, .int x2)] [.int y0, .ref rf_o] s (by repeat (first | exact trivial | refine ⟨rfl, ?_⟩)) (by decide +kernel) ?_
  refine And.intro rfl ?_
  refine rf_R_wv rp_38 (rf_bk am_t38 113 2) 204 [(0, .ref rf_o), (2, .int x2)] [] (rf_si s 47 y0) (by repeat (first | exact trivial | refine ⟨rfl, ?_⟩)) (by decide +kernel) ?_
  exact rf_R_le (l := [(0, .ref rf_o), (2, .int (x2 + Int32.ofInt 1))]) rfl rfl (⟨rfl, rfl, trivial⟩) h
/-- program ()I, from 197 on -/
def wr_program_197 (d : Nat) (x2 : Int32) (s : rf_S) (Q : Int32 → rf_S → Prop) : Prop := wr_program_201 d x2 (s.1 47) s Q
set_option maxRecDepth 20000 in
theorem wr_program_197_ok {d : Nat} {x2 : Int32} {s : rf_S} {Q : Int32 → rf_S → Prop} (h : wr_program_197 d x2 s Q) : rf_R (d + 1) 38 (197, [(0, .ref rf_o), (2, .int x2)], [.ref rf_o], s) (rf_qI Q) := by
  unfold wr_program_197 at h
  refine rf_R_wv rp_38 (rf_bk am_t38 110 2) 197 [(0, .ref rf_o), (2, .int x2)] [.ref rf_o] s (by repeat (first | exact trivial | refine ⟨rfl, ?_⟩)) (by decide +kernel) ?_
  exact rf_R_le (l := [(0, .ref rf_o), (2, .int x2)]) rfl rfl (⟨rfl, rfl, trivial⟩) (wr_program_201_ok h)
/-- program ()I, from 167 on -/
def wr_program_167 (d : Nat) (x2 : Int32) (s : rf_S) (Q : Int32 → rf_S → Prop) : Prop := (((s.1 41) ≤ x2 → ((0 ≤ (s.1 9) → wr_program_232 d s Q) ∧ (¬ (0 ≤ (s.1 9)) → ((0 ≤ (s.1 47) → wr_program_232 d s Q) ∧ (¬ (0 ≤ (s.1 47)) → wr_program_232 d (rf_si s 9 (s.1 3)) Q))))) ∧ (¬ ((s.1 41) ≤ x2) → rf_I d 37 [(0, .ref rf_o), (1, .int x2)] s (fun r1 s1 => ((r1 = 0 → wr_program_197 d x2 s1 Q) ∧ (¬ (r1 = 0) → (rf_in x2 700 ∧ ((¬ (s1.2.2.1 45 x2.toNatClampNeg) = 0 → wr_program_197 d x2 s1 Q) ∧ ((s1.2.2.1 45 x2.toNatClampNeg) = 0 → wr_program_201 d x2 x2 s1 Q))))))))
set_option maxRecDepth 20000 in
theorem wr_program_167_ok {d : Nat} {x2 : Int32} {s : rf_S} {Q : Int32 → rf_S → Prop} (h : wr_program_167 d x2 s Q) : rf_R (d + 1) 38 (167, [(0, .ref rf_o), (2, .int x2)], [], s) (rf_qI Q) := by
  unfold wr_program_167 at h
  refine rf_R_wv rp_38 (rf_bk am_t38 94 4) 167 [(0, .ref rf_o), (2, .int x2)] [] s (by repeat (first | exact trivial | refine ⟨rfl, ?_⟩)) (by decide +kernel) ?_
  refine rf_R_if (b := am_cnd .ge x2 (s.1 41)) (p := 210) (q := 175) (fun hb => ?_) (fun hb => ?_)
  · replace h := h.1 (of_decide_eq_true hb)
    refine rf_R_wv rp_38 (rf_bk am_t38 115 3) 210 [(0, .ref rf_o), (2, .int x2)] [] s (by repeat (first | exact trivial | refine ⟨rfl, ?_⟩)) (by decide +kernel) ?_
    refine rf_R_if (b := am_cnd .ge (s.1 9) 0) (p := 232) (q := 217) (fun hb => ?_) (fun hb => ?_)
    · replace h := h.1 (of_decide_eq_true hb)
      exact rf_R_le (l := [(0, .ref rf_o)]) rfl rfl (⟨rfl, trivial⟩) (wr_program_232_ok h)
    · replace h := h.2 (of_decide_eq_false hb)
      refine rf_R_wv rp_38 (rf_bk am_t38 118 3) 217 [(0, .ref rf_o), (2, .int x2)] [] s (by repeat (first | exact trivial | refine ⟨rfl, ?_⟩)) (by decide +kernel) ?_
      refine rf_R_if (b := am_cnd .ge (s.1 47) 0) (p := 232) (q := 224) (fun hb => ?_) (fun hb => ?_)
      · replace h := h.1 (of_decide_eq_true hb)
        exact rf_R_le (l := [(0, .ref rf_o)]) rfl rfl (⟨rfl, trivial⟩) (wr_program_232_ok h)
      · replace h := h.2 (of_decide_eq_false hb)
        refine rf_R_wv rp_38 (rf_bk am_t38 121 4) 224 [(0, .ref rf_o), (2, .int x2)] [] s (by repeat (first | exact trivial | refine ⟨rfl, ?_⟩)) (by decide +kernel) ?_
        refine And.intro rfl ?_
        exact rf_R_le (l := [(0, .ref rf_o)]) rfl rfl (⟨rfl, trivial⟩) (wr_program_232_ok h)
  · replace h := h.2 (of_decide_eq_false hb)
    refine rf_R_wv rp_38 (rf_bk am_t38 98 3) 175 [(0, .ref rf_o), (2, .int x2)] [] s (by repeat (first | exact trivial | refine ⟨rfl, ?_⟩)) (by decide +kernel) ?_
    refine rf_R_call (pc := 178) (q := ([.ref rf_o, .int x2], [.ref rf_o])) rp_38 rfl rfl (by decide) rp_37 rfl (Nat.le_of_ble_eq_true rfl) ⟨rfl, Nat.le_of_ble_eq_true rfl⟩ h (fun v s1 h => ?_)
    obtain ⟨r1, rfl, h⟩ := h
    refine rf_R_wv rp_38 (rf_bk am_t38 102 1) 181 [(0, .ref rf_o), (2, .int x2)] [.int r1, .ref rf_o] s1 (by repeat (first | exact trivial | refine ⟨rfl, ?_⟩)) (by decide +kernel) ?_
    refine rf_R_if (b := am_cnd .eq r1 0) (p := 197) (q := 184) (fun hb => ?_) (fun hb => ?_)
    · replace h := h.1 (of_decide_eq_true hb)
      exact rf_R_le (l := [(0, .ref rf_o), (2, .int x2)]) rfl rfl (⟨rfl, rfl, trivial⟩) (wr_program_197_ok h)
    · replace h := h.2 (of_decide_eq_false hb)
      refine rf_R_wv rp_38 (rf_bk am_t38 103 5) 184 [(0, .ref rf_o), (2, .int x2)] [.ref rf_o] s1 (by repeat (first | exact trivial | refine ⟨rfl, ?_⟩)) (by decide +kernel) ?_
      refine And.intro h.1 ?_
      replace h := h.2
      refine rf_R_if (b := am_cnd .ne (s1.2.2.1 45 x2.toNatClampNeg) 0) (p := 197) (q := 193) (fun hb => ?_) (fun hb => ?_)
      · replace h := h.1 (of_decide_eq_true hb)
        exact rf_R_le (l := [(0, .ref rf_o), (2, .int x2)]) rfl rfl (⟨rfl, rfl, trivial⟩) (wr_program_197_ok h)
      · replace h := h.2 (Decidable.not_not.mp (of_decide_eq_false hb))
        refine rf_R_wv rp_38 (rf_bk am_t38 108 2) 193 [(0, .ref rf_o), (2, .int x2)] [.ref rf_o] s1 (by repeat (first | exact trivial | refine ⟨rfl, ?_⟩)) (by decide +kernel) ?_
        exact rf_R_le (l := [(0, .ref rf_o), (2, .int x2)]) rfl rfl (⟨rfl, rfl, trivial⟩) (wr_program_201_ok h)
/-- program ()I, from 160 on -/
def wr_program_160 (d : Nat) (s : rf_S) (Q : Int32 → rf_S → Prop) : Prop := rf_R (d + 1) 38 (167, [(0, .ref rf_o), (2, .int (Int32.ofInt 0))], [], (rf_si s 47 (Int32.ofInt (-1)))) (rf_qI Q)
set_option maxRecDepth 20000 in
theorem wr_program_160_ok {d : Nat} {s : rf_S} {Q : Int32 → rf_S → Prop} (h : wr_program_160 d s Q) : rf_R (d + 1) 38 (160, [(0, .ref rf_o)], [], s) (rf_qI Q) := by
  unfold wr_program_160 at h
  refine rf_R_wv rp_38 (rf_bk am_t38 89 3) 160 [(0, .ref rf_o)] [] s (by repeat (first | exact trivial | refine ⟨rfl, ?_⟩)) (by decide +kernel) ?_
  refine And.intro rfl ?_
  refine rf_R_wv rp_38 (rf_bk am_t38 92 2) 165 [(0, .ref rf_o)] [] (rf_si s 47 (Int32.ofInt (-1))) (by repeat (first | exact trivial | refine ⟨rfl, ?_⟩)) (by decide +kernel) ?_
  exact rf_R_le (l := [(0, .ref rf_o), (2, .int (Int32.ofInt 0))]) rfl rfl (⟨rfl, rfl, trivial⟩) h
/-- program ()I, from 145 on -/
def wr_program_145 (d : Nat) (y0 : Int32) (s : rf_S) (Q : Int32 → rf_S → Prop) : Prop := rf_R (d + 1) 38 (118, [(0, .ref rf_o), (1, .int y0)], [], s) (rf_qI Q)
set_option maxRecDepth 20000 in
theorem wr_program_145_ok {d : Nat} {y0 : Int32} {s : rf_S} {Q : Int32 → rf_S → Prop} (h : wr_program_145 d y0 s Q) : rf_R (d + 1) 38 (145, [(0, .ref rf_o)], [.int y0], s) (rf_qI Q) := by
  unfold wr_program_145 at h
  refine rf_R_wv rp_38 (rf_bk am_t38 82 2) 145 [(0, .ref rf_o)] [.int y0] s (by repeat (first | exact trivial | refine ⟨rfl, ?_⟩)) (by decide +kernel) ?_
  exact rf_R_le (l := [(0, .ref rf_o), (1, .int y0)]) rfl rfl (⟨rfl, rfl, trivial⟩) h
/-- program ()I, from 144 on -/
def wr_program_144 (d : Nat) (s : rf_S) (Q : Int32 → rf_S → Prop) : Prop := wr_program_145 d (Int32.ofInt 0) s Q
set_option maxRecDepth 20000 in
theorem wr_program_144_ok {d : Nat} {s : rf_S} {Q : Int32 → rf_S → Prop} (h : wr_program_144 d s Q) : rf_R (d + 1) 38 (144, [(0, .ref rf_o)], [], s) (rf_qI Q) := by
  unfold wr_program_144 at h
  refine rf_R_wv rp_38 (rf_bk am_t38 81 1) 144 [(0, .ref rf_o)] [] s (by repeat (first | exact trivial | refine ⟨rfl, ?_⟩)) (by decide +kernel) ?_
  exact rf_R_le (l := [(0, .ref rf_o)]) rfl rfl (⟨rfl, trivial⟩) (wr_program_145_ok h)
/-- program ()I, from 118 on -/
def wr_program_118 (d : Nat) (x1 : Int32) (s : rf_S) (Q : Int32 → rf_S → Prop) : Prop := ((x1 = 0 → ((0 ≤ (s.1 9) → wr_program_160 d s Q) ∧ (¬ (0 ≤ (s.1 9)) → rf_V d 36 [(0, .ref rf_o)] s (fun s1 => wr_program_160 d s1 Q)))) ∧ (¬ (x1 = 0) → rf_V d 34 [(0, .ref rf_o)] s (fun s2 => (((s2.1 5) = 0 → wr_program_144 d s2 Q) ∧ (¬ ((s2.1 5) = 0) → ((0 ≤ (s2.1 9) → wr_program_144 d s2 Q) ∧ (¬ (0 ≤ (s2.1 9)) → wr_program_145 d (Int32.ofInt 1) s2 Q)))))))
set_option maxRecDepth 20000 in
theorem wr_program_118_ok {d : Nat} {x1 : Int32} {s : rf_S} {Q : Int32 → rf_S → Prop} (h : wr_program_118 d x1 s Q) : rf_R (d + 1) 38 (118, [(0, .ref rf_o), (1, .int x1)], [], s) (rf_qI Q) := by
  unfold wr_program_118 at h
  refine rf_R_wv rp_38 (rf_bk am_t38 69 2) 118 [(0, .ref rf_o), (1, .int x1)] [] s (by repeat (first | exact trivial | refine ⟨rfl, ?_⟩)) (by decide +kernel) ?_
  refine rf_R_if (b := am_cnd .eq x1 0) (p := 149) (q := 122) (fun hb => ?_) (fun hb => ?_)
  · replace h := h.1 (of_decide_eq_true hb)
    refine rf_R_wv rp_38 (rf_bk am_t38 84 3) 149 [(0, .ref rf_o), (1, .int x1)] [] s (by repeat (first | exact trivial | refine ⟨rfl, ?_⟩)) (by decide +kernel) ?_
    refine rf_R_if (b := am_cnd .ge (s.1 9) 0) (p := 160) (q := 156) (fun hb => ?_) (fun hb => ?_)
    · replace h := h.1 (of_decide_eq_true hb)
      exact rf_R_le (l := [(0, .ref rf_o)]) rfl rfl (⟨rfl, trivial⟩) (wr_program_160_ok h)
    · replace h := h.2 (of_decide_eq_false hb)
      refine rf_R_wv rp_38 (rf_bk am_t38 87 1) 156 [(0, .ref rf_o), (1, .int x1)] [] s (by repeat (first | exact trivial | refine ⟨rfl, ?_⟩)) (by decide +kernel) ?_
      refine rf_R_call (pc := 157) (q := ([.ref rf_o], [])) rp_38 rfl rfl (by decide) rp_36 rfl (Nat.le_of_ble_eq_true rfl) ⟨rfl, Nat.le_of_ble_eq_true rfl⟩ h (fun v s1 h => ?_)
      obtain ⟨rfl, h⟩ := h
      exact rf_R_le (l := [(0, .ref rf_o)]) rfl rfl (⟨rfl, trivial⟩) (wr_program_160_ok h)
  · replace h := h.2 (of_decide_eq_false hb)
    refine rf_R_wv rp_38 (rf_bk am_t38 71 1) 122 [(0, .ref rf_o), (1, .int x1)] [] s (by repeat (first | exact trivial | refine ⟨rfl, ?_⟩)) (by decide +kernel) ?_
    refine rf_R_call (pc := 123) (q := ([.ref rf_o], [])) rp_38 rfl rfl (by decide) rp_34 rfl (Nat.le_of_ble_eq_true rfl) ⟨rfl, Nat.le_of_ble_eq_true rfl⟩ h (fun v s2 h => ?_)
    obtain ⟨rfl, h⟩ := h
    refine rf_R_wv rp_38 (rf_bk am_t38 73 3) 126 [(0, .ref rf_o), (1, .int x1)] [] s2 (by repeat (first | exact trivial | refine ⟨rfl, ?_⟩)) (by decide +kernel) ?_
    refine rf_R_if (b := am_cnd .eq (s2.1 5) 0) (p := 144) (q := 133) (fun hb => ?_) (fun hb => ?_)
    · replace h := h.1 (of_decide_eq_true hb)
      exact rf_R_le (l := [(0, .ref rf_o)]) rfl rfl (⟨rfl, trivial⟩) (wr_program_144_ok h)
    · replace h := h.2 (of_decide_eq_false hb)
      refine rf_R_wv rp_38 (rf_bk am_t38 76 3) 133 [(0, .ref rf_o), (1, .int x1)] [] s2 (by repeat (first | exact trivial | refine ⟨rfl, ?_⟩)) (by decide +kernel) ?_
      refine rf_R_if (b := am_cnd .ge (s2.1 9) 0) (p := 144) (q := 140) (fun hb => ?_) (fun hb => ?_)
      · replace h := h.1 (of_decide_eq_true hb)
        exact rf_R_le (l := [(0, .ref rf_o)]) rfl rfl (⟨rfl, trivial⟩) (wr_program_144_ok h)
      · replace h := h.2 (of_decide_eq_false hb)
        refine rf_R_wv rp_38 (rf_bk am_t38 79 2) 140 [(0, .ref rf_o), (1, .int x1)] [] s2 (by repeat (first | exact trivial | refine ⟨rfl, ?_⟩)) (by decide +kernel) ?_
        exact rf_R_le (l := [(0, .ref rf_o)]) rfl rfl (⟨rfl, trivial⟩) (wr_program_145_ok h)
/-- program ()I, from 10 on -/
def wr_program_10 (d : Nat) (x1 : Int32) (s : rf_S) (Q : Int32 → rf_S → Prop) : Prop := (((s.1 1) ≤ x1 → rf_V d 9 [(0, .ref rf_o)] (rf_si (rf_si (rf_si (rf_si (rf_si (rf_si (rf_si (rf_si (rf_si (rf_si (rf_si (rf_si (rf_si (rf_si (rf_si s 1 (Int32.ofInt 0)) 40 (Int32.ofInt 0)) 73 (Int32.ofInt 0)) 9 (Int32.ofInt (-1))) 10 (Int32.ofInt 0)) 11 (Int32.ofInt 0)) 16 (Int32.ofInt 0)) 18 (Int32.ofInt 0)) 23 (Int32.ofInt 0)) 26 (Int32.ofInt 0)) 30 (Int32.ofInt 0)) 35 (Int32.ofInt 2)) 39 ((Int8.ofInt 9).toInt32)) 41 (Int32.ofInt 0)) 4 (Int32.ofInt 0)) (fun s1 => rf_R (d + 1) 38 (118, [(0, .ref rf_o), (1, .int (Int32.ofInt 1))], [], s1) (rf_qI Q))) ∧ (¬ ((s.1 1) ≤ x1) → (rf_in x1 2000 ∧ rf_in x1 2000 ∧ rf_R (d + 1) 38 (10, [(0, .ref rf_o), (1, .int (x1 + Int32.ofInt 1))], [], (rf_sb s 2 x1.toNatClampNeg (s.2.2.1 0 x1.toNatClampNeg))) (rf_qI Q))))
set_option maxRecDepth 20000 in
theorem wr_program_10_ok {d : Nat} {x1 : Int32} {s : rf_S} {Q : Int32 → rf_S → Prop} (h : wr_program_10 d x1 s Q) : rf_R (d + 1) 38 (10, [(0, .ref rf_o), (1, .int x1)], [], s) (rf_qI Q) := by
  unfold wr_program_10 at h
  refine rf_R_wv rp_38 (rf_bk am_t38 6 4) 10 [(0, .ref rf_o), (1, .int x1)] [] s (by repeat (first | exact trivial | refine ⟨rfl, ?_⟩)) (by decide +kernel) ?_
  refine rf_R_if (b := am_cnd .ge x1 (s.1 1)) (p := 36) (q := 18) (fun hb => ?_) (fun hb => ?_)
  · replace h := h.1 (of_decide_eq_true hb)
    refine rf_R_wv rp_38 (rf_bk am_t38 20 3) 36 [(0, .ref rf_o), (1, .int x1)] [] s (by repeat (first | exact trivial | refine ⟨rfl, ?_⟩)) (by decide +kernel) ?_
    refine And.intro rfl ?_
    refine rf_R_wv rp_38 (rf_bk am_t38 23 3) 41 [(0, .ref rf_o), (1, .int x1)] [] (rf_si s 1 (Int32.ofInt 0)) (by repeat (first | exact trivial | refine ⟨rfl, ?_⟩)) (by decide +kernel) ?_
    refine And.intro rfl ?_
    refine rf_R_wv rp_38 (rf_bk am_t38 26 3) 46 [(0, .ref rf_o), (1, .int x1)] [] (rf_si (rf_si s 1 (Int32.ofInt 0)) 40 (Int32.ofInt 0)) (by repeat (first | exact trivial | refine ⟨rfl, ?_⟩)) (by decide +kernel) ?_
    refine And.intro rfl ?_
    refine rf_R_wv rp_38 (rf_bk am_t38 29 3) 51 [(0, .ref rf_o), (1, .int x1)] [] (rf_si (rf_si (rf_si s 1 (Int32.ofInt 0)) 40 (Int32.ofInt 0)) 73 (Int32.ofInt 0)) (by repeat (first | exact trivial | refine ⟨rfl, ?_⟩)) (by decide +kernel) ?_
    refine And.intro rfl ?_
    refine rf_R_wv rp_38 (rf_bk am_t38 32 3) 56 [(0, .ref rf_o), (1, .int x1)] [] (rf_si (rf_si (rf_si (rf_si s 1 (Int32.ofInt 0)) 40 (Int32.ofInt 0)) 73 (Int32.ofInt 0)) 9 (Int32.ofInt (-1))) (by repeat (first | exact trivial | refine ⟨rfl, ?_⟩)) (by decide +kernel) ?_
    refine And.intro rfl ?_
    refine rf_R_wv rp_38 (rf_bk am_t38 35 3) 61 [(0, .ref rf_o), (1, .int x1)] [] (rf_si (rf_si (rf_si (rf_si (rf_si s 1 (Int32.ofInt 0)) 40 (Int32.ofInt 0)) 73 (Int32.ofInt 0)) 9 (Int32.ofInt (-1))) 10 (Int32.ofInt 0)) (by repeat (first | exact trivial | refine ⟨rfl, ?_⟩)) (by decide +kernel) ?_
    refine And.intro rfl ?_
    refine rf_R_wv rp_38 (rf_bk am_t38 38 3) 66 [(0, .ref rf_o), (1, .int x1)] [] (rf_si (rf_si (rf_si (rf_si (rf_si (rf_si s 1 (Int32.ofInt 0)) 40 (Int32.ofInt 0)) 73 (Int32.ofInt 0)) 9 (Int32.ofInt (-1))) 10 (Int32.ofInt 0)) 11 (Int32.ofInt 0)) (by repeat (first | exact trivial | refine ⟨rfl, ?_⟩)) (by decide +kernel) ?_
    refine And.intro rfl ?_
    refine rf_R_wv rp_38 (rf_bk am_t38 41 3) 71 [(0, .ref rf_o), (1, .int x1)] [] (rf_si (rf_si (rf_si (rf_si (rf_si (rf_si (rf_si s 1 (Int32.ofInt 0)) 40 (Int32.ofInt 0)) 73 (Int32.ofInt 0)) 9 (Int32.ofInt (-1))) 10 (Int32.ofInt 0)) 11 (Int32.ofInt 0)) 16 (Int32.ofInt 0)) (by repeat (first | exact trivial | refine ⟨rfl, ?_⟩)) (by decide +kernel) ?_
    refine And.intro rfl ?_
    refine rf_R_wv rp_38 (rf_bk am_t38 44 3) 76 [(0, .ref rf_o), (1, .int x1)] [] (rf_si (rf_si (rf_si (rf_si (rf_si (rf_si (rf_si (rf_si s 1 (Int32.ofInt 0)) 40 (Int32.ofInt 0)) 73 (Int32.ofInt 0)) 9 (Int32.ofInt (-1))) 10 (Int32.ofInt 0)) 11 (Int32.ofInt 0)) 16 (Int32.ofInt 0)) 18 (Int32.ofInt 0)) (by repeat (first | exact trivial | refine ⟨rfl, ?_⟩)) (by decide +kernel) ?_
    refine And.intro rfl ?_
    refine rf_R_wv rp_38 (rf_bk am_t38 47 3) 81 [(0, .ref rf_o), (1, .int x1)] [] (rf_si (rf_si (rf_si (rf_si (rf_si (rf_si (rf_si (rf_si (rf_si s 1 (Int32.ofInt 0)) 40 (Int32.ofInt 0)) 73 (Int32.ofInt 0)) 9 (Int32.ofInt (-1))) 10 (Int32.ofInt 0)) 11 (Int32.ofInt 0)) 16 (Int32.ofInt 0)) 18 (Int32.ofInt 0)) 23 (Int32.ofInt 0)) (by repeat (first | exact trivial | refine ⟨rfl, ?_⟩)) (by decide +kernel) ?_
    refine And.intro rfl ?_
    refine rf_R_wv rp_38 (rf_bk am_t38 50 3) 86 [(0, .ref rf_o), (1, .int x1)] [] (rf_si (rf_si (rf_si (rf_si (rf_si (rf_si (rf_si (rf_si (rf_si (rf_si s 1 (Int32.ofInt 0)) 40 (Int32.ofInt 0)) 73 (Int32.ofInt 0)) 9 (Int32.ofInt (-1))) 10 (Int32.ofInt 0)) 11 (Int32.ofInt 0)) 16 (Int32.ofInt 0)) 18 (Int32.ofInt 0)) 23 (Int32.ofInt 0)) 26 (Int32.ofInt 0)) (by repeat (first | exact trivial | refine ⟨rfl, ?_⟩)) (by decide +kernel) ?_
    refine And.intro rfl ?_
    refine rf_R_wv rp_38 (rf_bk am_t38 53 3) 91 [(0, .ref rf_o), (1, .int x1)] [] (rf_si (rf_si (rf_si (rf_si (rf_si (rf_si (rf_si (rf_si (rf_si (rf_si (rf_si s 1 (Int32.ofInt 0)) 40 (Int32.ofInt 0)) 73 (Int32.ofInt 0)) 9 (Int32.ofInt (-1))) 10 (Int32.ofInt 0)) 11 (Int32.ofInt 0)) 16 (Int32.ofInt 0)) 18 (Int32.ofInt 0)) 23 (Int32.ofInt 0)) 26 (Int32.ofInt 0)) 30 (Int32.ofInt 0)) (by repeat (first | exact trivial | refine ⟨rfl, ?_⟩)) (by decide +kernel) ?_
    refine And.intro rfl ?_
    refine rf_R_wv rp_38 (rf_bk am_t38 56 3) 96 [(0, .ref rf_o), (1, .int x1)] [] (rf_si (rf_si (rf_si (rf_si (rf_si (rf_si (rf_si (rf_si (rf_si (rf_si (rf_si (rf_si s 1 (Int32.ofInt 0)) 40 (Int32.ofInt 0)) 73 (Int32.ofInt 0)) 9 (Int32.ofInt (-1))) 10 (Int32.ofInt 0)) 11 (Int32.ofInt 0)) 16 (Int32.ofInt 0)) 18 (Int32.ofInt 0)) 23 (Int32.ofInt 0)) 26 (Int32.ofInt 0)) 30 (Int32.ofInt 0)) 35 (Int32.ofInt 2)) (by repeat (first | exact trivial | refine ⟨rfl, ?_⟩)) (by decide +kernel) ?_
    refine And.intro rfl ?_
    refine rf_R_wv rp_38 (rf_bk am_t38 59 3) 102 [(0, .ref rf_o), (1, .int x1)] [] (rf_si (rf_si (rf_si (rf_si (rf_si (rf_si (rf_si (rf_si (rf_si (rf_si (rf_si (rf_si (rf_si s 1 (Int32.ofInt 0)) 40 (Int32.ofInt 0)) 73 (Int32.ofInt 0)) 9 (Int32.ofInt (-1))) 10 (Int32.ofInt 0)) 11 (Int32.ofInt 0)) 16 (Int32.ofInt 0)) 18 (Int32.ofInt 0)) 23 (Int32.ofInt 0)) 26 (Int32.ofInt 0)) 30 (Int32.ofInt 0)) 35 (Int32.ofInt 2)) 39 ((Int8.ofInt 9).toInt32)) (by repeat (first | exact trivial | refine ⟨rfl, ?_⟩)) (by decide +kernel) ?_
    refine And.intro rfl ?_
    refine rf_R_wv rp_38 (rf_bk am_t38 62 3) 107 [(0, .ref rf_o), (1, .int x1)] [] (rf_si (rf_si (rf_si (rf_si (rf_si (rf_si (rf_si (rf_si (rf_si (rf_si (rf_si (rf_si (rf_si (rf_si s 1 (Int32.ofInt 0)) 40 (Int32.ofInt 0)) 73 (Int32.ofInt 0)) 9 (Int32.ofInt (-1))) 10 (Int32.ofInt 0)) 11 (Int32.ofInt 0)) 16 (Int32.ofInt 0)) 18 (Int32.ofInt 0)) 23 (Int32.ofInt 0)) 26 (Int32.ofInt 0)) 30 (Int32.ofInt 0)) 35 (Int32.ofInt 2)) 39 ((Int8.ofInt 9).toInt32)) 41 (Int32.ofInt 0)) (by repeat (first | exact trivial | refine ⟨rfl, ?_⟩)) (by decide +kernel) ?_
    refine And.intro rfl ?_
    refine rf_R_wv rp_38 (rf_bk am_t38 65 1) 112 [(0, .ref rf_o), (1, .int x1)] [] (rf_si (rf_si (rf_si (rf_si (rf_si (rf_si (rf_si (rf_si (rf_si (rf_si (rf_si (rf_si (rf_si (rf_si (rf_si s 1 (Int32.ofInt 0)) 40 (Int32.ofInt 0)) 73 (Int32.ofInt 0)) 9 (Int32.ofInt (-1))) 10 (Int32.ofInt 0)) 11 (Int32.ofInt 0)) 16 (Int32.ofInt 0)) 18 (Int32.ofInt 0)) 23 (Int32.ofInt 0)) 26 (Int32.ofInt 0)) 30 (Int32.ofInt 0)) 35 (Int32.ofInt 2)) 39 ((Int8.ofInt 9).toInt32)) 41 (Int32.ofInt 0)) 4 (Int32.ofInt 0)) (by repeat (first | exact trivial | refine ⟨rfl, ?_⟩)) (by decide +kernel) ?_
    refine rf_R_call (pc := 113) (q := ([.ref rf_o], [])) rp_38 rfl rfl (by decide) rp_9 rfl (Nat.le_of_ble_eq_true rfl) ⟨rfl, Nat.le_of_ble_eq_true rfl⟩ h (fun v s1 h => ?_)
    obtain ⟨rfl, h⟩ := h
    refine rf_R_wv rp_38 (rf_bk am_t38 67 2) 116 [(0, .ref rf_o), (1, .int x1)] [] s1 (by repeat (first | exact trivial | refine ⟨rfl, ?_⟩)) (by decide +kernel) ?_
    exact rf_R_le (l := [(0, .ref rf_o), (1, .int (Int32.ofInt 1))]) rfl rfl (⟨rfl, rfl, trivial⟩) h
  · replace h := h.2 (of_decide_eq_false hb)
    refine rf_R_wv rp_38 (rf_bk am_t38 10 8) 18 [(0, .ref rf_o), (1, .int x1)] [] s (by repeat (first | exact trivial | refine ⟨rfl, ?_⟩)) (by decide +kernel) ?_
    refine And.intro h.1 ?_
    replace h := h.2
    refine And.intro h.1 ?_
    replace h := h.2
    refine rf_R_wv rp_38 (rf_bk am_t38 18 2) 30 [(0, .ref rf_o), (1, .int x1)] [] (rf_sb s 2 x1.toNatClampNeg (s.2.2.1 0 x1.toNatClampNeg)) (by repeat (first | exact trivial | refine ⟨rfl, ?_⟩)) (by decide +kernel) ?_
    exact rf_R_le (l := [(0, .ref rf_o), (1, .int (x1 + Int32.ofInt 1))]) rfl rfl (⟨rfl, rfl, trivial⟩) h
/-- program ()I, from 0 on -/
def wr_program (d : Nat) (s : rf_S) (Q : Int32 → rf_S → Prop) : Prop := rf_R (d + 1) 38 (10, [(0, .ref rf_o), (1, .int (Int32.ofInt 0))], [], (rf_si s 3 (s.1 1))) (rf_qI Q)
set_option maxRecDepth 20000 in
theorem wr_program_ok {d : Nat} {s : rf_S} {Q : Int32 → rf_S → Prop} (h : wr_program d s Q) : rf_I (d + 1) 38 [(0, .ref rf_o)] s Q := by
  unfold wr_program at h
  unfold rf_I
  refine rf_R_wv rp_38 (rf_bk am_t38 0 4) 0 [(0, .ref rf_o)] [] s (by repeat (first | exact trivial | refine ⟨rfl, ?_⟩)) (by decide +kernel) ?_
  refine And.intro rfl ?_
  refine rf_R_wv rp_38 (rf_bk am_t38 4 2) 8 [(0, .ref rf_o)] [] (rf_si s 3 (s.1 1)) (by repeat (first | exact trivial | refine ⟨rfl, ?_⟩)) (by decide +kernel) ?_
  exact rf_R_le (l := [(0, .ref rf_o), (1, .int (Int32.ofInt 0))]) rfl rfl (⟨rfl, rfl, trivial⟩) h
/-- addFree (I)V, from 7 on -/
def wr_addFree_7 (d : Nat) (x1 : Int32) (x2 : Int32) (s : rf_S) (Q : rf_S → Prop) : Prop := (rf_in (x1 + (Int32.ofInt 1)) 2101 ∧ (((s.2.2.1 20 (x1 + (Int32.ofInt 1)).toNatClampNeg) ≤ x2 → Q s) ∧ (¬ ((s.2.2.1 20 (x1 + (Int32.ofInt 1)).toNatClampNeg) ≤ x2) → (rf_in x2 131072 ∧ rf_in (s.2.2.1 21 x2.toNatClampNeg) 1100 ∧ rf_R d 39 (7, [(0, .ref rf_o), (1, .int x1), (2, .int (x2 + Int32.ofInt 1))], [], (rf_sb s 22 (s.2.2.1 21 x2.toNatClampNeg).toNatClampNeg (vp_nar .boolean (Int32.ofInt 1)))) (rf_qV Q)))))
set_option maxRecDepth 20000 in
theorem wr_addFree_7_ok {d : Nat} {x1 : Int32} {x2 : Int32} {s : rf_S} {Q : rf_S → Prop} (h : wr_addFree_7 d x1 x2 s Q) : rf_R d 39 (7, [(0, .ref rf_o), (1, .int x1), (2, .int x2)], [], s) (rf_qV Q) := by
  unfold wr_addFree_7 at h
  refine rf_R_wv rp_39 (rf_bk am_t39 5 8) 7 [(0, .ref rf_o), (1, .int x1), (2, .int x2)] [] s (by repeat (first | exact trivial | refine ⟨rfl, ?_⟩)) (by decide +kernel) ?_
  refine And.intro h.1 ?_
  replace h := h.2
  refine rf_R_if (b := am_cnd .ge x2 (s.2.2.1 20 (x1 + (Int32.ofInt 1)).toNatClampNeg)) (p := 37) (q := 19) (fun hb => ?_) (fun hb => ?_)
  · replace h := h.1 (of_decide_eq_true hb)
    exact rf_R_ret (pc := 37) rp_39 rfl rfl rfl ⟨rfl, h⟩
  · replace h := h.2 (of_decide_eq_false hb)
    refine rf_R_wv rp_39 (rf_bk am_t39 13 8) 19 [(0, .ref rf_o), (1, .int x1), (2, .int x2)] [] s (by repeat (first | exact trivial | refine ⟨rfl, ?_⟩)) (by decide +kernel) ?_
    refine And.intro h.1 ?_
    replace h := h.2
    refine And.intro h.1 ?_
    replace h := h.2
    refine rf_R_wv rp_39 (rf_bk am_t39 21 2) 31 [(0, .ref rf_o), (1, .int x1), (2, .int x2)] [] (rf_sb s 22 (s.2.2.1 21 x2.toNatClampNeg).toNatClampNeg (vp_nar .boolean (Int32.ofInt 1))) (by repeat (first | exact trivial | refine ⟨rfl, ?_⟩)) (by decide +kernel) ?_
    exact rf_R_le (l := [(0, .ref rf_o), (1, .int x1), (2, .int (x2 + Int32.ofInt 1))]) rfl rfl (⟨rfl, rfl, rfl, trivial⟩) h
/-- addFree (I)V, from 0 on -/
def wr_addFree (d : Nat) (x1 : Int32) (s : rf_S) (Q : rf_S → Prop) : Prop := (rf_in x1 2101 ∧ rf_R d 39 (7, [(0, .ref rf_o), (1, .int x1), (2, .int (s.2.2.1 20 x1.toNatClampNeg))], [], s) (rf_qV Q))
set_option maxRecDepth 20000 in
theorem wr_addFree_ok {d : Nat} {x1 : Int32} {s : rf_S} {Q : rf_S → Prop} (h : wr_addFree d x1 s Q) : rf_V d 39 [(0, .ref rf_o), (1, .int x1)] s Q := by
  unfold wr_addFree at h
  unfold rf_V
  refine rf_R_wv rp_39 (rf_bk am_t39 0 5) 0 [(0, .ref rf_o), (1, .int x1)] [] s (by repeat (first | exact trivial | refine ⟨rfl, ?_⟩)) (by decide +kernel) ?_
  refine And.intro h.1 ?_
  replace h := h.2
  exact rf_R_le (l := [(0, .ref rf_o), (1, .int x1), (2, .int (s.2.2.1 20 x1.toNatClampNeg))]) rfl rfl (⟨rfl, rfl, rfl, trivial⟩) h
/-- noFree (III)V, from 3 on -/
def wr_noFree_3 (d : Nat) (x1 : Int32) (x2 : Int32) (x3 : Int32) (x4 : Int32) (s : rf_S) (Q : rf_S → Prop) : Prop := ((x2 ≤ x4 → Q s) ∧ (¬ (x2 ≤ x4) → (rf_in (x1 + (x3 * x4)) 9000 ∧ rf_in (s.2.2.1 17 (x1 + (x3 * x4)).toNatClampNeg) 1100 ∧ rf_R d 40 (3, [(0, .ref rf_o), (1, .int x1), (2, .int x2), (3, .int x3), (4, .int (x4 + Int32.ofInt 1))], [], (rf_sb s 22 (s.2.2.1 17 (x1 + (x3 * x4)).toNatClampNeg).toNatClampNeg (vp_nar .boolean (Int32.ofInt 0)))) (rf_qV Q))))
set_option maxRecDepth 20000 in
theorem wr_noFree_3_ok {d : Nat} {x1 : Int32} {x2 : Int32} {x3 : Int32} {x4 : Int32} {s : rf_S} {Q : rf_S → Prop} (h : wr_noFree_3 d x1 x2 x3 x4 s Q) : rf_R d 40 (3, [(0, .ref rf_o), (1, .int x1), (2, .int x2), (3, .int x3), (4, .int x4)], [], s) (rf_qV Q) := by
  unfold wr_noFree_3 at h
  refine rf_R_wv rp_40 (rf_bk am_t40 2 3) 3 [(0, .ref rf_o), (1, .int x1), (2, .int x2), (3, .int x3), (4, .int x4)] [] s (by repeat (first | exact trivial | refine ⟨rfl, ?_⟩)) (by decide +kernel) ?_
  refine rf_R_if (b := am_cnd .ge x4 x2) (p := 32) (q := 9) (fun hb => ?_) (fun hb => ?_)
  · replace h := h.1 (of_decide_eq_true hb)
    exact rf_R_ret (pc := 32) rp_40 rfl rfl rfl ⟨rfl, h⟩
  · replace h := h.2 (of_decide_eq_false hb)
    refine rf_R_wv rp_40 (rf_bk am_t40 5 12) 9 [(0, .ref rf_o), (1, .int x1), (2, .int x2), (3, .int x3), (4, .int x4)] [] s (by repeat (first | exact trivial | refine ⟨rfl, ?_⟩)) (by decide +kernel) ?_
    refine And.intro h.1 ?_
    replace h := h.2
    refine And.intro h.1 ?_
    replace h := h.2
    refine rf_R_wv rp_40 (rf_bk am_t40 17 2) 26 [(0, .ref rf_o), (1, .int x1), (2, .int x2), (3, .int x3), (4, .int x4)] [] (rf_sb s 22 (s.2.2.1 17 (x1 + (x3 * x4)).toNatClampNeg).toNatClampNeg (vp_nar .boolean (Int32.ofInt 0))) (by repeat (first | exact trivial | refine ⟨rfl, ?_⟩)) (by decide +kernel) ?_
    exact rf_R_le (l := [(0, .ref rf_o), (1, .int x1), (2, .int x2), (3, .int x3), (4, .int (x4 + Int32.ofInt 1))]) rfl rfl (⟨rfl, rfl, rfl, rfl, rfl, trivial⟩) h
/-- noFree (III)V, from 0 on -/
def wr_noFree (d : Nat) (x1 : Int32) (x2 : Int32) (x3 : Int32) (s : rf_S) (Q : rf_S → Prop) : Prop := rf_R d 40 (3, [(0, .ref rf_o), (1, .int x1), (2, .int x2), (3, .int x3), (4, .int (Int32.ofInt 0))], [], s) (rf_qV Q)
set_option maxRecDepth 20000 in
theorem wr_noFree_ok {d : Nat} {x1 : Int32} {x2 : Int32} {x3 : Int32} {s : rf_S} {Q : rf_S → Prop} (h : wr_noFree d x1 x2 x3 s Q) : rf_V d 40 [(0, .ref rf_o), (1, .int x1), (2, .int x2), (3, .int x3)] s Q := by
  unfold wr_noFree at h
  unfold rf_V
  refine rf_R_wv rp_40 (rf_bk am_t40 0 2) 0 [(0, .ref rf_o), (1, .int x1), (2, .int x2), (3, .int x3)] [] s (by repeat (first | exact trivial | refine ⟨rfl, ?_⟩)) (by decide +kernel) ?_
  exact rf_R_le (l := [(0, .ref rf_o), (1, .int x1), (2, .int x2), (3, .int x3), (4, .int (Int32.ofInt 0))]) rfl rfl (⟨rfl, rfl, rfl, rfl, rfl, trivial⟩) h
/-- gatherFree (I)V, from 248 on -/
def wr_gatherFree_248 (d : Nat) (x1 : Int32) (x2 : Int32) (x3 : Int32) (x4 : Int32) (s : rf_S) (Q : rf_S → Prop) : Prop := (rf_in ((x2 + ((Int32.ofInt 5) * x3)) + (Int32.ofInt 2)) 9000 ∧ (((s.2.2.1 17 ((x2 + ((Int32.ofInt 5) * x3)) + (Int32.ofInt 2)).toNatClampNeg) ≤ x4 → rf_R (d + 1) 41 (219, [(0, .ref rf_o), (1, .int x1), (2, .int x2), (3, .int (x3 + Int32.ofInt 1))], [], s) (rf_qV Q)) ∧ (¬ ((s.2.2.1 17 ((x2 + ((Int32.ofInt 5) * x3)) + (Int32.ofInt 2)).toNatClampNeg) ≤ x4) → (rf_in ((x2 + ((Int32.ofInt 5) * x3)) + (Int32.ofInt 3)) 9000 ∧ (rf_in ((s.2.2.1 17 ((x2 + ((Int32.ofInt 5) * x3)) + (Int32.ofInt 3)).toNatClampNeg) + x4) 1100 ∧ rf_R (d + 1) 41 (248, [(0, .ref rf_o), (1, .int x1), (2, .int x2), (3, .int x3), (4, .int (x4 + Int32.ofInt 1))], [], (rf_sb s 22 ((s.2.2.1 17 ((x2 + ((Int32.ofInt 5) * x3)) + (Int32.ofInt 3)).toNatClampNeg) + x4).toNatClampNeg (vp_nar .boolean (Int32.ofInt 0)))) (rf_qV Q))))))
set_option maxRecDepth 20000 in
theorem wr_gatherFree_248_ok {d : Nat} {x1 : Int32} {x2 : Int32} {x3 : Int32} {x4 : Int32} {s : rf_S} {Q : rf_S → Prop} (h : wr_gatherFree_248 d x1 x2 x3 x4 s Q) : rf_R (d + 1) 41 (248, [(0, .ref rf_o), (1, .int x1), (2, .int x2), (3, .int x3), (4, .int x4)], [], s) (rf_qV Q) := by
  unfold wr_gatherFree_248 at h
  refine rf_R_wv rp_41 (rf_bk am_t41 121 12) 248 [(0, .ref rf_o), (1, .int x1), (2, .int x2), (3, .int x3), (4, .int x4)] [] s (by repeat (first | exact trivial | refine ⟨rfl, ?_⟩)) (by decide +kernel) ?_
  refine And.intro h.1 ?_
  replace h := h.2
  refine rf_R_if (b := am_cnd .ge x4 (s.2.2.1 17 ((x2 + ((Int32.ofInt 5) * x3)) + (Int32.ofInt 2)).toNatClampNeg)) (p := 292) (q := 265) (fun hb => ?_) (fun hb => ?_)
  · replace h := h.1 (of_decide_eq_true hb)
    refine rf_R_wv rp_41 (rf_bk am_t41 151 2) 292 [(0, .ref rf_o), (1, .int x1), (2, .int x2), (3, .int x3), (4, .int x4)] [] s (by repeat (first | exact trivial | refine ⟨rfl, ?_⟩)) (by decide +kernel) ?_
    exact rf_R_le (l := [(0, .ref rf_o), (1, .int x1), (2, .int x2), (3, .int (x3 + Int32.ofInt 1))]) rfl rfl (⟨rfl, rfl, rfl, rfl, trivial⟩) h
  · replace h := h.2 (of_decide_eq_false hb)
    refine rf_R_wv rp_41 (rf_bk am_t41 133 14) 265 [(0, .ref rf_o), (1, .int x1), (2, .int x2), (3, .int x3), (4, .int x4)] [] s (by repeat (first | exact trivial | refine ⟨rfl, ?_⟩)) (by decide +kernel) ?_
    refine And.intro h.1 ?_
    replace h := h.2
    refine rf_R_wv rp_41 (rf_bk am_t41 147 2) 284 [(0, .ref rf_o), (1, .int x1), (2, .int x2), (3, .int x3), (4, .int x4)] [.int ((s.2.2.1 17 ((x2 + ((Int32.ofInt 5) * x3)) + (Int32.ofInt 3)).toNatClampNeg) + x4), .ref (rf_ad 22)] s (by repeat (first | exact trivial | refine ⟨rfl, ?_⟩)) (by decide +kernel) ?_
    refine And.intro h.1 ?_
    replace h := h.2
    refine rf_R_wv rp_41 (rf_bk am_t41 149 2) 286 [(0, .ref rf_o), (1, .int x1), (2, .int x2), (3, .int x3), (4, .int x4)] [] (rf_sb s 22 ((s.2.2.1 17 ((x2 + ((Int32.ofInt 5) * x3)) + (Int32.ofInt 3)).toNatClampNeg) + x4).toNatClampNeg (vp_nar .boolean (Int32.ofInt 0))) (by repeat (first | exact trivial | refine ⟨rfl, ?_⟩)) (by decide +kernel) ?_
    exact rf_R_le (l := [(0, .ref rf_o), (1, .int x1), (2, .int x2), (3, .int x3), (4, .int (x4 + Int32.ofInt 1))]) rfl rfl (⟨rfl, rfl, rfl, rfl, rfl, trivial⟩) h
/-- gatherFree (I)V, from 219 on -/
def wr_gatherFree_219 (d : Nat) (x1 : Int32) (x2 : Int32) (x3 : Int32) (s : rf_S) (Q : rf_S → Prop) : Prop := (rf_in x1 2100 ∧ (((s.2.2.1 14 x1.toNatClampNeg) ≤ x3 → Q s) ∧ (¬ ((s.2.2.1 14 x1.toNatClampNeg) ≤ x3) → (rf_in ((x2 + ((Int32.ofInt 5) * x3)) + (Int32.ofInt 4)) 9000 ∧ rf_V d 39 [(0, .ref rf_o), (1, .int (s.2.2.1 17 ((x2 + ((Int32.ofInt 5) * x3)) + (Int32.ofInt 4)).toNatClampNeg))] s (fun s1 => rf_R (d + 1) 41 (248, [(0, .ref rf_o), (1, .int x1), (2, .int x2), (3, .int x3), (4, .int (Int32.ofInt 0))], [], s1) (rf_qV Q))))))
set_option maxRecDepth 20000 in
theorem wr_gatherFree_219_ok {d : Nat} {x1 : Int32} {x2 : Int32} {x3 : Int32} {s : rf_S} {Q : rf_S → Prop} (h : wr_gatherFree_219 d x1 x2 x3 s Q) : rf_R (d + 1) 41 (219, [(0, .ref rf_o), (1, .int x1), (2, .int x2), (3, .int x3)], [], s) (rf_qV Q) := by
  unfold wr_gatherFree_219 at h
  refine rf_R_wv rp_41 (rf_bk am_t41 101 6) 219 [(0, .ref rf_o), (1, .int x1), (2, .int x2), (3, .int x3)] [] s (by repeat (first | exact trivial | refine ⟨rfl, ?_⟩)) (by decide +kernel) ?_
  refine And.intro h.1 ?_
  replace h := h.2
  refine rf_R_if (b := am_cnd .ge x3 (s.2.2.1 14 x1.toNatClampNeg)) (p := 298) (q := 229) (fun hb => ?_) (fun hb => ?_)
  · replace h := h.1 (of_decide_eq_true hb)
    refine rf_R_wv rp_41 (rf_bk am_t41 153 1) 298 [(0, .ref rf_o), (1, .int x1), (2, .int x2), (3, .int x3)] [] s (by repeat (first | exact trivial | refine ⟨rfl, ?_⟩)) (by decide +kernel) ?_
    exact rf_R_ret (pc := 324) rp_41 rfl rfl rfl ⟨rfl, h⟩
  · replace h := h.2 (of_decide_eq_false hb)
    refine rf_R_wv rp_41 (rf_bk am_t41 107 11) 229 [(0, .ref rf_o), (1, .int x1), (2, .int x2), (3, .int x3)] [] s (by repeat (first | exact trivial | refine ⟨rfl, ?_⟩)) (by decide +kernel) ?_
    refine And.intro h.1 ?_
    replace h := h.2
    refine rf_R_call (pc := 242) (q := ([.ref rf_o, .int (s.2.2.1 17 ((x2 + ((Int32.ofInt 5) * x3)) + (Int32.ofInt 4)).toNatClampNeg)], [])) rp_41 rfl rfl (by decide) rp_39 rfl (Nat.le_of_ble_eq_true rfl) ⟨rfl, Nat.le_of_ble_eq_true rfl⟩ h (fun v s1 h => ?_)
    obtain ⟨rfl, h⟩ := h
    refine rf_R_wv rp_41 (rf_bk am_t41 119 2) 245 [(0, .ref rf_o), (1, .int x1), (2, .int x2), (3, .int x3)] [] s1 (by repeat (first | exact trivial | refine ⟨rfl, ?_⟩)) (by decide +kernel) ?_
    exact rf_R_le (l := [(0, .ref rf_o), (1, .int x1), (2, .int x2), (3, .int x3), (4, .int (Int32.ofInt 0))]) rfl rfl (⟨rfl, rfl, rfl, rfl, rfl, trivial⟩) h
/-- gatherFree (I)V, from 142 on -/
def wr_gatherFree_142 (d : Nat) (x1 : Int32) (x2 : Int32) (x3 : Int32) (s : rf_S) (Q : rf_S → Prop) : Prop := (rf_in x1 2100 ∧ (((s.2.2.1 14 x1.toNatClampNeg) ≤ x3 → (rf_in x1 2100 ∧ rf_V d 39 [(0, .ref rf_o), (1, .int (s.2.2.1 15 x1.toNatClampNeg))] s (fun s1 => (rf_in x1 2100 ∧ rf_V d 40 [(0, .ref rf_o), (1, .int x2), (2, .int (s1.2.2.1 14 x1.toNatClampNeg)), (3, .int (Int32.ofInt 2))] s1 (fun s2 => Q s2))))) ∧ (¬ ((s.2.2.1 14 x1.toNatClampNeg) ≤ x3) → (rf_in ((x2 + ((Int32.ofInt 2) * x3)) + (Int32.ofInt 1)) 9000 ∧ rf_V d 39 [(0, .ref rf_o), (1, .int (s.2.2.1 17 ((x2 + ((Int32.ofInt 2) * x3)) + (Int32.ofInt 1)).toNatClampNeg))] s (fun s3 => rf_R (d + 1) 41 (142, [(0, .ref rf_o), (1, .int x1), (2, .int x2), (3, .int (x3 + Int32.ofInt 1))], [], s3) (rf_qV Q))))))
set_option maxRecDepth 20000 in
theorem wr_gatherFree_142_ok {d : Nat} {x1 : Int32} {x2 : Int32} {x3 : Int32} {s : rf_S} {Q : rf_S → Prop} (h : wr_gatherFree_142 d x1 x2 x3 s Q) : rf_R (d + 1) 41 (142, [(0, .ref rf_o), (1, .int x1), (2, .int x2), (3, .int x3)], [], s) (rf_qV Q) := by
  unfold wr_gatherFree_142 at h
  refine rf_R_wv rp_41 (rf_bk am_t41 54 6) 142 [(0, .ref rf_o), (1, .int x1), (2, .int x2), (3, .int x3)] [] s (by repeat (first | exact trivial | refine ⟨rfl, ?_⟩)) (by decide +kernel) ?_
  refine And.intro h.1 ?_
  replace h := h.2
  refine rf_R_if (b := am_cnd .ge x3 (s.2.2.1 14 x1.toNatClampNeg)) (p := 174) (q := 152) (fun hb => ?_) (fun hb => ?_)
  · replace h := h.1 (of_decide_eq_true hb)
    refine rf_R_wv rp_41 (rf_bk am_t41 74 5) 174 [(0, .ref rf_o), (1, .int x1), (2, .int x2), (3, .int x3)] [] s (by repeat (first | exact trivial | refine ⟨rfl, ?_⟩)) (by decide +kernel) ?_
    refine And.intro h.1 ?_
    replace h := h.2
    refine rf_R_call (pc := 181) (q := ([.ref rf_o, .int (s.2.2.1 15 x1.toNatClampNeg)], [])) rp_41 rfl rfl (by decide) rp_39 rfl (Nat.le_of_ble_eq_true rfl) ⟨rfl, Nat.le_of_ble_eq_true rfl⟩ h (fun v s1 h => ?_)
    obtain ⟨rfl, h⟩ := h
    refine rf_R_wv rp_41 (rf_bk am_t41 80 7) 184 [(0, .ref rf_o), (1, .int x1), (2, .int x2), (3, .int x3)] [] s1 (by repeat (first | exact trivial | refine ⟨rfl, ?_⟩)) (by decide +kernel) ?_
    refine And.intro h.1 ?_
    replace h := h.2
    refine rf_R_call (pc := 193) (q := ([.ref rf_o, .int x2, .int (s1.2.2.1 14 x1.toNatClampNeg), .int (Int32.ofInt 2)], [])) rp_41 rfl rfl (by decide) rp_40 rfl (Nat.le_of_ble_eq_true rfl) ⟨rfl, Nat.le_of_ble_eq_true rfl⟩ h (fun v s2 h => ?_)
    obtain ⟨rfl, h⟩ := h
    refine rf_R_wv rp_41 (rf_bk am_t41 88 1) 196 [(0, .ref rf_o), (1, .int x1), (2, .int x2), (3, .int x3)] [] s2 (by repeat (first | exact trivial | refine ⟨rfl, ?_⟩)) (by decide +kernel) ?_
    exact rf_R_ret (pc := 324) rp_41 rfl rfl rfl ⟨rfl, h⟩
  · replace h := h.2 (of_decide_eq_false hb)
    refine rf_R_wv rp_41 (rf_bk am_t41 60 11) 152 [(0, .ref rf_o), (1, .int x1), (2, .int x2), (3, .int x3)] [] s (by repeat (first | exact trivial | refine ⟨rfl, ?_⟩)) (by decide +kernel) ?_
    refine And.intro h.1 ?_
    replace h := h.2
    refine rf_R_call (pc := 165) (q := ([.ref rf_o, .int (s.2.2.1 17 ((x2 + ((Int32.ofInt 2) * x3)) + (Int32.ofInt 1)).toNatClampNeg)], [])) rp_41 rfl rfl (by decide) rp_39 rfl (Nat.le_of_ble_eq_true rfl) ⟨rfl, Nat.le_of_ble_eq_true rfl⟩ h (fun v s3 h => ?_)
    obtain ⟨rfl, h⟩ := h
    refine rf_R_wv rp_41 (rf_bk am_t41 72 2) 168 [(0, .ref rf_o), (1, .int x1), (2, .int x2), (3, .int x3)] [] s3 (by repeat (first | exact trivial | refine ⟨rfl, ?_⟩)) (by decide +kernel) ?_
    exact rf_R_le (l := [(0, .ref rf_o), (1, .int x1), (2, .int x2), (3, .int (x3 + Int32.ofInt 1))]) rfl rfl (⟨rfl, rfl, rfl, rfl, trivial⟩) h
/-- gatherFree (I)V, from 109 on -/
def wr_gatherFree_109 (d : Nat) (x1 : Int32) (x2 : Int32) (x3 : Int32) (s : rf_S) (Q : rf_S → Prop) : Prop := (rf_in x1 2100 ∧ (((s.2.2.1 14 x1.toNatClampNeg) ≤ x3 → Q s) ∧ (¬ ((s.2.2.1 14 x1.toNatClampNeg) ≤ x3) → (rf_in (x2 + x3) 9000 ∧ rf_V d 39 [(0, .ref rf_o), (1, .int (s.2.2.1 17 (x2 + x3).toNatClampNeg))] s (fun s1 => rf_R (d + 1) 41 (109, [(0, .ref rf_o), (1, .int x1), (2, .int x2), (3, .int (x3 + Int32.ofInt 1))], [], s1) (rf_qV Q))))))
set_option maxRecDepth 20000 in
theorem wr_gatherFree_109_ok {d : Nat} {x1 : Int32} {x2 : Int32} {x3 : Int32} {s : rf_S} {Q : rf_S → Prop} (h : wr_gatherFree_109 d x1 x2 x3 s Q) : rf_R (d + 1) 41 (109, [(0, .ref rf_o), (1, .int x1), (2, .int x2), (3, .int x3)], [], s) (rf_qV Q) := by
  unfold wr_gatherFree_109 at h
  refine rf_R_wv rp_41 (rf_bk am_t41 35 6) 109 [(0, .ref rf_o), (1, .int x1), (2, .int x2), (3, .int x3)] [] s (by repeat (first | exact trivial | refine ⟨rfl, ?_⟩)) (by decide +kernel) ?_
  refine And.intro h.1 ?_
  replace h := h.2
  refine rf_R_if (b := am_cnd .ge x3 (s.2.2.1 14 x1.toNatClampNeg)) (p := 137) (q := 119) (fun hb => ?_) (fun hb => ?_)
  · replace h := h.1 (of_decide_eq_true hb)
    refine rf_R_wv rp_41 (rf_bk am_t41 51 1) 137 [(0, .ref rf_o), (1, .int x1), (2, .int x2), (3, .int x3)] [] s (by repeat (first | exact trivial | refine ⟨rfl, ?_⟩)) (by decide +kernel) ?_
    exact rf_R_ret (pc := 324) rp_41 rfl rfl rfl ⟨rfl, h⟩
  · replace h := h.2 (of_decide_eq_false hb)
    refine rf_R_wv rp_41 (rf_bk am_t41 41 7) 119 [(0, .ref rf_o), (1, .int x1), (2, .int x2), (3, .int x3)] [] s (by repeat (first | exact trivial | refine ⟨rfl, ?_⟩)) (by decide +kernel) ?_
    refine And.intro h.1 ?_
    replace h := h.2
    refine rf_R_call (pc := 128) (q := ([.ref rf_o, .int (s.2.2.1 17 (x2 + x3).toNatClampNeg)], [])) rp_41 rfl rfl (by decide) rp_39 rfl (Nat.le_of_ble_eq_true rfl) ⟨rfl, Nat.le_of_ble_eq_true rfl⟩ h (fun v s1 h => ?_)
    obtain ⟨rfl, h⟩ := h
    refine rf_R_wv rp_41 (rf_bk am_t41 49 2) 131 [(0, .ref rf_o), (1, .int x1), (2, .int x2), (3, .int x3)] [] s1 (by repeat (first | exact trivial | refine ⟨rfl, ?_⟩)) (by decide +kernel) ?_
    exact rf_R_le (l := [(0, .ref rf_o), (1, .int x1), (2, .int x2), (3, .int (x3 + Int32.ofInt 1))]) rfl rfl (⟨rfl, rfl, rfl, rfl, trivial⟩) h
/-- gatherFree (I)V, from 107 on -/
def wr_gatherFree_107 (d : Nat) (x1 : Int32) (x2 : Int32) (s : rf_S) (Q : rf_S → Prop) : Prop := rf_R (d + 1) 41 (109, [(0, .ref rf_o), (1, .int x1), (2, .int x2), (3, .int (Int32.ofInt 0))], [], s) (rf_qV Q)
set_option maxRecDepth 20000 in
theorem wr_gatherFree_107_ok {d : Nat} {x1 : Int32} {x2 : Int32} {s : rf_S} {Q : rf_S → Prop} (h : wr_gatherFree_107 d x1 x2 s Q) : rf_R (d + 1) 41 (107, [(0, .ref rf_o), (1, .int x1), (2, .int x2)], [], s) (rf_qV Q) := by
  unfold wr_gatherFree_107 at h
  refine rf_R_wv rp_41 (rf_bk am_t41 33 2) 107 [(0, .ref rf_o), (1, .int x1), (2, .int x2)] [] s (by repeat (first | exact trivial | refine ⟨rfl, ?_⟩)) (by decide +kernel) ?_
  exact rf_R_le (l := [(0, .ref rf_o), (1, .int x1), (2, .int x2), (3, .int (Int32.ofInt 0))]) rfl rfl (⟨rfl, rfl, rfl, rfl, trivial⟩) h
/-- gatherFree (I)V, from 0 on -/
def wr_gatherFree (d : Nat) (x1 : Int32) (s : rf_S) (Q : rf_S → Prop) : Prop := (rf_in x1 2100 ∧ rf_in x1 2100 ∧ (((s.2.2.1 12 x1.toNatClampNeg) = 0 → (((s.2.2.1 13 x1.toNatClampNeg) < 0 → Q s) ∧ (¬ ((s.2.2.1 13 x1.toNatClampNeg) < 0) → (rf_in (s.2.2.1 13 x1.toNatClampNeg) 1100 ∧ Q (rf_sb s 22 (s.2.2.1 13 x1.toNatClampNeg).toNatClampNeg (vp_nar .boolean (Int32.ofInt 1))))))) ∧ (¬ ((s.2.2.1 12 x1.toNatClampNeg) = 0) → (((s.2.2.1 12 x1.toNatClampNeg) = 1 → Q s) ∧ (¬ ((s.2.2.1 12 x1.toNatClampNeg) = 1) → (((s.2.2.1 12 x1.toNatClampNeg) = 2 → Q s) ∧ (¬ ((s.2.2.1 12 x1.toNatClampNeg) = 2) → (((s.2.2.1 12 x1.toNatClampNeg) = 3 → (rf_in x1 2100 ∧ rf_V d 39 [(0, .ref rf_o), (1, .int (s.2.2.1 15 x1.toNatClampNeg))] s (fun s1 => (rf_in x1 2100 ∧ rf_V d 40 [(0, .ref rf_o), (1, .int (s.2.2.1 13 x1.toNatClampNeg)), (2, .int (s1.2.2.1 14 x1.toNatClampNeg)), (3, .int (Int32.ofInt 1))] s1 (fun s2 => Q s2))))) ∧ (¬ ((s.2.2.1 12 x1.toNatClampNeg) = 3) → (((s.2.2.1 12 x1.toNatClampNeg) = 4 → wr_gatherFree_107 d x1 (s.2.2.1 13 x1.toNatClampNeg) s Q) ∧ (¬ ((s.2.2.1 12 x1.toNatClampNeg) = 4) → (((s.2.2.1 12 x1.toNatClampNeg) = 5 → wr_gatherFree_107 d x1 (s.2.2.1 13 x1.toNatClampNeg) s Q) ∧ (¬ ((s.2.2.1 12 x1.toNatClampNeg) = 5) → (((s.2.2.1 12 x1.toNatClampNeg) = 6 → rf_R (d + 1) 41 (142, [(0, .ref rf_o), (1, .int x1), (2, .int (s.2.2.1 13 x1.toNatClampNeg)), (3, .int (Int32.ofInt 0))], [], s) (rf_qV Q)) ∧ (¬ ((s.2.2.1 12 x1.toNatClampNeg) = 6) → (((s.2.2.1 12 x1.toNatClampNeg) = 7 → rf_V d 39 [(0, .ref rf_o), (1, .int (s.2.2.1 13 x1.toNatClampNeg))] s (fun s3 => (rf_in x1 2100 ∧ rf_V d 39 [(0, .ref rf_o), (1, .int (s3.2.2.1 14 x1.toNatClampNeg))] s3 (fun s4 => Q s4)))) ∧ (¬ ((s.2.2.1 12 x1.toNatClampNeg) = 7) → (((s.2.2.1 12 x1.toNatClampNeg) = 8 → rf_R (d + 1) 41 (219, [(0, .ref rf_o), (1, .int x1), (2, .int (s.2.2.1 13 x1.toNatClampNeg)), (3, .int (Int32.ofInt 0))], [], s) (rf_qV Q)) ∧ (¬ ((s.2.2.1 12 x1.toNatClampNeg) = 8) → (((s.2.2.1 12 x1.toNatClampNeg) = 9 → (rf_in x1 2100 ∧ rf_V d 39 [(0, .ref rf_o), (1, .int (s.2.2.1 14 x1.toNatClampNeg))] s (fun s5 => (rf_in x1 2100 ∧ rf_V d 39 [(0, .ref rf_o), (1, .int (s5.2.2.1 15 x1.toNatClampNeg))] s5 (fun s6 => Q s6))))) ∧ (¬ ((s.2.2.1 12 x1.toNatClampNeg) = 9) → Q s)))))))))))))))))))))
set_option maxRecDepth 20000 in
theorem wr_gatherFree_ok {d : Nat} {x1 : Int32} {s : rf_S} {Q : rf_S → Prop} (h : wr_gatherFree d x1 s Q) : rf_V (d + 1) 41 [(0, .ref rf_o), (1, .int x1)] s Q := by
  unfold wr_gatherFree at h
  unfold rf_V
  refine rf_R_wv rp_41 (rf_bk am_t41 0 10) 0 [(0, .ref rf_o), (1, .int x1)] [] s (by repeat (first | exact trivial | refine ⟨rfl, ?_⟩)) (by decide +kernel) ?_
  refine And.intro h.1 ?_
  replace h := h.2
  refine And.intro h.1 ?_
  replace h := h.2
  refine rf_R_sw (fun hb => ?_) (fun hb => ?_)
  · replace h := h.1 hb
    refine rf_R_wv rp_41 (rf_bk am_t41 10 2) 68 [(2, .int (s.2.2.1 13 x1.toNatClampNeg)), (0, .ref rf_o), (1, .int x1)] [] s (by repeat (first | exact trivial | refine ⟨rfl, ?_⟩)) (by decide +kernel) ?_
    refine rf_R_if (b := am_cnd .lt (s.2.2.1 13 x1.toNatClampNeg) 0) (p := 324) (q := 72) (fun hb => ?_) (fun hb => ?_)
    · replace h := h.1 (of_decide_eq_true hb)
      exact rf_R_ret (pc := 324) rp_41 rfl rfl rfl ⟨rfl, h⟩
    · replace h := h.2 (of_decide_eq_false hb)
      refine rf_R_wv rp_41 (rf_bk am_t41 12 5) 72 [(2, .int (s.2.2.1 13 x1.toNatClampNeg)), (0, .ref rf_o), (1, .int x1)] [] s (by repeat (first | exact trivial | refine ⟨rfl, ?_⟩)) (by decide +kernel) ?_
      refine And.intro h.1 ?_
      replace h := h.2
      refine rf_R_wv rp_41 (rf_bk am_t41 17 1) 79 [(2, .int (s.2.2.1 13 x1.toNatClampNeg)), (0, .ref rf_o), (1, .int x1)] [] (rf_sb s 22 (s.2.2.1 13 x1.toNatClampNeg).toNatClampNeg (vp_nar .boolean (Int32.ofInt 1))) (by repeat (first | exact trivial | refine ⟨rfl, ?_⟩)) (by decide +kernel) ?_
      exact rf_R_ret (pc := 324) rp_41 rfl rfl rfl ⟨rfl, h⟩
  replace h := h.2 hb
  refine rf_R_sw (fun hb => ?_) (fun hb => ?_)
  · replace h := h.1 hb
    exact rf_R_ret (pc := 324) rp_41 rfl rfl rfl ⟨rfl, h⟩
  replace h := h.2 hb
  refine rf_R_sw (fun hb => ?_) (fun hb => ?_)
  · replace h := h.1 hb
    exact rf_R_ret (pc := 324) rp_41 rfl rfl rfl ⟨rfl, h⟩
  replace h := h.2 hb
  refine rf_R_sw (fun hb => ?_) (fun hb => ?_)
  · replace h := h.1 hb
    refine rf_R_wv rp_41 (rf_bk am_t41 18 5) 82 [(2, .int (s.2.2.1 13 x1.toNatClampNeg)), (0, .ref rf_o), (1, .int x1)] [] s (by repeat (first | exact trivial | refine ⟨rfl, ?_⟩)) (by decide +kernel) ?_
    refine And.intro h.1 ?_
    replace h := h.2
    refine rf_R_call (pc := 89) (q := ([.ref rf_o, .int (s.2.2.1 15 x1.toNatClampNeg)], [])) rp_41 rfl rfl (by decide) rp_39 rfl (Nat.le_of_ble_eq_true rfl) ⟨rfl, Nat.le_of_ble_eq_true rfl⟩ h (fun v s1 h => ?_)
    obtain ⟨rfl, h⟩ := h
    refine rf_R_wv rp_41 (rf_bk am_t41 24 7) 92 [(2, .int (s.2.2.1 13 x1.toNatClampNeg)), (0, .ref rf_o), (1, .int x1)] [] s1 (by repeat (first | exact trivial | refine ⟨rfl, ?_⟩)) (by decide +kernel) ?_
    refine And.intro h.1 ?_
    replace h := h.2
    refine rf_R_call (pc := 101) (q := ([.ref rf_o, .int (s.2.2.1 13 x1.toNatClampNeg), .int (s1.2.2.1 14 x1.toNatClampNeg), .int (Int32.ofInt 1)], [])) rp_41 rfl rfl (by decide) rp_40 rfl (Nat.le_of_ble_eq_true rfl) ⟨rfl, Nat.le_of_ble_eq_true rfl⟩ h (fun v s2 h => ?_)
    obtain ⟨rfl, h⟩ := h
    refine rf_R_wv rp_41 (rf_bk am_t41 32 1) 104 [(2, .int (s.2.2.1 13 x1.toNatClampNeg)), (0, .ref rf_o), (1, .int x1)] [] s2 (by repeat (first | exact trivial | refine ⟨rfl, ?_⟩)) (by decide +kernel) ?_
    exact rf_R_ret (pc := 324) rp_41 rfl rfl rfl ⟨rfl, h⟩
  replace h := h.2 hb
  refine rf_R_sw (fun hb => ?_) (fun hb => ?_)
  · replace h := h.1 hb
    exact rf_R_le (l := [(0, .ref rf_o), (1, .int x1), (2, .int (s.2.2.1 13 x1.toNatClampNeg))]) rfl rfl (⟨rfl, rfl, rfl, trivial⟩) (wr_gatherFree_107_ok h)
  replace h := h.2 hb
  refine rf_R_sw (fun hb => ?_) (fun hb => ?_)
  · replace h := h.1 hb
    exact rf_R_le (l := [(0, .ref rf_o), (1, .int x1), (2, .int (s.2.2.1 13 x1.toNatClampNeg))]) rfl rfl (⟨rfl, rfl, rfl, trivial⟩) (wr_gatherFree_107_ok h)
  replace h := h.2 hb
  refine rf_R_sw (fun hb => ?_) (fun hb => ?_)
  · replace h := h.1 hb
    refine rf_R_wv rp_41 (rf_bk am_t41 52 2) 140 [(2, .int (s.2.2.1 13 x1.toNatClampNeg)), (0, .ref rf_o), (1, .int x1)] [] s (by repeat (first | exact trivial | refine ⟨rfl, ?_⟩)) (by decide +kernel) ?_
    exact rf_R_le (l := [(0, .ref rf_o), (1, .int x1), (2, .int (s.2.2.1 13 x1.toNatClampNeg)), (3, .int (Int32.ofInt 0))]) rfl rfl (⟨rfl, rfl, rfl, rfl, trivial⟩) h
  replace h := h.2 hb
  refine rf_R_sw (fun hb => ?_) (fun hb => ?_)
  · replace h := h.1 hb
    refine rf_R_wv rp_41 (rf_bk am_t41 89 2) 199 [(2, .int (s.2.2.1 13 x1.toNatClampNeg)), (0, .ref rf_o), (1, .int x1)] [] s (by repeat (first | exact trivial | refine ⟨rfl, ?_⟩)) (by decide +kernel) ?_
    refine rf_R_call (pc := 201) (q := ([.ref rf_o, .int (s.2.2.1 13 x1.toNatClampNeg)], [])) rp_41 rfl rfl (by decide) rp_39 rfl (Nat.le_of_ble_eq_true rfl) ⟨rfl, Nat.le_of_ble_eq_true rfl⟩ h (fun v s3 h => ?_)
    obtain ⟨rfl, h⟩ := h
    refine rf_R_wv rp_41 (rf_bk am_t41 92 5) 204 [(2, .int (s.2.2.1 13 x1.toNatClampNeg)), (0, .ref rf_o), (1, .int x1)] [] s3 (by repeat (first | exact trivial | refine ⟨rfl, ?_⟩)) (by decide +kernel) ?_
    refine And.intro h.1 ?_
    replace h := h.2
    refine rf_R_call (pc := 211) (q := ([.ref rf_o, .int (s3.2.2.1 14 x1.toNatClampNeg)], [])) rp_41 rfl rfl (by decide) rp_39 rfl (Nat.le_of_ble_eq_true rfl) ⟨rfl, Nat.le_of_ble_eq_true rfl⟩ h (fun v s4 h => ?_)
    obtain ⟨rfl, h⟩ := h
    refine rf_R_wv rp_41 (rf_bk am_t41 98 1) 214 [(2, .int (s.2.2.1 13 x1.toNatClampNeg)), (0, .ref rf_o), (1, .int x1)] [] s4 (by repeat (first | exact trivial | refine ⟨rfl, ?_⟩)) (by decide +kernel) ?_
    exact rf_R_ret (pc := 324) rp_41 rfl rfl rfl ⟨rfl, h⟩
  replace h := h.2 hb
  refine rf_R_sw (fun hb => ?_) (fun hb => ?_)
  · replace h := h.1 hb
    refine rf_R_wv rp_41 (rf_bk am_t41 99 2) 217 [(2, .int (s.2.2.1 13 x1.toNatClampNeg)), (0, .ref rf_o), (1, .int x1)] [] s (by repeat (first | exact trivial | refine ⟨rfl, ?_⟩)) (by decide +kernel) ?_
    exact rf_R_le (l := [(0, .ref rf_o), (1, .int x1), (2, .int (s.2.2.1 13 x1.toNatClampNeg)), (3, .int (Int32.ofInt 0))]) rfl rfl (⟨rfl, rfl, rfl, rfl, trivial⟩) h
  replace h := h.2 hb
  refine rf_R_sw (fun hb => ?_) (fun hb => ?_)
  · replace h := h.1 hb
    refine rf_R_wv rp_41 (rf_bk am_t41 154 5) 301 [(2, .int (s.2.2.1 13 x1.toNatClampNeg)), (0, .ref rf_o), (1, .int x1)] [] s (by repeat (first | exact trivial | refine ⟨rfl, ?_⟩)) (by decide +kernel) ?_
    refine And.intro h.1 ?_
    replace h := h.2
    refine rf_R_call (pc := 308) (q := ([.ref rf_o, .int (s.2.2.1 14 x1.toNatClampNeg)], [])) rp_41 rfl rfl (by decide) rp_39 rfl (Nat.le_of_ble_eq_true rfl) ⟨rfl, Nat.le_of_ble_eq_true rfl⟩ h (fun v s5 h => ?_)
    obtain ⟨rfl, h⟩ := h
    refine rf_R_wv rp_41 (rf_bk am_t41 160 5) 311 [(2, .int (s.2.2.1 13 x1.toNatClampNeg)), (0, .ref rf_o), (1, .int x1)] [] s5 (by repeat (first | exact trivial | refine ⟨rfl, ?_⟩)) (by decide +kernel) ?_
    refine And.intro h.1 ?_
    replace h := h.2
    refine rf_R_call (pc := 318) (q := ([.ref rf_o, .int (s5.2.2.1 15 x1.toNatClampNeg)], [])) rp_41 rfl rfl (by decide) rp_39 rfl (Nat.le_of_ble_eq_true rfl) ⟨rfl, Nat.le_of_ble_eq_true rfl⟩ h (fun v s6 h => ?_)
    obtain ⟨rfl, h⟩ := h
    refine rf_R_wv rp_41 (rf_bk am_t41 166 1) 321 [(2, .int (s.2.2.1 13 x1.toNatClampNeg)), (0, .ref rf_o), (1, .int x1)] [] s6 (by repeat (first | exact trivial | refine ⟨rfl, ?_⟩)) (by decide +kernel) ?_
    exact rf_R_ret (pc := 324) rp_41 rfl rfl rfl ⟨rfl, h⟩
  replace h := h.2 hb
  show rf_R (d + 1) 41 (324, _, _, _) _
  exact rf_R_ret (pc := 324) rp_41 rfl rfl rfl ⟨rfl, h⟩
/-- setFree ()V, from 63 on -/
def wr_setFree_63 (d : Nat) (x1 : Int32) (x2 : Int32) (x3 : Int32) (s : rf_S) (Q : rf_S → Prop) : Prop := rf_R (d + 1) 42 (26, [(0, .ref rf_o), (1, .int x1), (2, .int x2), (3, .int (x3 + Int32.ofInt 1))], [], s) (rf_qV Q)
set_option maxRecDepth 20000 in
theorem wr_setFree_63_ok {d : Nat} {x1 : Int32} {x2 : Int32} {x3 : Int32} {s : rf_S} {Q : rf_S → Prop} (h : wr_setFree_63 d x1 x2 x3 s Q) : rf_R (d + 1) 42 (63, [(0, .ref rf_o), (1, .int x1), (2, .int x2), (3, .int x3)], [], s) (rf_qV Q) := by
  unfold wr_setFree_63 at h
  refine rf_R_wv rp_42 (rf_bk am_t42 39 2) 63 [(0, .ref rf_o), (1, .int x1), (2, .int x2), (3, .int x3)] [] s (by repeat (first | exact trivial | refine ⟨rfl, ?_⟩)) (by decide +kernel) ?_
  exact rf_R_le (l := [(0, .ref rf_o), (1, .int x1), (2, .int x2), (3, .int (x3 + Int32.ofInt 1))]) rfl rfl (⟨rfl, rfl, rfl, rfl, trivial⟩) h
/-- setFree ()V, from 26 on -/
def wr_setFree_26 (d : Nat) (x1 : Int32) (x2 : Int32) (x3 : Int32) (s : rf_S) (Q : rf_S → Prop) : Prop := (((s.1 26) ≤ x3 → (rf_in (x2 + (Int32.ofInt 1)) 2101 ∧ rf_R (d + 1) 42 (11, [(0, .ref rf_o), (1, .int x1), (2, .int (x2 + Int32.ofInt 1))], [], (rf_sb s 20 (x2 + (Int32.ofInt 1)).toNatClampNeg x1)) (rf_qV Q))) ∧ (¬ ((s.1 26) ≤ x3) → (rf_in x3 1100 ∧ ((¬ (s.2.2.1 22 x3.toNatClampNeg) = 0 → (rf_in x3 1100 ∧ (rf_in x1 131072 ∧ wr_setFree_63 d (x1 + Int32.ofInt 1) x2 x3 (rf_sb (rf_sb s 22 x3.toNatClampNeg (vp_nar .boolean (Int32.ofInt 0))) 21 x1.toNatClampNeg x3) Q))) ∧ ((s.2.2.1 22 x3.toNatClampNeg) = 0 → wr_setFree_63 d x1 x2 x3 s Q)))))
set_option maxRecDepth 20000 in
theorem wr_setFree_26_ok {d : Nat} {x1 : Int32} {x2 : Int32} {x3 : Int32} {s : rf_S} {Q : rf_S → Prop} (h : wr_setFree_26 d x1 x2 x3 s Q) : rf_R (d + 1) 42 (26, [(0, .ref rf_o), (1, .int x1), (2, .int x2), (3, .int x3)], [], s) (rf_qV Q) := by
  unfold wr_setFree_26 at h
  refine rf_R_wv rp_42 (rf_bk am_t42 18 4) 26 [(0, .ref rf_o), (1, .int x1), (2, .int x2), (3, .int x3)] [] s (by repeat (first | exact trivial | refine ⟨rfl, ?_⟩)) (by decide +kernel) ?_
  refine rf_R_if (b := am_cnd .ge x3 (s.1 26)) (p := 69) (q := 34) (fun hb => ?_) (fun hb => ?_)
  · replace h := h.1 (of_decide_eq_true hb)
    refine rf_R_wv rp_42 (rf_bk am_t42 41 7) 69 [(0, .ref rf_o), (1, .int x1), (2, .int x2), (3, .int x3)] [] s (by repeat (first | exact trivial | refine ⟨rfl, ?_⟩)) (by decide +kernel) ?_
    refine And.intro h.1 ?_
    replace h := h.2
    refine rf_R_wv rp_42 (rf_bk am_t42 48 2) 78 [(0, .ref rf_o), (1, .int x1), (2, .int x2), (3, .int x3)] [] (rf_sb s 20 (x2 + (Int32.ofInt 1)).toNatClampNeg x1) (by repeat (first | exact trivial | refine ⟨rfl, ?_⟩)) (by decide +kernel) ?_
    exact rf_R_le (l := [(0, .ref rf_o), (1, .int x1), (2, .int (x2 + Int32.ofInt 1))]) rfl rfl (⟨rfl, rfl, rfl, trivial⟩) h
  · replace h := h.2 (of_decide_eq_false hb)
    refine rf_R_wv rp_42 (rf_bk am_t42 22 5) 34 [(0, .ref rf_o), (1, .int x1), (2, .int x2), (3, .int x3)] [] s (by repeat (first | exact trivial | refine ⟨rfl, ?_⟩)) (by decide +kernel) ?_
    refine And.intro h.1 ?_
    replace h := h.2
    refine rf_R_if (b := am_cnd .ne (s.2.2.1 22 x3.toNatClampNeg) 0) (p := 46) (q := 43) (fun hb => ?_) (fun hb => ?_)
    · replace h := h.1 (of_decide_eq_true hb)
      refine rf_R_wv rp_42 (rf_bk am_t42 28 5) 46 [(0, .ref rf_o), (1, .int x1), (2, .int x2), (3, .int x3)] [] s (by repeat (first | exact trivial | refine ⟨rfl, ?_⟩)) (by decide +kernel) ?_
      refine And.intro h.1 ?_
      replace h := h.2
      refine rf_R_wv rp_42 (rf_bk am_t42 33 5) 53 [(0, .ref rf_o), (1, .int x1), (2, .int x2), (3, .int x3)] [] (rf_sb s 22 x3.toNatClampNeg (vp_nar .boolean (Int32.ofInt 0))) (by repeat (first | exact trivial | refine ⟨rfl, ?_⟩)) (by decide +kernel) ?_
      refine And.intro h.1 ?_
      replace h := h.2
      refine rf_R_wv rp_42 (rf_bk am_t42 38 1) 60 [(0, .ref rf_o), (1, .int x1), (2, .int x2), (3, .int x3)] [] (rf_sb (rf_sb s 22 x3.toNatClampNeg (vp_nar .boolean (Int32.ofInt 0))) 21 x1.toNatClampNeg x3) (by repeat (first | exact trivial | refine ⟨rfl, ?_⟩)) (by decide +kernel) ?_
      exact rf_R_le (l := [(0, .ref rf_o), (1, .int (x1 + Int32.ofInt 1)), (2, .int x2), (3, .int x3)]) rfl rfl (⟨rfl, rfl, rfl, rfl, trivial⟩) (wr_setFree_63_ok h)
    · replace h := h.2 (Decidable.not_not.mp (of_decide_eq_false hb))
      refine rf_R_wv rp_42 (rf_bk am_t42 27 1) 43 [(0, .ref rf_o), (1, .int x1), (2, .int x2), (3, .int x3)] [] s (by repeat (first | exact trivial | refine ⟨rfl, ?_⟩)) (by decide +kernel) ?_
      exact rf_R_le (l := [(0, .ref rf_o), (1, .int x1), (2, .int x2), (3, .int x3)]) rfl rfl (⟨rfl, rfl, rfl, rfl, trivial⟩) (wr_setFree_63_ok h)
/-- setFree ()V, from 11 on -/
def wr_setFree_11 (d : Nat) (x1 : Int32) (x2 : Int32) (s : rf_S) (Q : rf_S → Prop) : Prop := (((s.1 11) ≤ x2 → Q s) ∧ (¬ ((s.1 11) ≤ x2) → rf_V d 41 [(0, .ref rf_o), (1, .int x2)] s (fun s1 => rf_R (d + 1) 42 (26, [(0, .ref rf_o), (1, .int x1), (2, .int x2), (3, .int (Int32.ofInt 0))], [], s1) (rf_qV Q))))
set_option maxRecDepth 20000 in
theorem wr_setFree_11_ok {d : Nat} {x1 : Int32} {x2 : Int32} {s : rf_S} {Q : rf_S → Prop} (h : wr_setFree_11 d x1 x2 s Q) : rf_R (d + 1) 42 (11, [(0, .ref rf_o), (1, .int x1), (2, .int x2)], [], s) (rf_qV Q) := by
  unfold wr_setFree_11 at h
  refine rf_R_wv rp_42 (rf_bk am_t42 9 4) 11 [(0, .ref rf_o), (1, .int x1), (2, .int x2)] [] s (by repeat (first | exact trivial | refine ⟨rfl, ?_⟩)) (by decide +kernel) ?_
  refine rf_R_if (b := am_cnd .ge x2 (s.1 11)) (p := 84) (q := 19) (fun hb => ?_) (fun hb => ?_)
  · replace h := h.1 (of_decide_eq_true hb)
    exact rf_R_ret (pc := 84) rp_42 rfl rfl rfl ⟨rfl, h⟩
  · replace h := h.2 (of_decide_eq_false hb)
    refine rf_R_wv rp_42 (rf_bk am_t42 13 2) 19 [(0, .ref rf_o), (1, .int x1), (2, .int x2)] [] s (by repeat (first | exact trivial | refine ⟨rfl, ?_⟩)) (by decide +kernel) ?_
    refine rf_R_call (pc := 21) (q := ([.ref rf_o, .int x2], [])) rp_42 rfl rfl (by decide) rp_41 rfl (Nat.le_of_ble_eq_true rfl) ⟨rfl, Nat.le_of_ble_eq_true rfl⟩ h (fun v s1 h => ?_)
    obtain ⟨rfl, h⟩ := h
    refine rf_R_wv rp_42 (rf_bk am_t42 16 2) 24 [(0, .ref rf_o), (1, .int x1), (2, .int x2)] [] s1 (by repeat (first | exact trivial | refine ⟨rfl, ?_⟩)) (by decide +kernel) ?_
    exact rf_R_le (l := [(0, .ref rf_o), (1, .int x1), (2, .int x2), (3, .int (Int32.ofInt 0))]) rfl rfl (⟨rfl, rfl, rfl, rfl, trivial⟩) h
/-- setFree ()V, from 0 on -/
def wr_setFree (d : Nat) (s : rf_S) (Q : rf_S → Prop) : Prop := (rf_in (Int32.ofInt 0) 2101 ∧ rf_R (d + 1) 42 (11, [(0, .ref rf_o), (1, .int (Int32.ofInt 0)), (2, .int (Int32.ofInt 0))], [], (rf_sb s 20 (Int32.ofInt 0).toNatClampNeg (Int32.ofInt 0))) (rf_qV Q))
set_option maxRecDepth 20000 in
theorem wr_setFree_ok {d : Nat} {s : rf_S} {Q : rf_S → Prop} (h : wr_setFree d s Q) : rf_V (d + 1) 42 [(0, .ref rf_o)] s Q := by
  unfold wr_setFree at h
  unfold rf_V
  refine rf_R_wv rp_42 (rf_bk am_t42 0 7) 0 [(0, .ref rf_o)] [] s (by repeat (first | exact trivial | refine ⟨rfl, ?_⟩)) (by decide +kernel) ?_
  refine And.intro h.1 ?_
  replace h := h.2
  refine rf_R_wv rp_42 (rf_bk am_t42 7 2) 9 [(1, .int (Int32.ofInt 0)), (0, .ref rf_o)] [] (rf_sb s 20 (Int32.ofInt 0).toNatClampNeg (Int32.ofInt 0)) (by repeat (first | exact trivial | refine ⟨rfl, ?_⟩)) (by decide +kernel) ?_
  exact rf_R_le (l := [(0, .ref rf_o), (1, .int (Int32.ofInt 0)), (2, .int (Int32.ofInt 0))]) rfl rfl (⟨rfl, rfl, rfl, trivial⟩) h
