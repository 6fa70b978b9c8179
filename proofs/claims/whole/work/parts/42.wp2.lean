/-! PART 42: the reference, decompiled: binds, maker, expression, letExpression, bound, functionExpression, caseExpression, alternative, compared, sum -/
/-- binds (I)I, from 31 on -/
def wr_binds_31 (d : Nat) (s : rf_S) (Q : Int32 → rf_S → Prop) : Prop := rf_I d 10 [(0, .ref rf_o), (1, .int (s.1 6))] s (fun r1 s1 => Q (Int32.ofInt (-1)) s1)
set_option maxRecDepth 20000 in
theorem wr_binds_31_ok {d : Nat} {s : rf_S} {Q : Int32 → rf_S → Prop} (h : wr_binds_31 d s Q) : rf_R (d + 1) 20 (31, [(0, .ref rf_o)], [], s) (rf_qI Q) := by
  unfold wr_binds_31 at h
  refine rf_R_wv rp_20 (rf_bk am_t20 15 3) 31 [(0, .ref rf_o)] [] s (by repeat (first | exact trivial | refine ⟨rfl, ?_⟩)) (by decide +kernel) ?_
  refine rf_R_call (pc := 36) (q := ([.ref rf_o, .int (s.1 6)], [])) rp_20 rfl rfl (by decide) rp_10 rfl (Nat.le_of_ble_eq_true rfl) ⟨rfl, Nat.le_of_ble_eq_true rfl⟩ h (fun v s1 h => ?_)
  obtain ⟨r1, rfl, h⟩ := h
  refine rf_R_wv rp_20 (rf_bk am_t20 19 2) 39 [(0, .ref rf_o)] [.int r1] s1 (by repeat (first | exact trivial | refine ⟨rfl, ?_⟩)) (by decide +kernel) ?_
  exact rf_R_ret (pc := 41) (v := some (.int (Int32.ofInt (-1)))) rp_20 rfl rfl rfl ⟨_, rfl, h⟩
/-- binds (I)I, from 0 on -/
def wr_binds (d : Nat) (x1 : Int32) (s : rf_S) (Q : Int32 → rf_S → Prop) : Prop := ((¬ (s.1 5) = (Int32.ofInt 2) → wr_binds_31 d s Q) ∧ ((s.1 5) = (Int32.ofInt 2) → ((0 ≤ (s.1 9) → wr_binds_31 d s Q) ∧ (¬ (0 ≤ (s.1 9)) → rf_I d 19 [(0, .ref rf_o), (1, .int x1), (2, .int (s.1 6)), (3, .int (s.1 7))] s (fun r1 s1 => ((r1 < 0 → (rf_in (s1.1 26) 1100 ∧ (rf_in (s1.1 26) 1100 ∧ (rf_in x1 1100 ∧ rf_in (s1.1 26) 1100 ∧ (rf_in x1 1100 ∧ rf_V d 9 [(0, .ref rf_o)] (rf_si (rf_sb (rf_sb (rf_sb (rf_sb s1 27 (s1.1 26).toNatClampNeg (s1.1 6)) 28 (s1.1 26).toNatClampNeg (s1.1 7)) 29 (s1.1 26).toNatClampNeg (s1.2.2.1 25 x1.toNatClampNeg)) 25 x1.toNatClampNeg (s1.1 26)) 26 ((s1.1 26) + (Int32.ofInt 1))) (fun s2 => Q ((s2.1 26) - (Int32.ofInt 1)) s2)))))) ∧ (¬ (r1 < 0) → wr_binds_31 d s1 Q)))))))
set_option maxRecDepth 20000 in
theorem wr_binds_ok {d : Nat} {x1 : Int32} {s : rf_S} {Q : Int32 → rf_S → Prop} (h : wr_binds d x1 s Q) : rf_I (d + 1) 20 [(0, .ref rf_o), (1, .int x1)] s Q := by
  unfold wr_binds at h
  unfold rf_I
  refine rf_R_wv rp_20 (rf_bk am_t20 0 4) 0 [(0, .ref rf_o), (1, .int x1)] [] s (by repeat (first | exact trivial | refine ⟨rfl, ?_⟩)) (by decide +kernel) ?_
  refine rf_R_if (b := am_cnd .ne (s.1 5) (Int32.ofInt 2)) (p := 31) (q := 8) (fun hb => ?_) (fun hb => ?_)
  · replace h := h.1 (of_decide_eq_true hb)
    exact rf_R_le (l := [(0, .ref rf_o)]) rfl rfl (⟨rfl, trivial⟩) (wr_binds_31_ok h)
  · replace h := h.2 (Decidable.not_not.mp (of_decide_eq_false hb))
    refine rf_R_wv rp_20 (rf_bk am_t20 4 3) 8 [(0, .ref rf_o), (1, .int x1)] [] s (by repeat (first | exact trivial | refine ⟨rfl, ?_⟩)) (by decide +kernel) ?_
    refine rf_R_if (b := am_cnd .ge (s.1 9) 0) (p := 31) (q := 15) (fun hb => ?_) (fun hb => ?_)
    · replace h := h.1 (of_decide_eq_true hb)
      exact rf_R_le (l := [(0, .ref rf_o)]) rfl rfl (⟨rfl, trivial⟩) (wr_binds_31_ok h)
    · replace h := h.2 (of_decide_eq_false hb)
      refine rf_R_wv rp_20 (rf_bk am_t20 7 6) 15 [(0, .ref rf_o), (1, .int x1)] [] s (by repeat (first | exact trivial | refine ⟨rfl, ?_⟩)) (by decide +kernel) ?_
      refine rf_R_call (pc := 25) (q := ([.ref rf_o, .int x1, .int (s.1 6), .int (s.1 7)], [])) rp_20 rfl rfl (by decide) rp_19 rfl (Nat.le_of_ble_eq_true rfl) ⟨rfl, Nat.le_of_ble_eq_true rfl⟩ h (fun v s1 h => ?_)
      obtain ⟨r1, rfl, h⟩ := h
      refine rf_R_wv rp_20 (rf_bk am_t20 14 1) 28 [(0, .ref rf_o), (1, .int x1)] [.int r1] s1 (by repeat (first | exact trivial | refine ⟨rfl, ?_⟩)) (by decide +kernel) ?_
      refine rf_R_if (b := am_cnd .lt r1 0) (p := 42) (q := 31) (fun hb => ?_) (fun hb => ?_)
      · replace h := h.1 (of_decide_eq_true hb)
        refine rf_R_wv rp_20 (rf_bk am_t20 22 7) 42 [(0, .ref rf_o), (1, .int x1)] [] s1 (by repeat (first | exact trivial | refine ⟨rfl, ?_⟩)) (by decide +kernel) ?_
        refine And.intro h.1 ?_
        replace h := h.2
        refine rf_R_wv rp_20 (rf_bk am_t20 29 7) 55 [(0, .ref rf_o), (1, .int x1)] [] (rf_sb s1 27 (s1.1 26).toNatClampNeg (s1.1 6)) (by repeat (first | exact trivial | refine ⟨rfl, ?_⟩)) (by decide +kernel) ?_
        refine And.intro h.1 ?_
        replace h := h.2
        refine rf_R_wv rp_20 (rf_bk am_t20 36 9) 68 [(0, .ref rf_o), (1, .int x1)] [] (rf_sb (rf_sb s1 27 (s1.1 26).toNatClampNeg (s1.1 6)) 28 (s1.1 26).toNatClampNeg (s1.1 7)) (by repeat (first | exact trivial | refine ⟨rfl, ?_⟩)) (by decide +kernel) ?_
        refine And.intro h.1 ?_
        replace h := h.2
        refine And.intro h.1 ?_
        replace h := h.2
        refine rf_R_wv rp_20 (rf_bk am_t20 45 6) 83 [(0, .ref rf_o), (1, .int x1)] [] (rf_sb (rf_sb (rf_sb s1 27 (s1.1 26).toNatClampNeg (s1.1 6)) 28 (s1.1 26).toNatClampNeg (s1.1 7)) 29 (s1.1 26).toNatClampNeg (s1.2.2.1 25 x1.toNatClampNeg)) (by repeat (first | exact trivial | refine ⟨rfl, ?_⟩)) (by decide +kernel) ?_
        refine And.intro h.1 ?_
        replace h := h.2
        refine rf_R_wv rp_20 (rf_bk am_t20 51 6) 93 [(0, .ref rf_o), (1, .int x1)] [] (rf_sb (rf_sb (rf_sb (rf_sb s1 27 (s1.1 26).toNatClampNeg (s1.1 6)) 28 (s1.1 26).toNatClampNeg (s1.1 7)) 29 (s1.1 26).toNatClampNeg (s1.2.2.1 25 x1.toNatClampNeg)) 25 x1.toNatClampNeg (s1.1 26)) (by repeat (first | exact trivial | refine ⟨rfl, ?_⟩)) (by decide +kernel) ?_
        refine And.intro rfl ?_
        refine rf_R_wv rp_20 (rf_bk am_t20 57 1) 103 [(0, .ref rf_o), (1, .int x1)] [] (rf_si (rf_sb (rf_sb (rf_sb (rf_sb s1 27 (s1.1 26).toNatClampNeg (s1.1 6)) 28 (s1.1 26).toNatClampNeg (s1.1 7)) 29 (s1.1 26).toNatClampNeg (s1.2.2.1 25 x1.toNatClampNeg)) 25 x1.toNatClampNeg (s1.1 26)) 26 ((s1.1 26) + (Int32.ofInt 1))) (by repeat (first | exact trivial | refine ⟨rfl, ?_⟩)) (by decide +kernel) ?_
        refine rf_R_call (pc := 104) (q := ([.ref rf_o], [])) rp_20 rfl rfl (by decide) rp_9 rfl (Nat.le_of_ble_eq_true rfl) ⟨rfl, Nat.le_of_ble_eq_true rfl⟩ h (fun v s2 h => ?_)
        obtain ⟨rfl, h⟩ := h
        refine rf_R_wv rp_20 (rf_bk am_t20 59 4) 107 [(0, .ref rf_o), (1, .int x1)] [] s2 (by repeat (first | exact trivial | refine ⟨rfl, ?_⟩)) (by decide +kernel) ?_
        exact rf_R_ret (pc := 113) (v := some (.int ((s2.1 26) - (Int32.ofInt 1)))) rp_20 rfl rfl rfl ⟨_, rfl, h⟩
      · replace h := h.2 (of_decide_eq_false hb)
        exact rf_R_le (l := [(0, .ref rf_o)]) rfl rfl (⟨rfl, trivial⟩) (wr_binds_31_ok h)
/-- maker ()I, from 117 on -/
def wr_maker_117 (d : Nat) (x3 : Int32) (x4 : Int32) (s : rf_S) (Q : Int32 → rf_S → Prop) : Prop := (((s.1 7) ≤ x4 → rf_V d 2 [(0, .ref rf_o), (1, .int x3), (2, .int (s.1 7))] s (fun s1 => Q ((s1.1 35) - (Int32.ofInt 1)) s1)) ∧ (¬ ((s.1 7) ≤ x4) → (rf_in ((s.1 6) + x4) 2000 ∧ rf_in (s.1 39) 2100 ∧ rf_R (d + 1) 21 (117, [(0, .ref rf_o), (3, .int x3), (4, .int (x4 + Int32.ofInt 1))], [], (rf_si (rf_sb s 38 (s.1 39).toNatClampNeg (s.2.2.1 2 ((s.1 6) + x4).toNatClampNeg)) 39 ((s.1 39) + (Int32.ofInt 1)))) (rf_qI Q))))
set_option maxRecDepth 20000 in
theorem wr_maker_117_ok {d : Nat} {x3 : Int32} {x4 : Int32} {s : rf_S} {Q : Int32 → rf_S → Prop} (h : wr_maker_117 d x3 x4 s Q) : rf_R (d + 1) 21 (117, [(0, .ref rf_o), (3, .int x3), (4, .int x4)], [], s) (rf_qI Q) := by
  unfold wr_maker_117 at h
  refine rf_R_wv rp_21 (rf_bk am_t21 70 4) 117 [(0, .ref rf_o), (3, .int x3), (4, .int x4)] [] s (by repeat (first | exact trivial | refine ⟨rfl, ?_⟩)) (by decide +kernel) ?_
  refine rf_R_if (b := am_cnd .ge x4 (s.1 7)) (p := 163) (q := 126) (fun hb => ?_) (fun hb => ?_)
  · replace h := h.1 (of_decide_eq_true hb)
    refine rf_R_wv rp_21 (rf_bk am_t21 94 4) 163 [(0, .ref rf_o), (3, .int x3), (4, .int x4)] [] s (by repeat (first | exact trivial | refine ⟨rfl, ?_⟩)) (by decide +kernel) ?_
    refine rf_R_call (pc := 169) (q := ([.ref rf_o, .int x3, .int (s.1 7)], [])) rp_21 rfl rfl (by decide) rp_2 rfl (Nat.le_of_ble_eq_true rfl) ⟨rfl, Nat.le_of_ble_eq_true rfl⟩ h (fun v s1 h => ?_)
    obtain ⟨rfl, h⟩ := h
    refine rf_R_wv rp_21 (rf_bk am_t21 99 4) 172 [(0, .ref rf_o), (3, .int x3), (4, .int x4)] [] s1 (by repeat (first | exact trivial | refine ⟨rfl, ?_⟩)) (by decide +kernel) ?_
    exact rf_R_ret (pc := 178) (v := some (.int ((s1.1 35) - (Int32.ofInt 1)))) rp_21 rfl rfl rfl ⟨_, rfl, h⟩
  · replace h := h.2 (of_decide_eq_false hb)
    refine rf_R_wv rp_21 (rf_bk am_t21 74 12) 126 [(0, .ref rf_o), (3, .int x3), (4, .int x4)] [] s (by repeat (first | exact trivial | refine ⟨rfl, ?_⟩)) (by decide +kernel) ?_
    refine And.intro h.1 ?_
    replace h := h.2
    refine And.intro h.1 ?_
    replace h := h.2
    refine rf_R_wv rp_21 (rf_bk am_t21 86 6) 147 [(0, .ref rf_o), (3, .int x3), (4, .int x4)] [] (rf_sb s 38 (s.1 39).toNatClampNeg (s.2.2.1 2 ((s.1 6) + x4).toNatClampNeg)) (by repeat (first | exact trivial | refine ⟨rfl, ?_⟩)) (by decide +kernel) ?_
    refine And.intro rfl ?_
    refine rf_R_wv rp_21 (rf_bk am_t21 92 2) 157 [(0, .ref rf_o), (3, .int x3), (4, .int x4)] [] (rf_si (rf_sb s 38 (s.1 39).toNatClampNeg (s.2.2.1 2 ((s.1 6) + x4).toNatClampNeg)) 39 ((s.1 39) + (Int32.ofInt 1))) (by repeat (first | exact trivial | refine ⟨rfl, ?_⟩)) (by decide +kernel) ?_
    exact rf_R_le (l := [(0, .ref rf_o), (3, .int x3), (4, .int (x4 + Int32.ofInt 1))]) rfl rfl (⟨rfl, rfl, rfl, trivial⟩) h
/-- maker ()I, from 103 on -/
def wr_maker_103 (d : Nat) (x1 : Int32) (x2 : Int32) (s : rf_S) (Q : Int32 → rf_S → Prop) : Prop := ((x2 = 0 → rf_R (d + 1) 21 (117, [(0, .ref rf_o), (3, .int (s.1 39)), (4, .int (Int32.ofInt 0))], [], s) (rf_qI Q)) ∧ (¬ (x2 = 0) → Q x1 s))
set_option maxRecDepth 20000 in
theorem wr_maker_103_ok {d : Nat} {x1 : Int32} {x2 : Int32} {s : rf_S} {Q : Int32 → rf_S → Prop} (h : wr_maker_103 d x1 x2 s Q) : rf_R (d + 1) 21 (103, [(0, .ref rf_o), (1, .int x1), (2, .int x2)], [], s) (rf_qI Q) := by
  unfold wr_maker_103 at h
  refine rf_R_wv rp_21 (rf_bk am_t21 61 2) 103 [(0, .ref rf_o), (1, .int x1), (2, .int x2)] [] s (by repeat (first | exact trivial | refine ⟨rfl, ?_⟩)) (by decide +kernel) ?_
  refine rf_R_if (b := am_cnd .eq x2 0) (p := 109) (q := 107) (fun hb => ?_) (fun hb => ?_)
  · replace h := h.1 (of_decide_eq_true hb)
    refine rf_R_wv rp_21 (rf_bk am_t21 65 5) 109 [(0, .ref rf_o), (1, .int x1), (2, .int x2)] [] s (by repeat (first | exact trivial | refine ⟨rfl, ?_⟩)) (by decide +kernel) ?_
    exact rf_R_le (l := [(0, .ref rf_o), (3, .int (s.1 39)), (4, .int (Int32.ofInt 0))]) rfl rfl (⟨rfl, rfl, rfl, trivial⟩) h
  · replace h := h.2 (of_decide_eq_false hb)
    refine rf_R_wv rp_21 (rf_bk am_t21 63 1) 107 [(0, .ref rf_o), (1, .int x1), (2, .int x2)] [] s (by repeat (first | exact trivial | refine ⟨rfl, ?_⟩)) (by decide +kernel) ?_
    exact rf_R_ret (pc := 108) (v := some (.int x1)) rp_21 rfl rfl rfl ⟨_, rfl, h⟩
/-- maker ()I, from 98 on -/
def wr_maker_98 (d : Nat) (x2 : Int32) (y0 : Int32) (y1 : Int32) (s : rf_S) (Q : Int32 → rf_S → Prop) : Prop := rf_R (d + 1) 21 (4, [(0, .ref rf_o), (1, .int (y1 + y0)), (2, .int x2)], [], s) (rf_qI Q)
set_option maxRecDepth 20000 in
theorem wr_maker_98_ok {d : Nat} {x2 : Int32} {y0 : Int32} {y1 : Int32} {s : rf_S} {Q : Int32 → rf_S → Prop} (h : wr_maker_98 d x2 y0 y1 s Q) : rf_R (d + 1) 21 (98, [(0, .ref rf_o), (2, .int x2)], [.int y0, .int y1], s) (rf_qI Q) := by
  unfold wr_maker_98 at h
  refine rf_R_wv rp_21 (rf_bk am_t21 58 3) 98 [(0, .ref rf_o), (2, .int x2)] [.int y0, .int y1] s (by repeat (first | exact trivial | refine ⟨rfl, ?_⟩)) (by decide +kernel) ?_
  exact rf_R_le (l := [(0, .ref rf_o), (1, .int (y1 + y0)), (2, .int x2)]) rfl rfl (⟨rfl, rfl, rfl, trivial⟩) h
/-- maker ()I, from 88 on -/
def wr_maker_88 (d : Nat) (x1 : Int32) (x2 : Int32) (s : rf_S) (Q : Int32 → rf_S → Prop) : Prop := ((x2 = 0 → wr_maker_98 d x2 (Int32.ofInt 1) x1 s Q) ∧ (¬ (x2 = 0) → wr_maker_98 d x2 (Int32.ofInt 0) x1 s Q))
set_option maxRecDepth 20000 in
theorem wr_maker_88_ok {d : Nat} {x1 : Int32} {x2 : Int32} {s : rf_S} {Q : Int32 → rf_S → Prop} (h : wr_maker_88 d x1 x2 s Q) : rf_R (d + 1) 21 (88, [(0, .ref rf_o), (1, .int x1), (2, .int x2)], [], s) (rf_qI Q) := by
  unfold wr_maker_88 at h
  refine rf_R_wv rp_21 (rf_bk am_t21 52 3) 88 [(0, .ref rf_o), (1, .int x1), (2, .int x2)] [] s (by repeat (first | exact trivial | refine ⟨rfl, ?_⟩)) (by decide +kernel) ?_
  refine rf_R_if (b := am_cnd .eq x2 0) (p := 97) (q := 93) (fun hb => ?_) (fun hb => ?_)
  · replace h := h.1 (of_decide_eq_true hb)
    refine rf_R_wv rp_21 (rf_bk am_t21 57 1) 97 [(0, .ref rf_o), (1, .int x1), (2, .int x2)] [.int x1] s (by repeat (first | exact trivial | refine ⟨rfl, ?_⟩)) (by decide +kernel) ?_
    exact rf_R_le (l := [(0, .ref rf_o), (2, .int x2)]) rfl rfl (⟨rfl, rfl, trivial⟩) (wr_maker_98_ok h)
  · replace h := h.2 (of_decide_eq_false hb)
    refine rf_R_wv rp_21 (rf_bk am_t21 55 2) 93 [(0, .ref rf_o), (1, .int x1), (2, .int x2)] [.int x1] s (by repeat (first | exact trivial | refine ⟨rfl, ?_⟩)) (by decide +kernel) ?_
    exact rf_R_le (l := [(0, .ref rf_o), (2, .int x2)]) rfl rfl (⟨rfl, rfl, trivial⟩) (wr_maker_98_ok h)
/-- maker ()I, from 81 on -/
def wr_maker_81 (d : Nat) (x1 : Int32) (x3 : Int32) (y0 : Int32) (s : rf_S) (Q : Int32 → rf_S → Prop) : Prop := rf_R (d + 1) 21 (37, [(0, .ref rf_o), (1, .int x1), (2, .int y0), (3, .int (x3 + Int32.ofInt 1))], [], s) (rf_qI Q)
set_option maxRecDepth 20000 in
theorem wr_maker_81_ok {d : Nat} {x1 : Int32} {x3 : Int32} {y0 : Int32} {s : rf_S} {Q : Int32 → rf_S → Prop} (h : wr_maker_81 d x1 x3 y0 s Q) : rf_R (d + 1) 21 (81, [(0, .ref rf_o), (1, .int x1), (3, .int x3)], [.int y0], s) (rf_qI Q) := by
  unfold wr_maker_81 at h
  refine rf_R_wv rp_21 (rf_bk am_t21 49 3) 81 [(0, .ref rf_o), (1, .int x1), (3, .int x3)] [.int y0] s (by repeat (first | exact trivial | refine ⟨rfl, ?_⟩)) (by decide +kernel) ?_
  exact rf_R_le (l := [(0, .ref rf_o), (1, .int x1), (2, .int y0), (3, .int (x3 + Int32.ofInt 1))]) rfl rfl (⟨rfl, rfl, rfl, rfl, trivial⟩) h
/-- maker ()I, from 37 on -/
def wr_maker_37 (d : Nat) (x1 : Int32) (x2 : Int32) (x3 : Int32) (s : rf_S) (Q : Int32 → rf_S → Prop) : Prop := (((s.1 7) ≤ x3 → wr_maker_88 d x1 x2 s Q) ∧ (¬ ((s.1 7) ≤ x3) → ((x2 = 0 → wr_maker_88 d x1 x2 s Q) ∧ (¬ (x2 = 0) → (rf_in x1 1100 ∧ rf_in ((s.2.2.1 36 x1.toNatClampNeg) + x3) 2100 ∧ (rf_in ((s.1 6) + x3) 2000 ∧ ((¬ (s.2.2.1 38 ((s.2.2.1 36 x1.toNatClampNeg) + x3).toNatClampNeg) = (s.2.2.1 2 ((s.1 6) + x3).toNatClampNeg) → wr_maker_81 d x1 x3 (Int32.ofInt 0) s Q) ∧ ((s.2.2.1 38 ((s.2.2.1 36 x1.toNatClampNeg) + x3).toNatClampNeg) = (s.2.2.1 2 ((s.1 6) + x3).toNatClampNeg) → wr_maker_81 d x1 x3 (Int32.ofInt 1) s Q))))))))
set_option maxRecDepth 20000 in
theorem wr_maker_37_ok {d : Nat} {x1 : Int32} {x2 : Int32} {x3 : Int32} {s : rf_S} {Q : Int32 → rf_S → Prop} (h : wr_maker_37 d x1 x2 x3 s Q) : rf_R (d + 1) 21 (37, [(0, .ref rf_o), (1, .int x1), (2, .int x2), (3, .int x3)], [], s) (rf_qI Q) := by
  unfold wr_maker_37 at h
  refine rf_R_wv rp_21 (rf_bk am_t21 23 4) 37 [(0, .ref rf_o), (1, .int x1), (2, .int x2), (3, .int x3)] [] s (by repeat (first | exact trivial | refine ⟨rfl, ?_⟩)) (by decide +kernel) ?_
  refine rf_R_if (b := am_cnd .ge x3 (s.1 7)) (p := 88) (q := 45) (fun hb => ?_) (fun hb => ?_)
  · replace h := h.1 (of_decide_eq_true hb)
    exact rf_R_le (l := [(0, .ref rf_o), (1, .int x1), (2, .int x2)]) rfl rfl (⟨rfl, rfl, rfl, trivial⟩) (wr_maker_88_ok h)
  · replace h := h.2 (of_decide_eq_false hb)
    refine rf_R_wv rp_21 (rf_bk am_t21 27 2) 45 [(0, .ref rf_o), (1, .int x1), (2, .int x2), (3, .int x3)] [] s (by repeat (first | exact trivial | refine ⟨rfl, ?_⟩)) (by decide +kernel) ?_
    refine rf_R_if (b := am_cnd .eq x2 0) (p := 88) (q := 49) (fun hb => ?_) (fun hb => ?_)
    · replace h := h.1 (of_decide_eq_true hb)
      exact rf_R_le (l := [(0, .ref rf_o), (1, .int x1), (2, .int x2)]) rfl rfl (⟨rfl, rfl, rfl, trivial⟩) (wr_maker_88_ok h)
    · replace h := h.2 (of_decide_eq_false hb)
      refine rf_R_wv rp_21 (rf_bk am_t21 29 14) 49 [(0, .ref rf_o), (1, .int x1), (2, .int x2), (3, .int x3)] [] s (by repeat (first | exact trivial | refine ⟨rfl, ?_⟩)) (by decide +kernel) ?_
      refine And.intro h.1 ?_
      replace h := h.2
      refine And.intro h.1 ?_
      replace h := h.2
      refine rf_R_wv rp_21 (rf_bk am_t21 43 3) 71 [(0, .ref rf_o), (1, .int x1), (2, .int x2), (3, .int x3)] [.int x3, .int (s.1 6), .ref (rf_ad 2), .int (s.2.2.1 38 ((s.2.2.1 36 x1.toNatClampNeg) + x3).toNatClampNeg)] s (by repeat (first | exact trivial | refine ⟨rfl, ?_⟩)) (by decide +kernel) ?_
      refine And.intro h.1 ?_
      replace h := h.2
      refine rf_R_if (b := am_cnd .ne (s.2.2.1 38 ((s.2.2.1 36 x1.toNatClampNeg) + x3).toNatClampNeg) (s.2.2.1 2 ((s.1 6) + x3).toNatClampNeg)) (p := 80) (q := 76) (fun hb => ?_) (fun hb => ?_)
      · replace h := h.1 (of_decide_eq_true hb)
        refine rf_R_wv rp_21 (rf_bk am_t21 48 1) 80 [(0, .ref rf_o), (1, .int x1), (2, .int x2), (3, .int x3)] [] s (by repeat (first | exact trivial | refine ⟨rfl, ?_⟩)) (by decide +kernel) ?_
        exact rf_R_le (l := [(0, .ref rf_o), (1, .int x1), (3, .int x3)]) rfl rfl (⟨rfl, rfl, rfl, trivial⟩) (wr_maker_81_ok h)
      · replace h := h.2 (Decidable.not_not.mp (of_decide_eq_false hb))
        refine rf_R_wv rp_21 (rf_bk am_t21 46 2) 76 [(0, .ref rf_o), (1, .int x1), (2, .int x2), (3, .int x3)] [] s (by repeat (first | exact trivial | refine ⟨rfl, ?_⟩)) (by decide +kernel) ?_
        exact rf_R_le (l := [(0, .ref rf_o), (1, .int x1), (3, .int x3)]) rfl rfl (⟨rfl, rfl, rfl, trivial⟩) (wr_maker_81_ok h)
/-- maker ()I, from 34 on -/
def wr_maker_34 (d : Nat) (x1 : Int32) (y0 : Int32) (s : rf_S) (Q : Int32 → rf_S → Prop) : Prop := rf_R (d + 1) 21 (37, [(0, .ref rf_o), (1, .int x1), (2, .int y0), (3, .int (Int32.ofInt 0))], [], s) (rf_qI Q)
set_option maxRecDepth 20000 in
theorem wr_maker_34_ok {d : Nat} {x1 : Int32} {y0 : Int32} {s : rf_S} {Q : Int32 → rf_S → Prop} (h : wr_maker_34 d x1 y0 s Q) : rf_R (d + 1) 21 (34, [(0, .ref rf_o), (1, .int x1)], [.int y0], s) (rf_qI Q) := by
  unfold wr_maker_34 at h
  refine rf_R_wv rp_21 (rf_bk am_t21 20 3) 34 [(0, .ref rf_o), (1, .int x1)] [.int y0] s (by repeat (first | exact trivial | refine ⟨rfl, ?_⟩)) (by decide +kernel) ?_
  exact rf_R_le (l := [(0, .ref rf_o), (1, .int x1), (2, .int y0), (3, .int (Int32.ofInt 0))]) rfl rfl (⟨rfl, rfl, rfl, rfl, trivial⟩) h
/-- maker ()I, from 4 on -/
def wr_maker_4 (d : Nat) (x1 : Int32) (x2 : Int32) (s : rf_S) (Q : Int32 → rf_S → Prop) : Prop := (((s.1 35) ≤ x1 → wr_maker_103 d x1 x2 s Q) ∧ (¬ ((s.1 35) ≤ x1) → ((¬ x2 = 0 → wr_maker_103 d x1 x2 s Q) ∧ (x2 = 0 → (rf_in x1 1100 ∧ ((¬ (s.2.2.1 37 x1.toNatClampNeg) = (s.1 7) → wr_maker_34 d x1 (Int32.ofInt 0) s Q) ∧ ((s.2.2.1 37 x1.toNatClampNeg) = (s.1 7) → wr_maker_34 d x1 (Int32.ofInt 1) s Q)))))))
set_option maxRecDepth 20000 in
theorem wr_maker_4_ok {d : Nat} {x1 : Int32} {x2 : Int32} {s : rf_S} {Q : Int32 → rf_S → Prop} (h : wr_maker_4 d x1 x2 s Q) : rf_R (d + 1) 21 (4, [(0, .ref rf_o), (1, .int x1), (2, .int x2)], [], s) (rf_qI Q) := by
  unfold wr_maker_4 at h
  refine rf_R_wv rp_21 (rf_bk am_t21 4 4) 4 [(0, .ref rf_o), (1, .int x1), (2, .int x2)] [] s (by repeat (first | exact trivial | refine ⟨rfl, ?_⟩)) (by decide +kernel) ?_
  refine rf_R_if (b := am_cnd .ge x1 (s.1 35)) (p := 103) (q := 12) (fun hb => ?_) (fun hb => ?_)
  · replace h := h.1 (of_decide_eq_true hb)
    exact rf_R_le (l := [(0, .ref rf_o), (1, .int x1), (2, .int x2)]) rfl rfl (⟨rfl, rfl, rfl, trivial⟩) (wr_maker_103_ok h)
  · replace h := h.2 (of_decide_eq_false hb)
    refine rf_R_wv rp_21 (rf_bk am_t21 8 2) 12 [(0, .ref rf_o), (1, .int x1), (2, .int x2)] [] s (by repeat (first | exact trivial | refine ⟨rfl, ?_⟩)) (by decide +kernel) ?_
    refine rf_R_if (b := am_cnd .ne x2 0) (p := 103) (q := 16) (fun hb => ?_) (fun hb => ?_)
    · replace h := h.1 (of_decide_eq_true hb)
      exact rf_R_le (l := [(0, .ref rf_o), (1, .int x1), (2, .int x2)]) rfl rfl (⟨rfl, rfl, rfl, trivial⟩) (wr_maker_103_ok h)
    · replace h := h.2 (Decidable.not_not.mp (of_decide_eq_false hb))
      refine rf_R_wv rp_21 (rf_bk am_t21 10 7) 16 [(0, .ref rf_o), (1, .int x1), (2, .int x2)] [] s (by repeat (first | exact trivial | refine ⟨rfl, ?_⟩)) (by decide +kernel) ?_
      refine And.intro h.1 ?_
      replace h := h.2
      refine rf_R_if (b := am_cnd .ne (s.2.2.1 37 x1.toNatClampNeg) (s.1 7)) (p := 33) (q := 29) (fun hb => ?_) (fun hb => ?_)
      · replace h := h.1 (of_decide_eq_true hb)
        refine rf_R_wv rp_21 (rf_bk am_t21 19 1) 33 [(0, .ref rf_o), (1, .int x1), (2, .int x2)] [] s (by repeat (first | exact trivial | refine ⟨rfl, ?_⟩)) (by decide +kernel) ?_
        exact rf_R_le (l := [(0, .ref rf_o), (1, .int x1)]) rfl rfl (⟨rfl, rfl, trivial⟩) (wr_maker_34_ok h)
      · replace h := h.2 (Decidable.not_not.mp (of_decide_eq_false hb))
        refine rf_R_wv rp_21 (rf_bk am_t21 17 2) 29 [(0, .ref rf_o), (1, .int x1), (2, .int x2)] [] s (by repeat (first | exact trivial | refine ⟨rfl, ?_⟩)) (by decide +kernel) ?_
        exact rf_R_le (l := [(0, .ref rf_o), (1, .int x1)]) rfl rfl (⟨rfl, rfl, trivial⟩) (wr_maker_34_ok h)
/-- maker ()I, from 0 on -/
def wr_maker (d : Nat) (s : rf_S) (Q : Int32 → rf_S → Prop) : Prop := rf_R (d + 1) 21 (4, [(0, .ref rf_o), (1, .int (Int32.ofInt 0)), (2, .int (Int32.ofInt 0))], [], s) (rf_qI Q)
set_option maxRecDepth 20000 in
theorem wr_maker_ok {d : Nat} {s : rf_S} {Q : Int32 → rf_S → Prop} (h : wr_maker d s Q) : rf_I (d + 1) 21 [(0, .ref rf_o)] s Q := by
  unfold wr_maker at h
  unfold rf_I
  refine rf_R_wv rp_21 (rf_bk am_t21 0 4) 0 [(0, .ref rf_o)] [] s (by repeat (first | exact trivial | refine ⟨rfl, ?_⟩)) (by decide +kernel) ?_
  exact rf_R_le (l := [(0, .ref rf_o), (1, .int (Int32.ofInt 0)), (2, .int (Int32.ofInt 0))]) rfl rfl (⟨rfl, rfl, rfl, trivial⟩) h
/-- expression (I)I, from 0 on -/
def wr_expression (d : Nat) (x1 : Int32) (s : rf_S) (Q : Int32 → rf_S → Prop) : Prop := (((s.1 9) < 0 → ((¬ (s.1 5) = (Int32.ofInt 5) → ((¬ (s.1 5) = ((Int8.ofInt 7).toInt32) → rf_I d 11 [(0, .ref rf_o), (1, .int ((Int8.ofInt 92).toInt32))] s (fun r1 s1 => ((r1 = 0 → rf_I d 28 [(0, .ref rf_o), (1, .int x1)] s1 (fun r2 s2 => Q r2 s2)) ∧ (¬ (r1 = 0) → rf_I d 25 [(0, .ref rf_o), (1, .int x1)] s1 (fun r3 s3 => Q r3 s3))))) ∧ ((s.1 5) = ((Int8.ofInt 7).toInt32) → rf_I d 26 [(0, .ref rf_o), (1, .int x1)] s (fun r4 s4 => Q r4 s4)))) ∧ ((s.1 5) = (Int32.ofInt 5) → rf_I d 23 [(0, .ref rf_o), (1, .int x1)] s (fun r5 s5 => Q r5 s5)))) ∧ (¬ ((s.1 9) < 0) → Q (Int32.ofInt (-1)) s))
set_option maxRecDepth 20000 in
theorem wr_expression_ok {d : Nat} {x1 : Int32} {s : rf_S} {Q : Int32 → rf_S → Prop} (h : wr_expression d x1 s Q) : rf_I (d + 1) 22 [(0, .ref rf_o), (1, .int x1)] s Q := by
  unfold wr_expression at h
  unfold rf_I
  refine rf_R_wv rp_22 (rf_bk am_t22 0 3) 0 [(0, .ref rf_o), (1, .int x1)] [] s (by repeat (first | exact trivial | refine ⟨rfl, ?_⟩)) (by decide +kernel) ?_
  refine rf_R_if (b := am_cnd .lt (s.1 9) 0) (p := 9) (q := 7) (fun hb => ?_) (fun hb => ?_)
  · replace h := h.1 (of_decide_eq_true hb)
    refine rf_R_wv rp_22 (rf_bk am_t22 5 4) 9 [(0, .ref rf_o), (1, .int x1)] [] s (by repeat (first | exact trivial | refine ⟨rfl, ?_⟩)) (by decide +kernel) ?_
    refine rf_R_if (b := am_cnd .ne (s.1 5) (Int32.ofInt 5)) (p := 23) (q := 17) (fun hb => ?_) (fun hb => ?_)
    · replace h := h.1 (of_decide_eq_true hb)
      refine rf_R_wv rp_22 (rf_bk am_t22 13 4) 23 [(0, .ref rf_o), (1, .int x1)] [] s (by repeat (first | exact trivial | refine ⟨rfl, ?_⟩)) (by decide +kernel) ?_
      refine rf_R_if (b := am_cnd .ne (s.1 5) ((Int8.ofInt 7).toInt32)) (p := 38) (q := 32) (fun hb => ?_) (fun hb => ?_)
      · replace h := h.1 (of_decide_eq_true hb)
        refine rf_R_wv rp_22 (rf_bk am_t22 21 2) 38 [(0, .ref rf_o), (1, .int x1)] [] s (by repeat (first | exact trivial | refine ⟨rfl, ?_⟩)) (by decide +kernel) ?_
        refine rf_R_call (pc := 41) (q := ([.ref rf_o, .int ((Int8.ofInt 92).toInt32)], [])) rp_22 rfl rfl (by decide) rp_11 rfl (Nat.le_of_ble_eq_true rfl) ⟨rfl, Nat.le_of_ble_eq_true rfl⟩ h (fun v s1 h => ?_)
        obtain ⟨r1, rfl, h⟩ := h
        refine rf_R_wv rp_22 (rf_bk am_t22 24 1) 44 [(0, .ref rf_o), (1, .int x1)] [.int r1] s1 (by repeat (first | exact trivial | refine ⟨rfl, ?_⟩)) (by decide +kernel) ?_
        refine rf_R_if (b := am_cnd .eq r1 0) (p := 55) (q := 47) (fun hb => ?_) (fun hb => ?_)
        · replace h := h.1 (of_decide_eq_true hb)
          refine rf_R_wv rp_22 (rf_bk am_t22 29 2) 55 [(0, .ref rf_o), (1, .int x1)] [] s1 (by repeat (first | exact trivial | refine ⟨rfl, ?_⟩)) (by decide +kernel) ?_
          refine rf_R_call (pc := 57) (q := ([.ref rf_o, .int x1], [])) rp_22 rfl rfl (by decide) rp_28 rfl (Nat.le_of_ble_eq_true rfl) ⟨rfl, Nat.le_of_ble_eq_true rfl⟩ h (fun v s2 h => ?_)
          obtain ⟨r2, rfl, h⟩ := h
          exact rf_R_ret (pc := 60) (v := some (.int r2)) rp_22 rfl rfl rfl ⟨_, rfl, h⟩
        · replace h := h.2 (of_decide_eq_false hb)
          refine rf_R_wv rp_22 (rf_bk am_t22 25 2) 47 [(0, .ref rf_o), (1, .int x1)] [] s1 (by repeat (first | exact trivial | refine ⟨rfl, ?_⟩)) (by decide +kernel) ?_
          refine rf_R_call (pc := 49) (q := ([.ref rf_o, .int x1], [])) rp_22 rfl rfl (by decide) rp_25 rfl (Nat.le_of_ble_eq_true rfl) ⟨rfl, Nat.le_of_ble_eq_true rfl⟩ h (fun v s3 h => ?_)
          obtain ⟨r3, rfl, h⟩ := h
          refine rf_R_wv rp_22 (rf_bk am_t22 28 1) 52 [(0, .ref rf_o), (1, .int x1)] [.int r3] s3 (by repeat (first | exact trivial | refine ⟨rfl, ?_⟩)) (by decide +kernel) ?_
          exact rf_R_ret (pc := 60) (v := some (.int r3)) rp_22 rfl rfl rfl ⟨_, rfl, h⟩
      · replace h := h.2 (Decidable.not_not.mp (of_decide_eq_false hb))
        refine rf_R_wv rp_22 (rf_bk am_t22 17 2) 32 [(0, .ref rf_o), (1, .int x1)] [] s (by repeat (first | exact trivial | refine ⟨rfl, ?_⟩)) (by decide +kernel) ?_
        refine rf_R_call (pc := 34) (q := ([.ref rf_o, .int x1], [])) rp_22 rfl rfl (by decide) rp_26 rfl (Nat.le_of_ble_eq_true rfl) ⟨rfl, Nat.le_of_ble_eq_true rfl⟩ h (fun v s4 h => ?_)
        obtain ⟨r4, rfl, h⟩ := h
        exact rf_R_ret (pc := 37) (v := some (.int r4)) rp_22 rfl rfl rfl ⟨_, rfl, h⟩
    · replace h := h.2 (Decidable.not_not.mp (of_decide_eq_false hb))
      refine rf_R_wv rp_22 (rf_bk am_t22 9 2) 17 [(0, .ref rf_o), (1, .int x1)] [] s (by repeat (first | exact trivial | refine ⟨rfl, ?_⟩)) (by decide +kernel) ?_
      refine rf_R_call (pc := 19) (q := ([.ref rf_o, .int x1], [])) rp_22 rfl rfl (by decide) rp_23 rfl (Nat.le_of_ble_eq_true rfl) ⟨rfl, Nat.le_of_ble_eq_true rfl⟩ h (fun v s5 h => ?_)
      obtain ⟨r5, rfl, h⟩ := h
      exact rf_R_ret (pc := 22) (v := some (.int r5)) rp_22 rfl rfl rfl ⟨_, rfl, h⟩
  · replace h := h.2 (of_decide_eq_false hb)
    refine rf_R_wv rp_22 (rf_bk am_t22 3 1) 7 [(0, .ref rf_o), (1, .int x1)] [] s (by repeat (first | exact trivial | refine ⟨rfl, ?_⟩)) (by decide +kernel) ?_
    exact rf_R_ret (pc := 8) (v := some (.int (Int32.ofInt (-1)))) rp_22 rfl rfl rfl ⟨_, rfl, h⟩
/-- letExpression (I)I, from 105 on -/
def wr_letExpression_105 (d : Nat) (x2 : Int32) (x3 : Int32) (y0 : Int32) (s : rf_S) (Q : Int32 → rf_S → Prop) : Prop := rf_I d 12 [(0, .ref rf_o), (1, .int y0)] s (fun r1 s1 => ((¬ r1 = 0 → rf_I d 22 [(0, .ref rf_o), (1, .int x2)] s1 (fun r2 s2 => (((s2.1 9) < 0 → rf_I d 16 [(0, .ref rf_o), (1, .int x3)] (rf_si s2 10 ((s2.1 10) - (Int32.ofInt 1))) (fun r3 s3 => rf_I d 14 [(0, .ref rf_o), (1, .int ((Int8.ofInt 6).toInt32)), (2, .int r3), (3, .int (((s2.1 18) - x3) / (Int32.ofInt 2))), (4, .int r2)] s3 (fun r4 s4 => Q r4 s4))) ∧ (¬ ((s2.1 9) < 0) → Q (Int32.ofInt (-1)) s2)))) ∧ (r1 = 0 → Q (Int32.ofInt (-1)) s1)))
set_option maxRecDepth 20000 in
theorem wr_letExpression_105_ok {d : Nat} {x2 : Int32} {x3 : Int32} {y0 : Int32} {s : rf_S} {Q : Int32 → rf_S → Prop} (h : wr_letExpression_105 d x2 x3 y0 s Q) : rf_R (d + 1) 23 (105, [(0, .ref rf_o), (2, .int x2), (3, .int x3)], [.int y0, .ref rf_o], s) (rf_qI Q) := by
  unfold wr_letExpression_105 at h
  refine rf_R_call (pc := 105) (q := ([.ref rf_o, .int y0], [])) rp_23 rfl rfl (by decide) rp_12 rfl (Nat.le_of_ble_eq_true rfl) ⟨rfl, Nat.le_of_ble_eq_true rfl⟩ h (fun v s1 h => ?_)
  obtain ⟨r1, rfl, h⟩ := h
  refine rf_R_wv rp_23 (rf_bk am_t23 57 1) 108 [(0, .ref rf_o), (2, .int x2), (3, .int x3)] [.int r1] s1 (by repeat (first | exact trivial | refine ⟨rfl, ?_⟩)) (by decide +kernel) ?_
  refine rf_R_if (b := am_cnd .ne r1 0) (p := 113) (q := 111) (fun hb => ?_) (fun hb => ?_)
  · replace h := h.1 (of_decide_eq_true hb)
    refine rf_R_wv rp_23 (rf_bk am_t23 60 2) 113 [(0, .ref rf_o), (2, .int x2), (3, .int x3)] [] s1 (by repeat (first | exact trivial | refine ⟨rfl, ?_⟩)) (by decide +kernel) ?_
    refine rf_R_call (pc := 115) (q := ([.ref rf_o, .int x2], [])) rp_23 rfl rfl (by decide) rp_22 rfl (Nat.le_of_ble_eq_true rfl) ⟨rfl, Nat.le_of_ble_eq_true rfl⟩ h (fun v s2 h => ?_)
    obtain ⟨r2, rfl, h⟩ := h
    refine rf_R_wv rp_23 (rf_bk am_t23 63 4) 118 [(0, .ref rf_o), (2, .int x2), (3, .int x3)] [.int r2] s2 (by repeat (first | exact trivial | refine ⟨rfl, ?_⟩)) (by decide +kernel) ?_
    refine rf_R_if (b := am_cnd .lt (s2.1 9) 0) (p := 129) (q := 127) (fun hb => ?_) (fun hb => ?_)
    · replace h := h.1 (of_decide_eq_true hb)
      refine rf_R_wv rp_23 (rf_bk am_t23 69 6) 129 [(5, .int r2), (0, .ref rf_o), (2, .int x2), (3, .int x3)] [] s2 (by repeat (first | exact trivial | refine ⟨rfl, ?_⟩)) (by decide +kernel) ?_
      refine And.intro rfl ?_
      refine rf_R_wv rp_23 (rf_bk am_t23 75 5) 139 [(5, .int r2), (0, .ref rf_o), (2, .int x2), (3, .int x3)] [] (rf_si s2 10 ((s2.1 10) - (Int32.ofInt 1))) (by repeat (first | exact trivial | refine ⟨rfl, ?_⟩)) (by decide +kernel) ?_
      refine rf_R_div (pc := 146) rp_23 rfl (by decide) ?_
      refine rf_R_wv rp_23 (rf_bk am_t23 81 5) 147 [(5, .int r2), (0, .ref rf_o), (2, .int x2), (3, .int x3)] [.int (((s2.1 18) - x3) / (Int32.ofInt 2))] (rf_si s2 10 ((s2.1 10) - (Int32.ofInt 1))) (by repeat (first | exact trivial | refine ⟨rfl, ?_⟩)) (by decide +kernel) ?_
      refine rf_R_call (pc := 154) (q := ([.ref rf_o, .int x3], [.int ((Int8.ofInt 6).toInt32), .ref rf_o])) rp_23 rfl rfl (by decide) rp_16 rfl (Nat.le_of_ble_eq_true rfl) ⟨rfl, Nat.le_of_ble_eq_true rfl⟩ h (fun v s3 h => ?_)
      obtain ⟨r3, rfl, h⟩ := h
      refine rf_R_wv rp_23 (rf_bk am_t23 87 2) 157 [(6, .int (((s2.1 18) - x3) / (Int32.ofInt 2))), (5, .int r2), (0, .ref rf_o), (2, .int x2), (3, .int x3)] [.int r3, .int ((Int8.ofInt 6).toInt32), .ref rf_o] s3 (by repeat (first | exact trivial | refine ⟨rfl, ?_⟩)) (by decide +kernel) ?_
      refine rf_R_call (pc := 161) (q := ([.ref rf_o, .int ((Int8.ofInt 6).toInt32), .int r3, .int (((s2.1 18) - x3) / (Int32.ofInt 2)), .int r2], [])) rp_23 rfl rfl (by decide) rp_14 rfl (Nat.le_of_ble_eq_true rfl) ⟨rfl, Nat.le_of_ble_eq_true rfl⟩ h (fun v s4 h => ?_)
      obtain ⟨r4, rfl, h⟩ := h
      exact rf_R_ret (pc := 164) (v := some (.int r4)) rp_23 rfl rfl rfl ⟨_, rfl, h⟩
    · replace h := h.2 (of_decide_eq_false hb)
      refine rf_R_wv rp_23 (rf_bk am_t23 67 1) 127 [(5, .int r2), (0, .ref rf_o), (2, .int x2), (3, .int x3)] [] s2 (by repeat (first | exact trivial | refine ⟨rfl, ?_⟩)) (by decide +kernel) ?_
      exact rf_R_ret (pc := 128) (v := some (.int (Int32.ofInt (-1)))) rp_23 rfl rfl rfl ⟨_, rfl, h⟩
  · replace h := h.2 (Decidable.not_not.mp (of_decide_eq_false hb))
    refine rf_R_wv rp_23 (rf_bk am_t23 58 1) 111 [(0, .ref rf_o), (2, .int x2), (3, .int x3)] [] s1 (by repeat (first | exact trivial | refine ⟨rfl, ?_⟩)) (by decide +kernel) ?_
    exact rf_R_ret (pc := 112) (v := some (.int (Int32.ofInt (-1)))) rp_23 rfl rfl rfl ⟨_, rfl, h⟩
/-- letExpression (I)I, from 87 on -/
def wr_letExpression_87 (d : Nat) (x2 : Int32) (x3 : Int32) (x4 : Int32) (s : rf_S) (Q : Int32 → rf_S → Prop) : Prop := rf_R (d + 1) 23 (23, [(0, .ref rf_o), (2, .int x2), (3, .int x3), (4, .int x4)], [], s) (rf_qI Q)
set_option maxRecDepth 20000 in
theorem wr_letExpression_87_ok {d : Nat} {x2 : Int32} {x3 : Int32} {x4 : Int32} {s : rf_S} {Q : Int32 → rf_S → Prop} (h : wr_letExpression_87 d x2 x3 x4 s Q) : rf_R (d + 1) 23 (87, [(0, .ref rf_o), (2, .int x2), (3, .int x3), (4, .int x4)], [], s) (rf_qI Q) := by
  unfold wr_letExpression_87 at h
  refine rf_R_wv rp_23 (rf_bk am_t23 47 1) 87 [(0, .ref rf_o), (2, .int x2), (3, .int x3), (4, .int x4)] [] s (by repeat (first | exact trivial | refine ⟨rfl, ?_⟩)) (by decide +kernel) ?_
  exact rf_R_le (l := [(0, .ref rf_o), (2, .int x2), (3, .int x3), (4, .int x4)]) rfl rfl (⟨rfl, rfl, rfl, rfl, trivial⟩) h
/-- letExpression (I)I, from 23 on -/
def wr_letExpression_23 (d : Nat) (x2 : Int32) (x3 : Int32) (x4 : Int32) (s : rf_S) (Q : Int32 → rf_S → Prop) : Prop := ((x4 = 0 → ((¬ (s.1 5) = ((Int8.ofInt 6).toInt32) → wr_letExpression_105 d x2 x3 (Int32.ofInt 0) s Q) ∧ ((s.1 5) = ((Int8.ofInt 6).toInt32) → wr_letExpression_105 d x2 x3 (Int32.ofInt 1) s Q))) ∧ (¬ (x4 = 0) → rf_I d 20 [(0, .ref rf_o), (1, .int x2)] s (fun r1 s1 => ((0 ≤ r1 → rf_V d 15 [(0, .ref rf_o), (1, .int r1)] s1 (fun s2 => rf_I d 24 [(0, .ref rf_o), (1, .int x2)] s2 (fun r3 s3 => (((s3.1 9) < 0 → rf_V d 15 [(0, .ref rf_o), (1, .int r3)] s3 (fun s4 => rf_I d 11 [(0, .ref rf_o), (1, .int ((Int8.ofInt 59).toInt32))] s4 (fun r5 s5 => ((r5 = 0 → wr_letExpression_87 d x2 x3 r5 s5 Q) ∧ (¬ (r5 = 0) → rf_V d 9 [(0, .ref rf_o)] s5 (fun s6 => wr_letExpression_87 d x2 x3 r5 s6 Q)))))) ∧ (¬ ((s3.1 9) < 0) → Q (Int32.ofInt (-1)) s3))))) ∧ (¬ (0 ≤ r1) → Q (Int32.ofInt (-1)) s1)))))
set_option maxRecDepth 20000 in
theorem wr_letExpression_23_ok {d : Nat} {x2 : Int32} {x3 : Int32} {x4 : Int32} {s : rf_S} {Q : Int32 → rf_S → Prop} (h : wr_letExpression_23 d x2 x3 x4 s Q) : rf_R (d + 1) 23 (23, [(0, .ref rf_o), (2, .int x2), (3, .int x3), (4, .int x4)], [], s) (rf_qI Q) := by
  unfold wr_letExpression_23 at h
  refine rf_R_wv rp_23 (rf_bk am_t23 14 2) 23 [(0, .ref rf_o), (2, .int x2), (3, .int x3), (4, .int x4)] [] s (by repeat (first | exact trivial | refine ⟨rfl, ?_⟩)) (by decide +kernel) ?_
  refine rf_R_if (b := am_cnd .eq x4 0) (p := 90) (q := 28) (fun hb => ?_) (fun hb => ?_)
  · replace h := h.1 (of_decide_eq_true hb)
    refine rf_R_wv rp_23 (rf_bk am_t23 48 5) 90 [(0, .ref rf_o), (2, .int x2), (3, .int x3), (4, .int x4)] [] s (by repeat (first | exact trivial | refine ⟨rfl, ?_⟩)) (by decide +kernel) ?_
    refine rf_R_if (b := am_cnd .ne (s.1 5) ((Int8.ofInt 6).toInt32)) (p := 104) (q := 100) (fun hb => ?_) (fun hb => ?_)
    · replace h := h.1 (of_decide_eq_true hb)
      refine rf_R_wv rp_23 (rf_bk am_t23 55 1) 104 [(0, .ref rf_o), (2, .int x2), (3, .int x3), (4, .int x4)] [.ref rf_o] s (by repeat (first | exact trivial | refine ⟨rfl, ?_⟩)) (by decide +kernel) ?_
      exact rf_R_le (l := [(0, .ref rf_o), (2, .int x2), (3, .int x3)]) rfl rfl (⟨rfl, rfl, rfl, trivial⟩) (wr_letExpression_105_ok h)
    · replace h := h.2 (Decidable.not_not.mp (of_decide_eq_false hb))
      refine rf_R_wv rp_23 (rf_bk am_t23 53 2) 100 [(0, .ref rf_o), (2, .int x2), (3, .int x3), (4, .int x4)] [.ref rf_o] s (by repeat (first | exact trivial | refine ⟨rfl, ?_⟩)) (by decide +kernel) ?_
      exact rf_R_le (l := [(0, .ref rf_o), (2, .int x2), (3, .int x3)]) rfl rfl (⟨rfl, rfl, rfl, trivial⟩) (wr_letExpression_105_ok h)
  · replace h := h.2 (of_decide_eq_false hb)
    refine rf_R_wv rp_23 (rf_bk am_t23 16 2) 28 [(0, .ref rf_o), (2, .int x2), (3, .int x3), (4, .int x4)] [] s (by repeat (first | exact trivial | refine ⟨rfl, ?_⟩)) (by decide +kernel) ?_
    refine rf_R_call (pc := 30) (q := ([.ref rf_o, .int x2], [])) rp_23 rfl rfl (by decide) rp_20 rfl (Nat.le_of_ble_eq_true rfl) ⟨rfl, Nat.le_of_ble_eq_true rfl⟩ h (fun v s1 h => ?_)
    obtain ⟨r1, rfl, h⟩ := h
    refine rf_R_wv rp_23 (rf_bk am_t23 19 3) 33 [(0, .ref rf_o), (2, .int x2), (3, .int x3), (4, .int x4)] [.int r1] s1 (by repeat (first | exact trivial | refine ⟨rfl, ?_⟩)) (by decide +kernel) ?_
    refine rf_R_if (b := am_cnd .ge r1 0) (p := 42) (q := 40) (fun hb => ?_) (fun hb => ?_)
    · replace h := h.1 (of_decide_eq_true hb)
      refine rf_R_wv rp_23 (rf_bk am_t23 24 2) 42 [(5, .int r1), (0, .ref rf_o), (2, .int x2), (3, .int x3), (4, .int x4)] [] s1 (by repeat (first | exact trivial | refine ⟨rfl, ?_⟩)) (by decide +kernel) ?_
      refine rf_R_call (pc := 45) (q := ([.ref rf_o, .int r1], [])) rp_23 rfl rfl (by decide) rp_15 rfl (Nat.le_of_ble_eq_true rfl) ⟨rfl, Nat.le_of_ble_eq_true rfl⟩ h (fun v s2 h => ?_)
      obtain ⟨rfl, h⟩ := h
      refine rf_R_wv rp_23 (rf_bk am_t23 27 2) 48 [(5, .int r1), (0, .ref rf_o), (2, .int x2), (3, .int x3), (4, .int x4)] [] s2 (by repeat (first | exact trivial | refine ⟨rfl, ?_⟩)) (by decide +kernel) ?_
      refine rf_R_call (pc := 50) (q := ([.ref rf_o, .int x2], [])) rp_23 rfl rfl (by decide) rp_24 rfl (Nat.le_of_ble_eq_true rfl) ⟨rfl, Nat.le_of_ble_eq_true rfl⟩ h (fun v s3 h => ?_)
      obtain ⟨r3, rfl, h⟩ := h
      refine rf_R_wv rp_23 (rf_bk am_t23 30 4) 53 [(5, .int r1), (0, .ref rf_o), (2, .int x2), (3, .int x3), (4, .int x4)] [.int r3] s3 (by repeat (first | exact trivial | refine ⟨rfl, ?_⟩)) (by decide +kernel) ?_
      refine rf_R_if (b := am_cnd .lt (s3.1 9) 0) (p := 64) (q := 62) (fun hb => ?_) (fun hb => ?_)
      · replace h := h.1 (of_decide_eq_true hb)
        refine rf_R_wv rp_23 (rf_bk am_t23 36 2) 64 [(6, .int r3), (5, .int r1), (0, .ref rf_o), (2, .int x2), (3, .int x3), (4, .int x4)] [] s3 (by repeat (first | exact trivial | refine ⟨rfl, ?_⟩)) (by decide +kernel) ?_
        refine rf_R_call (pc := 67) (q := ([.ref rf_o, .int r3], [])) rp_23 rfl rfl (by decide) rp_15 rfl (Nat.le_of_ble_eq_true rfl) ⟨rfl, Nat.le_of_ble_eq_true rfl⟩ h (fun v s4 h => ?_)
        obtain ⟨rfl, h⟩ := h
        refine rf_R_wv rp_23 (rf_bk am_t23 39 2) 70 [(6, .int r3), (5, .int r1), (0, .ref rf_o), (2, .int x2), (3, .int x3), (4, .int x4)] [] s4 (by repeat (first | exact trivial | refine ⟨rfl, ?_⟩)) (by decide +kernel) ?_
        refine rf_R_call (pc := 73) (q := ([.ref rf_o, .int ((Int8.ofInt 59).toInt32)], [])) rp_23 rfl rfl (by decide) rp_11 rfl (Nat.le_of_ble_eq_true rfl) ⟨rfl, Nat.le_of_ble_eq_true rfl⟩ h (fun v s5 h => ?_)
        obtain ⟨r5, rfl, h⟩ := h
        refine rf_R_wv rp_23 (rf_bk am_t23 42 3) 76 [(6, .int r3), (5, .int r1), (0, .ref rf_o), (2, .int x2), (3, .int x3), (4, .int x4)] [.int r5] s5 (by repeat (first | exact trivial | refine ⟨rfl, ?_⟩)) (by decide +kernel) ?_
        refine rf_R_if (b := am_cnd .eq r5 0) (p := 87) (q := 83) (fun hb => ?_) (fun hb => ?_)
        · replace h := h.1 (of_decide_eq_true hb)
          exact rf_R_le (l := [(0, .ref rf_o), (2, .int x2), (3, .int x3), (4, .int r5)]) rfl rfl (⟨rfl, rfl, rfl, rfl, trivial⟩) (wr_letExpression_87_ok h)
        · replace h := h.2 (of_decide_eq_false hb)
          refine rf_R_wv rp_23 (rf_bk am_t23 45 1) 83 [(4, .int r5), (6, .int r3), (5, .int r1), (0, .ref rf_o), (2, .int x2), (3, .int x3)] [] s5 (by repeat (first | exact trivial | refine ⟨rfl, ?_⟩)) (by decide +kernel) ?_
          refine rf_R_call (pc := 84) (q := ([.ref rf_o], [])) rp_23 rfl rfl (by decide) rp_9 rfl (Nat.le_of_ble_eq_true rfl) ⟨rfl, Nat.le_of_ble_eq_true rfl⟩ h (fun v s6 h => ?_)
          obtain ⟨rfl, h⟩ := h
          exact rf_R_le (l := [(0, .ref rf_o), (2, .int x2), (3, .int x3), (4, .int r5)]) rfl rfl (⟨rfl, rfl, rfl, rfl, trivial⟩) (wr_letExpression_87_ok h)
      · replace h := h.2 (of_decide_eq_false hb)
        refine rf_R_wv rp_23 (rf_bk am_t23 34 1) 62 [(6, .int r3), (5, .int r1), (0, .ref rf_o), (2, .int x2), (3, .int x3), (4, .int x4)] [] s3 (by repeat (first | exact trivial | refine ⟨rfl, ?_⟩)) (by decide +kernel) ?_
        exact rf_R_ret (pc := 63) (v := some (.int (Int32.ofInt (-1)))) rp_23 rfl rfl rfl ⟨_, rfl, h⟩
    · replace h := h.2 (of_decide_eq_false hb)
      refine rf_R_wv rp_23 (rf_bk am_t23 22 1) 40 [(5, .int r1), (0, .ref rf_o), (2, .int x2), (3, .int x3), (4, .int x4)] [] s1 (by repeat (first | exact trivial | refine ⟨rfl, ?_⟩)) (by decide +kernel) ?_
      exact rf_R_ret (pc := 41) (v := some (.int (Int32.ofInt (-1)))) rp_23 rfl rfl rfl ⟨_, rfl, h⟩
/-- letExpression (I)I, from 0 on -/
def wr_letExpression (d : Nat) (x1 : Int32) (s : rf_S) (Q : Int32 → rf_S → Prop) : Prop := rf_I d 13 [(0, .ref rf_o)] s (fun r1 s1 => ((¬ r1 = 0 → rf_I d 18 [(0, .ref rf_o), (1, .int x1)] s1 (fun r2 s2 => rf_R (d + 1) 23 (23, [(0, .ref rf_o), (2, .int r2), (3, .int (s2.1 18)), (4, .int (Int32.ofInt 1))], [], s2) (rf_qI Q))) ∧ (r1 = 0 → Q (Int32.ofInt (-1)) s1)))
set_option maxRecDepth 20000 in
theorem wr_letExpression_ok {d : Nat} {x1 : Int32} {s : rf_S} {Q : Int32 → rf_S → Prop} (h : wr_letExpression d x1 s Q) : rf_I (d + 1) 23 [(0, .ref rf_o), (1, .int x1)] s Q := by
  unfold wr_letExpression at h
  unfold rf_I
  refine rf_R_wv rp_23 (rf_bk am_t23 0 1) 0 [(0, .ref rf_o), (1, .int x1)] [] s (by repeat (first | exact trivial | refine ⟨rfl, ?_⟩)) (by decide +kernel) ?_
  refine rf_R_call (pc := 1) (q := ([.ref rf_o], [])) rp_23 rfl rfl (by decide) rp_13 rfl (Nat.le_of_ble_eq_true rfl) ⟨rfl, Nat.le_of_ble_eq_true rfl⟩ h (fun v s1 h => ?_)
  obtain ⟨r1, rfl, h⟩ := h
  refine rf_R_wv rp_23 (rf_bk am_t23 2 1) 4 [(0, .ref rf_o), (1, .int x1)] [.int r1] s1 (by repeat (first | exact trivial | refine ⟨rfl, ?_⟩)) (by decide +kernel) ?_
  refine rf_R_if (b := am_cnd .ne r1 0) (p := 9) (q := 7) (fun hb => ?_) (fun hb => ?_)
  · replace h := h.1 (of_decide_eq_true hb)
    refine rf_R_wv rp_23 (rf_bk am_t23 5 2) 9 [(0, .ref rf_o), (1, .int x1)] [] s1 (by repeat (first | exact trivial | refine ⟨rfl, ?_⟩)) (by decide +kernel) ?_
    refine rf_R_call (pc := 11) (q := ([.ref rf_o, .int x1], [])) rp_23 rfl rfl (by decide) rp_18 rfl (Nat.le_of_ble_eq_true rfl) ⟨rfl, Nat.le_of_ble_eq_true rfl⟩ h (fun v s2 h => ?_)
    obtain ⟨r2, rfl, h⟩ := h
    refine rf_R_wv rp_23 (rf_bk am_t23 8 6) 14 [(0, .ref rf_o), (1, .int x1)] [.int r2] s2 (by repeat (first | exact trivial | refine ⟨rfl, ?_⟩)) (by decide +kernel) ?_
    exact rf_R_le (l := [(0, .ref rf_o), (2, .int r2), (3, .int (s2.1 18)), (4, .int (Int32.ofInt 1))]) rfl rfl (⟨rfl, rfl, rfl, rfl, trivial⟩) h
  · replace h := h.2 (Decidable.not_not.mp (of_decide_eq_false hb))
    refine rf_R_wv rp_23 (rf_bk am_t23 3 1) 7 [(0, .ref rf_o), (1, .int x1)] [] s1 (by repeat (first | exact trivial | refine ⟨rfl, ?_⟩)) (by decide +kernel) ?_
    exact rf_R_ret (pc := 8) (v := some (.int (Int32.ofInt (-1)))) rp_23 rfl rfl rfl ⟨_, rfl, h⟩
/-- bound (I)I, from 107 on -/
def wr_bound_107 (d : Nat) (x3 : Int32) (y0 : Int32) (s : rf_S) (Q : Int32 → rf_S → Prop) : Prop := (((s.1 9) < 0 → rf_I d 16 [(0, .ref rf_o), (1, .int x3)] s (fun r1 s1 => rf_I d 14 [(0, .ref rf_o), (1, .int (Int32.ofInt 3)), (2, .int r1), (3, .int ((s.1 18) - x3)), (4, .int y0)] s1 (fun r2 s2 => Q r2 s2))) ∧ (¬ ((s.1 9) < 0) → Q (Int32.ofInt (-1)) s))
set_option maxRecDepth 20000 in
theorem wr_bound_107_ok {d : Nat} {x3 : Int32} {y0 : Int32} {s : rf_S} {Q : Int32 → rf_S → Prop} (h : wr_bound_107 d x3 y0 s Q) : rf_R (d + 1) 24 (107, [(0, .ref rf_o), (3, .int x3)], [.int y0], s) (rf_qI Q) := by
  unfold wr_bound_107 at h
  refine rf_R_wv rp_24 (rf_bk am_t24 55 4) 107 [(0, .ref rf_o), (3, .int x3)] [.int y0] s (by repeat (first | exact trivial | refine ⟨rfl, ?_⟩)) (by decide +kernel) ?_
  refine rf_R_if (b := am_cnd .lt (s.1 9) 0) (p := 118) (q := 116) (fun hb => ?_) (fun hb => ?_)
  · replace h := h.1 (of_decide_eq_true hb)
    refine rf_R_wv rp_24 (rf_bk am_t24 61 9) 118 [(4, .int y0), (0, .ref rf_o), (3, .int x3)] [] s (by repeat (first | exact trivial | refine ⟨rfl, ?_⟩)) (by decide +kernel) ?_
    refine rf_R_call (pc := 130) (q := ([.ref rf_o, .int x3], [.int (Int32.ofInt 3), .ref rf_o])) rp_24 rfl rfl (by decide) rp_16 rfl (Nat.le_of_ble_eq_true rfl) ⟨rfl, Nat.le_of_ble_eq_true rfl⟩ h (fun v s1 h => ?_)
    obtain ⟨r1, rfl, h⟩ := h
    refine rf_R_wv rp_24 (rf_bk am_t24 71 2) 133 [(5, .int ((s.1 18) - x3)), (4, .int y0), (0, .ref rf_o), (3, .int x3)] [.int r1, .int (Int32.ofInt 3), .ref rf_o] s1 (by repeat (first | exact trivial | refine ⟨rfl, ?_⟩)) (by decide +kernel) ?_
    refine rf_R_call (pc := 137) (q := ([.ref rf_o, .int (Int32.ofInt 3), .int r1, .int ((s.1 18) - x3), .int y0], [])) rp_24 rfl rfl (by decide) rp_14 rfl (Nat.le_of_ble_eq_true rfl) ⟨rfl, Nat.le_of_ble_eq_true rfl⟩ h (fun v s2 h => ?_)
    obtain ⟨r2, rfl, h⟩ := h
    exact rf_R_ret (pc := 140) (v := some (.int r2)) rp_24 rfl rfl rfl ⟨_, rfl, h⟩
  · replace h := h.2 (of_decide_eq_false hb)
    refine rf_R_wv rp_24 (rf_bk am_t24 59 1) 116 [(4, .int y0), (0, .ref rf_o), (3, .int x3)] [] s (by repeat (first | exact trivial | refine ⟨rfl, ?_⟩)) (by decide +kernel) ?_
    exact rf_R_ret (pc := 117) (v := some (.int (Int32.ofInt (-1)))) rp_24 rfl rfl rfl ⟨_, rfl, h⟩
/-- bound (I)I, from 92 on -/
def wr_bound_92 (d : Nat) (x2 : Int32) (x3 : Int32) (y0 : Int32) (s : rf_S) (Q : Int32 → rf_S → Prop) : Prop := rf_I d 12 [(0, .ref rf_o), (1, .int y0)] s (fun r1 s1 => ((r1 = 0 → wr_bound_107 d x3 (Int32.ofInt (-1)) s1 Q) ∧ (¬ (r1 = 0) → rf_I d 22 [(0, .ref rf_o), (1, .int x2)] s1 (fun r2 s2 => wr_bound_107 d x3 r2 s2 Q))))
set_option maxRecDepth 20000 in
theorem wr_bound_92_ok {d : Nat} {x2 : Int32} {x3 : Int32} {y0 : Int32} {s : rf_S} {Q : Int32 → rf_S → Prop} (h : wr_bound_92 d x2 x3 y0 s Q) : rf_R (d + 1) 24 (92, [(0, .ref rf_o), (2, .int x2), (3, .int x3)], [.int y0, .ref rf_o], s) (rf_qI Q) := by
  unfold wr_bound_92 at h
  refine rf_R_call (pc := 92) (q := ([.ref rf_o, .int y0], [])) rp_24 rfl rfl (by decide) rp_12 rfl (Nat.le_of_ble_eq_true rfl) ⟨rfl, Nat.le_of_ble_eq_true rfl⟩ h (fun v s1 h => ?_)
  obtain ⟨r1, rfl, h⟩ := h
  refine rf_R_wv rp_24 (rf_bk am_t24 49 1) 95 [(0, .ref rf_o), (2, .int x2), (3, .int x3)] [.int r1] s1 (by repeat (first | exact trivial | refine ⟨rfl, ?_⟩)) (by decide +kernel) ?_
  refine rf_R_if (b := am_cnd .eq r1 0) (p := 106) (q := 98) (fun hb => ?_) (fun hb => ?_)
  · replace h := h.1 (of_decide_eq_true hb)
    refine rf_R_wv rp_24 (rf_bk am_t24 54 1) 106 [(0, .ref rf_o), (2, .int x2), (3, .int x3)] [] s1 (by repeat (first | exact trivial | refine ⟨rfl, ?_⟩)) (by decide +kernel) ?_
    exact rf_R_le (l := [(0, .ref rf_o), (3, .int x3)]) rfl rfl (⟨rfl, rfl, trivial⟩) (wr_bound_107_ok h)
  · replace h := h.2 (of_decide_eq_false hb)
    refine rf_R_wv rp_24 (rf_bk am_t24 50 2) 98 [(0, .ref rf_o), (2, .int x2), (3, .int x3)] [] s1 (by repeat (first | exact trivial | refine ⟨rfl, ?_⟩)) (by decide +kernel) ?_
    refine rf_R_call (pc := 100) (q := ([.ref rf_o, .int x2], [])) rp_24 rfl rfl (by decide) rp_22 rfl (Nat.le_of_ble_eq_true rfl) ⟨rfl, Nat.le_of_ble_eq_true rfl⟩ h (fun v s2 h => ?_)
    obtain ⟨r2, rfl, h⟩ := h
    refine rf_R_wv rp_24 (rf_bk am_t24 53 1) 103 [(0, .ref rf_o), (2, .int x2), (3, .int x3)] [.int r2] s2 (by repeat (first | exact trivial | refine ⟨rfl, ?_⟩)) (by decide +kernel) ?_
    exact rf_R_le (l := [(0, .ref rf_o), (3, .int x3)]) rfl rfl (⟨rfl, rfl, trivial⟩) (wr_bound_107_ok h)
/-- bound (I)I, from 77 on -/
def wr_bound_77 (d : Nat) (x2 : Int32) (x3 : Int32) (s : rf_S) (Q : Int32 → rf_S → Prop) : Prop := ((¬ (s.1 5) = ((Int8.ofInt 10).toInt32) → wr_bound_92 d x2 x3 (Int32.ofInt 0) s Q) ∧ ((s.1 5) = ((Int8.ofInt 10).toInt32) → wr_bound_92 d x2 x3 (Int32.ofInt 1) s Q))
set_option maxRecDepth 20000 in
theorem wr_bound_77_ok {d : Nat} {x2 : Int32} {x3 : Int32} {s : rf_S} {Q : Int32 → rf_S → Prop} (h : wr_bound_77 d x2 x3 s Q) : rf_R (d + 1) 24 (77, [(0, .ref rf_o), (2, .int x2), (3, .int x3)], [], s) (rf_qI Q) := by
  unfold wr_bound_77 at h
  refine rf_R_wv rp_24 (rf_bk am_t24 40 5) 77 [(0, .ref rf_o), (2, .int x2), (3, .int x3)] [] s (by repeat (first | exact trivial | refine ⟨rfl, ?_⟩)) (by decide +kernel) ?_
  refine rf_R_if (b := am_cnd .ne (s.1 5) ((Int8.ofInt 10).toInt32)) (p := 91) (q := 87) (fun hb => ?_) (fun hb => ?_)
  · replace h := h.1 (of_decide_eq_true hb)
    refine rf_R_wv rp_24 (rf_bk am_t24 47 1) 91 [(0, .ref rf_o), (2, .int x2), (3, .int x3)] [.ref rf_o] s (by repeat (first | exact trivial | refine ⟨rfl, ?_⟩)) (by decide +kernel) ?_
    exact rf_R_le (l := [(0, .ref rf_o), (2, .int x2), (3, .int x3)]) rfl rfl (⟨rfl, rfl, rfl, trivial⟩) (wr_bound_92_ok h)
  · replace h := h.2 (Decidable.not_not.mp (of_decide_eq_false hb))
    refine rf_R_wv rp_24 (rf_bk am_t24 45 2) 87 [(0, .ref rf_o), (2, .int x2), (3, .int x3)] [.ref rf_o] s (by repeat (first | exact trivial | refine ⟨rfl, ?_⟩)) (by decide +kernel) ?_
    exact rf_R_le (l := [(0, .ref rf_o), (2, .int x2), (3, .int x3)]) rfl rfl (⟨rfl, rfl, rfl, trivial⟩) (wr_bound_92_ok h)
/-- bound (I)I, from 50 on -/
def wr_bound_50 (d : Nat) (x2 : Int32) (x3 : Int32) (s : rf_S) (Q : Int32 → rf_S → Prop) : Prop := ((¬ (s.1 5) = (Int32.ofInt 2) → wr_bound_77 d x2 x3 s Q) ∧ ((s.1 5) = (Int32.ofInt 2) → ((0 ≤ (s.1 9) → wr_bound_77 d x2 x3 s Q) ∧ (¬ (0 ≤ (s.1 9)) → rf_I d 20 [(0, .ref rf_o), (1, .int x2)] s (fun r1 s1 => rf_V d 15 [(0, .ref rf_o), (1, .int r1)] s1 (fun s2 => rf_R (d + 1) 24 (50, [(0, .ref rf_o), (2, .int x2), (3, .int x3)], [], s2) (rf_qI Q)))))))
set_option maxRecDepth 20000 in
theorem wr_bound_50_ok {d : Nat} {x2 : Int32} {x3 : Int32} {s : rf_S} {Q : Int32 → rf_S → Prop} (h : wr_bound_50 d x2 x3 s Q) : rf_R (d + 1) 24 (50, [(0, .ref rf_o), (2, .int x2), (3, .int x3)], [], s) (rf_qI Q) := by
  unfold wr_bound_50 at h
  refine rf_R_wv rp_24 (rf_bk am_t24 27 4) 50 [(0, .ref rf_o), (2, .int x2), (3, .int x3)] [] s (by repeat (first | exact trivial | refine ⟨rfl, ?_⟩)) (by decide +kernel) ?_
  refine rf_R_if (b := am_cnd .ne (s.1 5) (Int32.ofInt 2)) (p := 77) (q := 58) (fun hb => ?_) (fun hb => ?_)
  · replace h := h.1 (of_decide_eq_true hb)
    exact rf_R_le (l := [(0, .ref rf_o), (2, .int x2), (3, .int x3)]) rfl rfl (⟨rfl, rfl, rfl, trivial⟩) (wr_bound_77_ok h)
  · replace h := h.2 (Decidable.not_not.mp (of_decide_eq_false hb))
    refine rf_R_wv rp_24 (rf_bk am_t24 31 3) 58 [(0, .ref rf_o), (2, .int x2), (3, .int x3)] [] s (by repeat (first | exact trivial | refine ⟨rfl, ?_⟩)) (by decide +kernel) ?_
    refine rf_R_if (b := am_cnd .ge (s.1 9) 0) (p := 77) (q := 65) (fun hb => ?_) (fun hb => ?_)
    · replace h := h.1 (of_decide_eq_true hb)
      exact rf_R_le (l := [(0, .ref rf_o), (2, .int x2), (3, .int x3)]) rfl rfl (⟨rfl, rfl, rfl, trivial⟩) (wr_bound_77_ok h)
    · replace h := h.2 (of_decide_eq_false hb)
      refine rf_R_wv rp_24 (rf_bk am_t24 34 3) 65 [(0, .ref rf_o), (2, .int x2), (3, .int x3)] [] s (by repeat (first | exact trivial | refine ⟨rfl, ?_⟩)) (by decide +kernel) ?_
      refine rf_R_call (pc := 68) (q := ([.ref rf_o, .int x2], [.ref rf_o])) rp_24 rfl rfl (by decide) rp_20 rfl (Nat.le_of_ble_eq_true rfl) ⟨rfl, Nat.le_of_ble_eq_true rfl⟩ h (fun v s1 h => ?_)
      obtain ⟨r1, rfl, h⟩ := h
      refine rf_R_call (pc := 71) (q := ([.ref rf_o, .int r1], [])) rp_24 rfl rfl (by decide) rp_15 rfl (Nat.le_of_ble_eq_true rfl) ⟨rfl, Nat.le_of_ble_eq_true rfl⟩ h (fun v s2 h => ?_)
      obtain ⟨rfl, h⟩ := h
      refine rf_R_wv rp_24 (rf_bk am_t24 39 1) 74 [(0, .ref rf_o), (2, .int x2), (3, .int x3)] [] s2 (by repeat (first | exact trivial | refine ⟨rfl, ?_⟩)) (by decide +kernel) ?_
      exact rf_R_le (l := [(0, .ref rf_o), (2, .int x2), (3, .int x3)]) rfl rfl (⟨rfl, rfl, rfl, trivial⟩) h
/-- bound (I)I, from 23 on -/
def wr_bound_23 (d : Nat) (x1 : Int32) (y0 : Int32) (s : rf_S) (Q : Int32 → rf_S → Prop) : Prop := rf_I d 12 [(0, .ref rf_o), (1, .int y0)] s (fun r1 s1 => ((r1 = 0 → Q (Int32.ofInt (-1)) s1) ∧ (¬ (r1 = 0) → rf_I d 22 [(0, .ref rf_o), (1, .int x1)] s1 (fun r2 s2 => Q r2 s2))))
set_option maxRecDepth 20000 in
theorem wr_bound_23_ok {d : Nat} {x1 : Int32} {y0 : Int32} {s : rf_S} {Q : Int32 → rf_S → Prop} (h : wr_bound_23 d x1 y0 s Q) : rf_R (d + 1) 24 (23, [(0, .ref rf_o), (1, .int x1)], [.int y0, .ref rf_o], s) (rf_qI Q) := by
  unfold wr_bound_23 at h
  refine rf_R_call (pc := 23) (q := ([.ref rf_o, .int y0], [])) rp_24 rfl rfl (by decide) rp_12 rfl (Nat.le_of_ble_eq_true rfl) ⟨rfl, Nat.le_of_ble_eq_true rfl⟩ h (fun v s1 h => ?_)
  obtain ⟨r1, rfl, h⟩ := h
  refine rf_R_wv rp_24 (rf_bk am_t24 13 1) 26 [(0, .ref rf_o), (1, .int x1)] [.int r1] s1 (by repeat (first | exact trivial | refine ⟨rfl, ?_⟩)) (by decide +kernel) ?_
  refine rf_R_if (b := am_cnd .eq r1 0) (p := 37) (q := 29) (fun hb => ?_) (fun hb => ?_)
  · replace h := h.1 (of_decide_eq_true hb)
    refine rf_R_wv rp_24 (rf_bk am_t24 18 1) 37 [(0, .ref rf_o), (1, .int x1)] [] s1 (by repeat (first | exact trivial | refine ⟨rfl, ?_⟩)) (by decide +kernel) ?_
    exact rf_R_ret (pc := 38) (v := some (.int (Int32.ofInt (-1)))) rp_24 rfl rfl rfl ⟨_, rfl, h⟩
  · replace h := h.2 (of_decide_eq_false hb)
    refine rf_R_wv rp_24 (rf_bk am_t24 14 2) 29 [(0, .ref rf_o), (1, .int x1)] [] s1 (by repeat (first | exact trivial | refine ⟨rfl, ?_⟩)) (by decide +kernel) ?_
    refine rf_R_call (pc := 31) (q := ([.ref rf_o, .int x1], [])) rp_24 rfl rfl (by decide) rp_22 rfl (Nat.le_of_ble_eq_true rfl) ⟨rfl, Nat.le_of_ble_eq_true rfl⟩ h (fun v s2 h => ?_)
    obtain ⟨r2, rfl, h⟩ := h
    refine rf_R_wv rp_24 (rf_bk am_t24 17 1) 34 [(0, .ref rf_o), (1, .int x1)] [.int r2] s2 (by repeat (first | exact trivial | refine ⟨rfl, ?_⟩)) (by decide +kernel) ?_
    exact rf_R_ret (pc := 38) (v := some (.int r2)) rp_24 rfl rfl rfl ⟨_, rfl, h⟩
/-- bound (I)I, from 0 on -/
def wr_bound (d : Nat) (x1 : Int32) (s : rf_S) (Q : Int32 → rf_S → Prop) : Prop := (((s.1 5) = (Int32.ofInt 2) → rf_I d 18 [(0, .ref rf_o), (1, .int x1)] s (fun r1 s1 => rf_R (d + 1) 24 (50, [(0, .ref rf_o), (2, .int r1), (3, .int (s1.1 18))], [], s1) (rf_qI Q))) ∧ (¬ ((s.1 5) = (Int32.ofInt 2)) → ((¬ (s.1 5) = ((Int8.ofInt 10).toInt32) → wr_bound_23 d x1 (Int32.ofInt 0) s Q) ∧ ((s.1 5) = ((Int8.ofInt 10).toInt32) → wr_bound_23 d x1 (Int32.ofInt 1) s Q))))
set_option maxRecDepth 20000 in
theorem wr_bound_ok {d : Nat} {x1 : Int32} {s : rf_S} {Q : Int32 → rf_S → Prop} (h : wr_bound d x1 s Q) : rf_I (d + 1) 24 [(0, .ref rf_o), (1, .int x1)] s Q := by
  unfold wr_bound at h
  unfold rf_I
  refine rf_R_wv rp_24 (rf_bk am_t24 0 4) 0 [(0, .ref rf_o), (1, .int x1)] [] s (by repeat (first | exact trivial | refine ⟨rfl, ?_⟩)) (by decide +kernel) ?_
  refine rf_R_if (b := am_cnd .eq (s.1 5) (Int32.ofInt 2)) (p := 39) (q := 8) (fun hb => ?_) (fun hb => ?_)
  · replace h := h.1 (of_decide_eq_true hb)
    refine rf_R_wv rp_24 (rf_bk am_t24 20 2) 39 [(0, .ref rf_o), (1, .int x1)] [] s (by repeat (first | exact trivial | refine ⟨rfl, ?_⟩)) (by decide +kernel) ?_
    refine rf_R_call (pc := 41) (q := ([.ref rf_o, .int x1], [])) rp_24 rfl rfl (by decide) rp_18 rfl (Nat.le_of_ble_eq_true rfl) ⟨rfl, Nat.le_of_ble_eq_true rfl⟩ h (fun v s1 h => ?_)
    obtain ⟨r1, rfl, h⟩ := h
    refine rf_R_wv rp_24 (rf_bk am_t24 23 4) 44 [(0, .ref rf_o), (1, .int x1)] [.int r1] s1 (by repeat (first | exact trivial | refine ⟨rfl, ?_⟩)) (by decide +kernel) ?_
    exact rf_R_le (l := [(0, .ref rf_o), (2, .int r1), (3, .int (s1.1 18))]) rfl rfl (⟨rfl, rfl, rfl, trivial⟩) h
  · replace h := h.2 (of_decide_eq_false hb)
    refine rf_R_wv rp_24 (rf_bk am_t24 4 5) 8 [(0, .ref rf_o), (1, .int x1)] [] s (by repeat (first | exact trivial | refine ⟨rfl, ?_⟩)) (by decide +kernel) ?_
    refine rf_R_if (b := am_cnd .ne (s.1 5) ((Int8.ofInt 10).toInt32)) (p := 22) (q := 18) (fun hb => ?_) (fun hb => ?_)
    · replace h := h.1 (of_decide_eq_true hb)
      refine rf_R_wv rp_24 (rf_bk am_t24 11 1) 22 [(0, .ref rf_o), (1, .int x1)] [.ref rf_o] s (by repeat (first | exact trivial | refine ⟨rfl, ?_⟩)) (by decide +kernel) ?_
      exact rf_R_le (l := [(0, .ref rf_o), (1, .int x1)]) rfl rfl (⟨rfl, rfl, trivial⟩) (wr_bound_23_ok h)
    · replace h := h.2 (Decidable.not_not.mp (of_decide_eq_false hb))
      refine rf_R_wv rp_24 (rf_bk am_t24 9 2) 18 [(0, .ref rf_o), (1, .int x1)] [.ref rf_o] s (by repeat (first | exact trivial | refine ⟨rfl, ?_⟩)) (by decide +kernel) ?_
      exact rf_R_le (l := [(0, .ref rf_o), (1, .int x1)]) rfl rfl (⟨rfl, rfl, trivial⟩) (wr_bound_23_ok h)
/-- functionExpression (I)I, from 86 on -/
def wr_functionExpression_86 (d : Nat) (x3 : Int32) (y0 : Int32) (s : rf_S) (Q : Int32 → rf_S → Prop) : Prop := (((s.1 9) < 0 → rf_I d 16 [(0, .ref rf_o), (1, .int x3)] (rf_si s 10 ((s.1 10) - (Int32.ofInt 1))) (fun r1 s1 => rf_I d 14 [(0, .ref rf_o), (1, .int (Int32.ofInt 3)), (2, .int r1), (3, .int ((s.1 18) - x3)), (4, .int y0)] s1 (fun r2 s2 => Q r2 s2))) ∧ (¬ ((s.1 9) < 0) → Q (Int32.ofInt (-1)) s))
set_option maxRecDepth 20000 in
theorem wr_functionExpression_86_ok {d : Nat} {x3 : Int32} {y0 : Int32} {s : rf_S} {Q : Int32 → rf_S → Prop} (h : wr_functionExpression_86 d x3 y0 s Q) : rf_R (d + 1) 25 (86, [(0, .ref rf_o), (3, .int x3)], [.int y0], s) (rf_qI Q) := by
  unfold wr_functionExpression_86 at h
  refine rf_R_wv rp_25 (rf_bk am_t25 45 4) 86 [(0, .ref rf_o), (3, .int x3)] [.int y0] s (by repeat (first | exact trivial | refine ⟨rfl, ?_⟩)) (by decide +kernel) ?_
  refine rf_R_if (b := am_cnd .lt (s.1 9) 0) (p := 97) (q := 95) (fun hb => ?_) (fun hb => ?_)
  · replace h := h.1 (of_decide_eq_true hb)
    refine rf_R_wv rp_25 (rf_bk am_t25 51 6) 97 [(4, .int y0), (0, .ref rf_o), (3, .int x3)] [] s (by repeat (first | exact trivial | refine ⟨rfl, ?_⟩)) (by decide +kernel) ?_
    refine And.intro rfl ?_
    refine rf_R_wv rp_25 (rf_bk am_t25 57 9) 107 [(4, .int y0), (0, .ref rf_o), (3, .int x3)] [] (rf_si s 10 ((s.1 10) - (Int32.ofInt 1))) (by repeat (first | exact trivial | refine ⟨rfl, ?_⟩)) (by decide +kernel) ?_
    refine rf_R_call (pc := 119) (q := ([.ref rf_o, .int x3], [.int (Int32.ofInt 3), .ref rf_o])) rp_25 rfl rfl (by decide) rp_16 rfl (Nat.le_of_ble_eq_true rfl) ⟨rfl, Nat.le_of_ble_eq_true rfl⟩ h (fun v s1 h => ?_)
    obtain ⟨r1, rfl, h⟩ := h
    refine rf_R_wv rp_25 (rf_bk am_t25 67 2) 122 [(5, .int ((s.1 18) - x3)), (4, .int y0), (0, .ref rf_o), (3, .int x3)] [.int r1, .int (Int32.ofInt 3), .ref rf_o] s1 (by repeat (first | exact trivial | refine ⟨rfl, ?_⟩)) (by decide +kernel) ?_
    refine rf_R_call (pc := 126) (q := ([.ref rf_o, .int (Int32.ofInt 3), .int r1, .int ((s.1 18) - x3), .int y0], [])) rp_25 rfl rfl (by decide) rp_14 rfl (Nat.le_of_ble_eq_true rfl) ⟨rfl, Nat.le_of_ble_eq_true rfl⟩ h (fun v s2 h => ?_)
    obtain ⟨r2, rfl, h⟩ := h
    exact rf_R_ret (pc := 129) (v := some (.int r2)) rp_25 rfl rfl rfl ⟨_, rfl, h⟩
  · replace h := h.2 (of_decide_eq_false hb)
    refine rf_R_wv rp_25 (rf_bk am_t25 49 1) 95 [(4, .int y0), (0, .ref rf_o), (3, .int x3)] [] s (by repeat (first | exact trivial | refine ⟨rfl, ?_⟩)) (by decide +kernel) ?_
    exact rf_R_ret (pc := 96) (v := some (.int (Int32.ofInt (-1)))) rp_25 rfl rfl rfl ⟨_, rfl, h⟩
/-- functionExpression (I)I, from 71 on -/
def wr_functionExpression_71 (d : Nat) (x2 : Int32) (x3 : Int32) (y0 : Int32) (s : rf_S) (Q : Int32 → rf_S → Prop) : Prop := rf_I d 12 [(0, .ref rf_o), (1, .int y0)] s (fun r1 s1 => ((r1 = 0 → wr_functionExpression_86 d x3 (Int32.ofInt (-1)) s1 Q) ∧ (¬ (r1 = 0) → rf_I d 22 [(0, .ref rf_o), (1, .int x2)] s1 (fun r2 s2 => wr_functionExpression_86 d x3 r2 s2 Q))))
set_option maxRecDepth 20000 in
theorem wr_functionExpression_71_ok {d : Nat} {x2 : Int32} {x3 : Int32} {y0 : Int32} {s : rf_S} {Q : Int32 → rf_S → Prop} (h : wr_functionExpression_71 d x2 x3 y0 s Q) : rf_R (d + 1) 25 (71, [(0, .ref rf_o), (2, .int x2), (3, .int x3)], [.int y0, .ref rf_o], s) (rf_qI Q) := by
  unfold wr_functionExpression_71 at h
  refine rf_R_call (pc := 71) (q := ([.ref rf_o, .int y0], [])) rp_25 rfl rfl (by decide) rp_12 rfl (Nat.le_of_ble_eq_true rfl) ⟨rfl, Nat.le_of_ble_eq_true rfl⟩ h (fun v s1 h => ?_)
  obtain ⟨r1, rfl, h⟩ := h
  refine rf_R_wv rp_25 (rf_bk am_t25 39 1) 74 [(0, .ref rf_o), (2, .int x2), (3, .int x3)] [.int r1] s1 (by repeat (first | exact trivial | refine ⟨rfl, ?_⟩)) (by decide +kernel) ?_
  refine rf_R_if (b := am_cnd .eq r1 0) (p := 85) (q := 77) (fun hb => ?_) (fun hb => ?_)
  · replace h := h.1 (of_decide_eq_true hb)
    refine rf_R_wv rp_25 (rf_bk am_t25 44 1) 85 [(0, .ref rf_o), (2, .int x2), (3, .int x3)] [] s1 (by repeat (first | exact trivial | refine ⟨rfl, ?_⟩)) (by decide +kernel) ?_
    exact rf_R_le (l := [(0, .ref rf_o), (3, .int x3)]) rfl rfl (⟨rfl, rfl, trivial⟩) (wr_functionExpression_86_ok h)
  · replace h := h.2 (of_decide_eq_false hb)
    refine rf_R_wv rp_25 (rf_bk am_t25 40 2) 77 [(0, .ref rf_o), (2, .int x2), (3, .int x3)] [] s1 (by repeat (first | exact trivial | refine ⟨rfl, ?_⟩)) (by decide +kernel) ?_
    refine rf_R_call (pc := 79) (q := ([.ref rf_o, .int x2], [])) rp_25 rfl rfl (by decide) rp_22 rfl (Nat.le_of_ble_eq_true rfl) ⟨rfl, Nat.le_of_ble_eq_true rfl⟩ h (fun v s2 h => ?_)
    obtain ⟨r2, rfl, h⟩ := h
    refine rf_R_wv rp_25 (rf_bk am_t25 43 1) 82 [(0, .ref rf_o), (2, .int x2), (3, .int x3)] [.int r2] s2 (by repeat (first | exact trivial | refine ⟨rfl, ?_⟩)) (by decide +kernel) ?_
    exact rf_R_le (l := [(0, .ref rf_o), (3, .int x3)]) rfl rfl (⟨rfl, rfl, trivial⟩) (wr_functionExpression_86_ok h)
/-- functionExpression (I)I, from 56 on -/
def wr_functionExpression_56 (d : Nat) (x2 : Int32) (x3 : Int32) (s : rf_S) (Q : Int32 → rf_S → Prop) : Prop := ((¬ (s.1 5) = ((Int8.ofInt 9).toInt32) → wr_functionExpression_71 d x2 x3 (Int32.ofInt 0) s Q) ∧ ((s.1 5) = ((Int8.ofInt 9).toInt32) → wr_functionExpression_71 d x2 x3 (Int32.ofInt 1) s Q))
set_option maxRecDepth 20000 in
theorem wr_functionExpression_56_ok {d : Nat} {x2 : Int32} {x3 : Int32} {s : rf_S} {Q : Int32 → rf_S → Prop} (h : wr_functionExpression_56 d x2 x3 s Q) : rf_R (d + 1) 25 (56, [(0, .ref rf_o), (2, .int x2), (3, .int x3)], [], s) (rf_qI Q) := by
  unfold wr_functionExpression_56 at h
  refine rf_R_wv rp_25 (rf_bk am_t25 30 5) 56 [(0, .ref rf_o), (2, .int x2), (3, .int x3)] [] s (by repeat (first | exact trivial | refine ⟨rfl, ?_⟩)) (by decide +kernel) ?_
  refine rf_R_if (b := am_cnd .ne (s.1 5) ((Int8.ofInt 9).toInt32)) (p := 70) (q := 66) (fun hb => ?_) (fun hb => ?_)
  · replace h := h.1 (of_decide_eq_true hb)
    refine rf_R_wv rp_25 (rf_bk am_t25 37 1) 70 [(0, .ref rf_o), (2, .int x2), (3, .int x3)] [.ref rf_o] s (by repeat (first | exact trivial | refine ⟨rfl, ?_⟩)) (by decide +kernel) ?_
    exact rf_R_le (l := [(0, .ref rf_o), (2, .int x2), (3, .int x3)]) rfl rfl (⟨rfl, rfl, rfl, trivial⟩) (wr_functionExpression_71_ok h)
  · replace h := h.2 (Decidable.not_not.mp (of_decide_eq_false hb))
    refine rf_R_wv rp_25 (rf_bk am_t25 35 2) 66 [(0, .ref rf_o), (2, .int x2), (3, .int x3)] [.ref rf_o] s (by repeat (first | exact trivial | refine ⟨rfl, ?_⟩)) (by decide +kernel) ?_
    exact rf_R_le (l := [(0, .ref rf_o), (2, .int x2), (3, .int x3)]) rfl rfl (⟨rfl, rfl, rfl, trivial⟩) (wr_functionExpression_71_ok h)
/-- functionExpression (I)I, from 29 on -/
def wr_functionExpression_29 (d : Nat) (x2 : Int32) (x3 : Int32) (s : rf_S) (Q : Int32 → rf_S → Prop) : Prop := ((¬ (s.1 5) = (Int32.ofInt 2) → wr_functionExpression_56 d x2 x3 s Q) ∧ ((s.1 5) = (Int32.ofInt 2) → ((0 ≤ (s.1 9) → wr_functionExpression_56 d x2 x3 s Q) ∧ (¬ (0 ≤ (s.1 9)) → rf_I d 20 [(0, .ref rf_o), (1, .int x2)] s (fun r1 s1 => rf_V d 15 [(0, .ref rf_o), (1, .int r1)] s1 (fun s2 => rf_R (d + 1) 25 (29, [(0, .ref rf_o), (2, .int x2), (3, .int x3)], [], s2) (rf_qI Q)))))))
set_option maxRecDepth 20000 in
theorem wr_functionExpression_29_ok {d : Nat} {x2 : Int32} {x3 : Int32} {s : rf_S} {Q : Int32 → rf_S → Prop} (h : wr_functionExpression_29 d x2 x3 s Q) : rf_R (d + 1) 25 (29, [(0, .ref rf_o), (2, .int x2), (3, .int x3)], [], s) (rf_qI Q) := by
  unfold wr_functionExpression_29 at h
  refine rf_R_wv rp_25 (rf_bk am_t25 17 4) 29 [(0, .ref rf_o), (2, .int x2), (3, .int x3)] [] s (by repeat (first | exact trivial | refine ⟨rfl, ?_⟩)) (by decide +kernel) ?_
  refine rf_R_if (b := am_cnd .ne (s.1 5) (Int32.ofInt 2)) (p := 56) (q := 37) (fun hb => ?_) (fun hb => ?_)
  · replace h := h.1 (of_decide_eq_true hb)
    exact rf_R_le (l := [(0, .ref rf_o), (2, .int x2), (3, .int x3)]) rfl rfl (⟨rfl, rfl, rfl, trivial⟩) (wr_functionExpression_56_ok h)
  · replace h := h.2 (Decidable.not_not.mp (of_decide_eq_false hb))
    refine rf_R_wv rp_25 (rf_bk am_t25 21 3) 37 [(0, .ref rf_o), (2, .int x2), (3, .int x3)] [] s (by repeat (first | exact trivial | refine ⟨rfl, ?_⟩)) (by decide +kernel) ?_
    refine rf_R_if (b := am_cnd .ge (s.1 9) 0) (p := 56) (q := 44) (fun hb => ?_) (fun hb => ?_)
    · replace h := h.1 (of_decide_eq_true hb)
      exact rf_R_le (l := [(0, .ref rf_o), (2, .int x2), (3, .int x3)]) rfl rfl (⟨rfl, rfl, rfl, trivial⟩) (wr_functionExpression_56_ok h)
    · replace h := h.2 (of_decide_eq_false hb)
      refine rf_R_wv rp_25 (rf_bk am_t25 24 3) 44 [(0, .ref rf_o), (2, .int x2), (3, .int x3)] [] s (by repeat (first | exact trivial | refine ⟨rfl, ?_⟩)) (by decide +kernel) ?_
      refine rf_R_call (pc := 47) (q := ([.ref rf_o, .int x2], [.ref rf_o])) rp_25 rfl rfl (by decide) rp_20 rfl (Nat.le_of_ble_eq_true rfl) ⟨rfl, Nat.le_of_ble_eq_true rfl⟩ h (fun v s1 h => ?_)
      obtain ⟨r1, rfl, h⟩ := h
      refine rf_R_call (pc := 50) (q := ([.ref rf_o, .int r1], [])) rp_25 rfl rfl (by decide) rp_15 rfl (Nat.le_of_ble_eq_true rfl) ⟨rfl, Nat.le_of_ble_eq_true rfl⟩ h (fun v s2 h => ?_)
      obtain ⟨rfl, h⟩ := h
      refine rf_R_wv rp_25 (rf_bk am_t25 29 1) 53 [(0, .ref rf_o), (2, .int x2), (3, .int x3)] [] s2 (by repeat (first | exact trivial | refine ⟨rfl, ?_⟩)) (by decide +kernel) ?_
      exact rf_R_le (l := [(0, .ref rf_o), (2, .int x2), (3, .int x3)]) rfl rfl (⟨rfl, rfl, rfl, trivial⟩) h
/-- functionExpression (I)I, from 0 on -/
def wr_functionExpression (d : Nat) (x1 : Int32) (s : rf_S) (Q : Int32 → rf_S → Prop) : Prop := rf_I d 13 [(0, .ref rf_o)] s (fun r1 s1 => ((¬ r1 = 0 → rf_I d 18 [(0, .ref rf_o), (1, .int x1)] s1 (fun r2 s2 => rf_I d 20 [(0, .ref rf_o), (1, .int r2)] s2 (fun r3 s3 => rf_V d 15 [(0, .ref rf_o), (1, .int r3)] s3 (fun s4 => rf_R (d + 1) 25 (29, [(0, .ref rf_o), (2, .int r2), (3, .int (s2.1 18))], [], s4) (rf_qI Q))))) ∧ (r1 = 0 → Q (Int32.ofInt (-1)) s1)))
set_option maxRecDepth 20000 in
theorem wr_functionExpression_ok {d : Nat} {x1 : Int32} {s : rf_S} {Q : Int32 → rf_S → Prop} (h : wr_functionExpression d x1 s Q) : rf_I (d + 1) 25 [(0, .ref rf_o), (1, .int x1)] s Q := by
  unfold wr_functionExpression at h
  unfold rf_I
  refine rf_R_wv rp_25 (rf_bk am_t25 0 1) 0 [(0, .ref rf_o), (1, .int x1)] [] s (by repeat (first | exact trivial | refine ⟨rfl, ?_⟩)) (by decide +kernel) ?_
  refine rf_R_call (pc := 1) (q := ([.ref rf_o], [])) rp_25 rfl rfl (by decide) rp_13 rfl (Nat.le_of_ble_eq_true rfl) ⟨rfl, Nat.le_of_ble_eq_true rfl⟩ h (fun v s1 h => ?_)
  obtain ⟨r1, rfl, h⟩ := h
  refine rf_R_wv rp_25 (rf_bk am_t25 2 1) 4 [(0, .ref rf_o), (1, .int x1)] [.int r1] s1 (by repeat (first | exact trivial | refine ⟨rfl, ?_⟩)) (by decide +kernel) ?_
  refine rf_R_if (b := am_cnd .ne r1 0) (p := 9) (q := 7) (fun hb => ?_) (fun hb => ?_)
  · replace h := h.1 (of_decide_eq_true hb)
    refine rf_R_wv rp_25 (rf_bk am_t25 5 2) 9 [(0, .ref rf_o), (1, .int x1)] [] s1 (by repeat (first | exact trivial | refine ⟨rfl, ?_⟩)) (by decide +kernel) ?_
    refine rf_R_call (pc := 11) (q := ([.ref rf_o, .int x1], [])) rp_25 rfl rfl (by decide) rp_18 rfl (Nat.le_of_ble_eq_true rfl) ⟨rfl, Nat.le_of_ble_eq_true rfl⟩ h (fun v s2 h => ?_)
    obtain ⟨r2, rfl, h⟩ := h
    refine rf_R_wv rp_25 (rf_bk am_t25 8 7) 14 [(0, .ref rf_o), (1, .int x1)] [.int r2] s2 (by repeat (first | exact trivial | refine ⟨rfl, ?_⟩)) (by decide +kernel) ?_
    refine rf_R_call (pc := 23) (q := ([.ref rf_o, .int r2], [.ref rf_o])) rp_25 rfl rfl (by decide) rp_20 rfl (Nat.le_of_ble_eq_true rfl) ⟨rfl, Nat.le_of_ble_eq_true rfl⟩ h (fun v s3 h => ?_)
    obtain ⟨r3, rfl, h⟩ := h
    refine rf_R_call (pc := 26) (q := ([.ref rf_o, .int r3], [])) rp_25 rfl rfl (by decide) rp_15 rfl (Nat.le_of_ble_eq_true rfl) ⟨rfl, Nat.le_of_ble_eq_true rfl⟩ h (fun v s4 h => ?_)
    obtain ⟨rfl, h⟩ := h
    exact rf_R_le (l := [(0, .ref rf_o), (2, .int r2), (3, .int (s2.1 18))]) rfl rfl (⟨rfl, rfl, rfl, trivial⟩) h
  · replace h := h.2 (Decidable.not_not.mp (of_decide_eq_false hb))
    refine rf_R_wv rp_25 (rf_bk am_t25 3 1) 7 [(0, .ref rf_o), (1, .int x1)] [] s1 (by repeat (first | exact trivial | refine ⟨rfl, ?_⟩)) (by decide +kernel) ?_
    exact rf_R_ret (pc := 8) (v := some (.int (Int32.ofInt (-1)))) rp_25 rfl rfl rfl ⟨_, rfl, h⟩
/-- caseExpression (I)I, from 62 on -/
def wr_caseExpression_62 (d : Nat) (x1 : Int32) (x2 : Int32) (x3 : Int32) (x4 : Int32) (x5 : Int32) (s : rf_S) (Q : Int32 → rf_S → Prop) : Prop := ((x5 = 0 → rf_I d 11 [(0, .ref rf_o), (1, .int ((Int8.ofInt 125).toInt32))] s (fun r1 s1 => rf_I d 12 [(0, .ref rf_o), (1, .int r1)] s1 (fun r2 s2 => ((¬ r2 = 0 → rf_I d 16 [(0, .ref rf_o), (1, .int x3)] (rf_si s2 10 ((s2.1 10) - (Int32.ofInt 1))) (fun r3 s3 => rf_I d 14 [(0, .ref rf_o), (1, .int ((Int8.ofInt 8).toInt32)), (2, .int r3), (3, .int x4), (4, .int (Int32.ofInt 0))] s3 (fun r4 s4 => rf_I d 14 [(0, .ref rf_o), (1, .int ((Int8.ofInt 7).toInt32)), (2, .int x2), (3, .int r4), (4, .int (Int32.ofInt 0))] s4 (fun r5 s5 => Q r5 s5)))) ∧ (r2 = 0 → Q (Int32.ofInt (-1)) s2))))) ∧ (¬ (x5 = 0) → rf_V d 27 [(0, .ref rf_o), (1, .int x1)] s (fun s6 => (((s6.1 9) < 0 → rf_I d 11 [(0, .ref rf_o), (1, .int ((Int8.ofInt 59).toInt32))] s6 (fun r7 s7 => ((r7 = 0 → rf_R (d + 1) 26 (62, [(0, .ref rf_o), (1, .int x1), (2, .int x2), (3, .int x3), (4, .int (x4 + Int32.ofInt 1)), (5, .int r7)], [], s7) (rf_qI Q)) ∧ (¬ (r7 = 0) → rf_V d 9 [(0, .ref rf_o)] s7 (fun s8 => rf_R (d + 1) 26 (62, [(0, .ref rf_o), (1, .int x1), (2, .int x2), (3, .int x3), (4, .int (x4 + Int32.ofInt 1)), (5, .int r7)], [], s8) (rf_qI Q)))))) ∧ (¬ ((s6.1 9) < 0) → Q (Int32.ofInt (-1)) s6)))))
set_option maxRecDepth 20000 in
theorem wr_caseExpression_62_ok {d : Nat} {x1 : Int32} {x2 : Int32} {x3 : Int32} {x4 : Int32} {x5 : Int32} {s : rf_S} {Q : Int32 → rf_S → Prop} (h : wr_caseExpression_62 d x1 x2 x3 x4 x5 s Q) : rf_R (d + 1) 26 (62, [(0, .ref rf_o), (1, .int x1), (2, .int x2), (3, .int x3), (4, .int x4), (5, .int x5)], [], s) (rf_qI Q) := by
  unfold wr_caseExpression_62 at h
  refine rf_R_wv rp_26 (rf_bk am_t26 34 2) 62 [(0, .ref rf_o), (1, .int x1), (2, .int x2), (3, .int x3), (4, .int x4), (5, .int x5)] [] s (by repeat (first | exact trivial | refine ⟨rfl, ?_⟩)) (by decide +kernel) ?_
  refine rf_R_if (b := am_cnd .eq x5 0) (p := 104) (q := 67) (fun hb => ?_) (fun hb => ?_)
  · replace h := h.1 (of_decide_eq_true hb)
    refine rf_R_wv rp_26 (rf_bk am_t26 54 3) 104 [(0, .ref rf_o), (1, .int x1), (2, .int x2), (3, .int x3), (4, .int x4), (5, .int x5)] [] s (by repeat (first | exact trivial | refine ⟨rfl, ?_⟩)) (by decide +kernel) ?_
    refine rf_R_call (pc := 108) (q := ([.ref rf_o, .int ((Int8.ofInt 125).toInt32)], [.ref rf_o])) rp_26 rfl rfl (by decide) rp_11 rfl (Nat.le_of_ble_eq_true rfl) ⟨rfl, Nat.le_of_ble_eq_true rfl⟩ h (fun v s1 h => ?_)
    obtain ⟨r1, rfl, h⟩ := h
    refine rf_R_call (pc := 111) (q := ([.ref rf_o, .int r1], [])) rp_26 rfl rfl (by decide) rp_12 rfl (Nat.le_of_ble_eq_true rfl) ⟨rfl, Nat.le_of_ble_eq_true rfl⟩ h (fun v s2 h => ?_)
    obtain ⟨r2, rfl, h⟩ := h
    refine rf_R_wv rp_26 (rf_bk am_t26 59 1) 114 [(0, .ref rf_o), (1, .int x1), (2, .int x2), (3, .int x3), (4, .int x4), (5, .int x5)] [.int r2] s2 (by repeat (first | exact trivial | refine ⟨rfl, ?_⟩)) (by decide +kernel) ?_
    refine rf_R_if (b := am_cnd .ne r2 0) (p := 119) (q := 117) (fun hb => ?_) (fun hb => ?_)
    · replace h := h.1 (of_decide_eq_true hb)
      refine rf_R_wv rp_26 (rf_bk am_t26 62 6) 119 [(0, .ref rf_o), (1, .int x1), (2, .int x2), (3, .int x3), (4, .int x4), (5, .int x5)] [] s2 (by repeat (first | exact trivial | refine ⟨rfl, ?_⟩)) (by decide +kernel) ?_
      refine And.intro rfl ?_
      refine rf_R_wv rp_26 (rf_bk am_t26 68 4) 129 [(0, .ref rf_o), (1, .int x1), (2, .int x2), (3, .int x3), (4, .int x4), (5, .int x5)] [] (rf_si s2 10 ((s2.1 10) - (Int32.ofInt 1))) (by repeat (first | exact trivial | refine ⟨rfl, ?_⟩)) (by decide +kernel) ?_
      refine rf_R_call (pc := 134) (q := ([.ref rf_o, .int x3], [.int ((Int8.ofInt 8).toInt32), .ref rf_o])) rp_26 rfl rfl (by decide) rp_16 rfl (Nat.le_of_ble_eq_true rfl) ⟨rfl, Nat.le_of_ble_eq_true rfl⟩ h (fun v s3 h => ?_)
      obtain ⟨r3, rfl, h⟩ := h
      refine rf_R_wv rp_26 (rf_bk am_t26 73 2) 137 [(0, .ref rf_o), (1, .int x1), (2, .int x2), (3, .int x3), (4, .int x4), (5, .int x5)] [.int r3, .int ((Int8.ofInt 8).toInt32), .ref rf_o] s3 (by repeat (first | exact trivial | refine ⟨rfl, ?_⟩)) (by decide +kernel) ?_
      refine rf_R_call (pc := 140) (q := ([.ref rf_o, .int ((Int8.ofInt 8).toInt32), .int r3, .int x4, .int (Int32.ofInt 0)], [])) rp_26 rfl rfl (by decide) rp_14 rfl (Nat.le_of_ble_eq_true rfl) ⟨rfl, Nat.le_of_ble_eq_true rfl⟩ h (fun v s4 h => ?_)
      obtain ⟨r4, rfl, h⟩ := h
      refine rf_R_wv rp_26 (rf_bk am_t26 76 6) 143 [(0, .ref rf_o), (1, .int x1), (2, .int x2), (3, .int x3), (4, .int x4), (5, .int x5)] [.int r4] s4 (by repeat (first | exact trivial | refine ⟨rfl, ?_⟩)) (by decide +kernel) ?_
      refine rf_R_call (pc := 152) (q := ([.ref rf_o, .int ((Int8.ofInt 7).toInt32), .int x2, .int r4, .int (Int32.ofInt 0)], [])) rp_26 rfl rfl (by decide) rp_14 rfl (Nat.le_of_ble_eq_true rfl) ⟨rfl, Nat.le_of_ble_eq_true rfl⟩ h (fun v s5 h => ?_)
      obtain ⟨r5, rfl, h⟩ := h
      exact rf_R_ret (pc := 155) (v := some (.int r5)) rp_26 rfl rfl rfl ⟨_, rfl, h⟩
    · replace h := h.2 (Decidable.not_not.mp (of_decide_eq_false hb))
      refine rf_R_wv rp_26 (rf_bk am_t26 60 1) 117 [(0, .ref rf_o), (1, .int x1), (2, .int x2), (3, .int x3), (4, .int x4), (5, .int x5)] [] s2 (by repeat (first | exact trivial | refine ⟨rfl, ?_⟩)) (by decide +kernel) ?_
      exact rf_R_ret (pc := 118) (v := some (.int (Int32.ofInt (-1)))) rp_26 rfl rfl rfl ⟨_, rfl, h⟩
  · replace h := h.2 (of_decide_eq_false hb)
    refine rf_R_wv rp_26 (rf_bk am_t26 36 2) 67 [(0, .ref rf_o), (1, .int x1), (2, .int x2), (3, .int x3), (4, .int x4), (5, .int x5)] [] s (by repeat (first | exact trivial | refine ⟨rfl, ?_⟩)) (by decide +kernel) ?_
    refine rf_R_call (pc := 69) (q := ([.ref rf_o, .int x1], [])) rp_26 rfl rfl (by decide) rp_27 rfl (Nat.le_of_ble_eq_true rfl) ⟨rfl, Nat.le_of_ble_eq_true rfl⟩ h (fun v s6 h => ?_)
    obtain ⟨rfl, h⟩ := h
    refine rf_R_wv rp_26 (rf_bk am_t26 39 3) 72 [(0, .ref rf_o), (1, .int x1), (2, .int x2), (3, .int x3), (4, .int x4), (5, .int x5)] [] s6 (by repeat (first | exact trivial | refine ⟨rfl, ?_⟩)) (by decide +kernel) ?_
    refine rf_R_if (b := am_cnd .lt (s6.1 9) 0) (p := 81) (q := 79) (fun hb => ?_) (fun hb => ?_)
    · replace h := h.1 (of_decide_eq_true hb)
      refine rf_R_wv rp_26 (rf_bk am_t26 44 3) 81 [(0, .ref rf_o), (1, .int x1), (2, .int x2), (3, .int x3), (4, .int x4), (5, .int x5)] [] s6 (by repeat (first | exact trivial | refine ⟨rfl, ?_⟩)) (by decide +kernel) ?_
      refine rf_R_call (pc := 87) (q := ([.ref rf_o, .int ((Int8.ofInt 59).toInt32)], [])) rp_26 rfl rfl (by decide) rp_11 rfl (Nat.le_of_ble_eq_true rfl) ⟨rfl, Nat.le_of_ble_eq_true rfl⟩ h (fun v s7 h => ?_)
      obtain ⟨r7, rfl, h⟩ := h
      refine rf_R_wv rp_26 (rf_bk am_t26 48 3) 90 [(4, .int (x4 + Int32.ofInt 1)), (0, .ref rf_o), (1, .int x1), (2, .int x2), (3, .int x3), (5, .int x5)] [.int r7] s7 (by repeat (first | exact trivial | refine ⟨rfl, ?_⟩)) (by decide +kernel) ?_
      refine rf_R_if (b := am_cnd .eq r7 0) (p := 62) (q := 97) (fun hb => ?_) (fun hb => ?_)
      · replace h := h.1 (of_decide_eq_true hb)
        exact rf_R_le (l := [(0, .ref rf_o), (1, .int x1), (2, .int x2), (3, .int x3), (4, .int (x4 + Int32.ofInt 1)), (5, .int r7)]) rfl rfl (⟨rfl, rfl, rfl, rfl, rfl, rfl, trivial⟩) h
      · replace h := h.2 (of_decide_eq_false hb)
        refine rf_R_wv rp_26 (rf_bk am_t26 51 1) 97 [(5, .int r7), (4, .int (x4 + Int32.ofInt 1)), (0, .ref rf_o), (1, .int x1), (2, .int x2), (3, .int x3)] [] s7 (by repeat (first | exact trivial | refine ⟨rfl, ?_⟩)) (by decide +kernel) ?_
        refine rf_R_call (pc := 98) (q := ([.ref rf_o], [])) rp_26 rfl rfl (by decide) rp_9 rfl (Nat.le_of_ble_eq_true rfl) ⟨rfl, Nat.le_of_ble_eq_true rfl⟩ h (fun v s8 h => ?_)
        obtain ⟨rfl, h⟩ := h
        refine rf_R_wv rp_26 (rf_bk am_t26 53 1) 101 [(5, .int r7), (4, .int (x4 + Int32.ofInt 1)), (0, .ref rf_o), (1, .int x1), (2, .int x2), (3, .int x3)] [] s8 (by repeat (first | exact trivial | refine ⟨rfl, ?_⟩)) (by decide +kernel) ?_
        exact rf_R_le (l := [(0, .ref rf_o), (1, .int x1), (2, .int x2), (3, .int x3), (4, .int (x4 + Int32.ofInt 1)), (5, .int r7)]) rfl rfl (⟨rfl, rfl, rfl, rfl, rfl, rfl, trivial⟩) h
    · replace h := h.2 (of_decide_eq_false hb)
      refine rf_R_wv rp_26 (rf_bk am_t26 42 1) 79 [(0, .ref rf_o), (1, .int x1), (2, .int x2), (3, .int x3), (4, .int x4), (5, .int x5)] [] s6 (by repeat (first | exact trivial | refine ⟨rfl, ?_⟩)) (by decide +kernel) ?_
      exact rf_R_ret (pc := 80) (v := some (.int (Int32.ofInt (-1)))) rp_26 rfl rfl rfl ⟨_, rfl, h⟩
/-- caseExpression (I)I, from 30 on -/
def wr_caseExpression_30 (d : Nat) (x1 : Int32) (x2 : Int32) (y0 : Int32) (s : rf_S) (Q : Int32 → rf_S → Prop) : Prop := rf_I d 12 [(0, .ref rf_o), (1, .int y0)] s (fun r1 s1 => ((r1 = 0 → Q (Int32.ofInt (-1)) s1) ∧ (¬ (r1 = 0) → rf_I d 11 [(0, .ref rf_o), (1, .int ((Int8.ofInt 123).toInt32))] s1 (fun r2 s2 => rf_I d 12 [(0, .ref rf_o), (1, .int r2)] s2 (fun r3 s3 => ((¬ r3 = 0 → rf_R (d + 1) 26 (62, [(0, .ref rf_o), (1, .int x1), (2, .int x2), (3, .int (s3.1 18)), (4, .int (Int32.ofInt 0)), (5, .int (Int32.ofInt 1))], [], s3) (rf_qI Q)) ∧ (r3 = 0 → Q (Int32.ofInt (-1)) s3)))))))
set_option maxRecDepth 20000 in
theorem wr_caseExpression_30_ok {d : Nat} {x1 : Int32} {x2 : Int32} {y0 : Int32} {s : rf_S} {Q : Int32 → rf_S → Prop} (h : wr_caseExpression_30 d x1 x2 y0 s Q) : rf_R (d + 1) 26 (30, [(0, .ref rf_o), (1, .int x1), (2, .int x2)], [.int y0, .ref rf_o], s) (rf_qI Q) := by
  unfold wr_caseExpression_30 at h
  refine rf_R_call (pc := 30) (q := ([.ref rf_o, .int y0], [])) rp_26 rfl rfl (by decide) rp_12 rfl (Nat.le_of_ble_eq_true rfl) ⟨rfl, Nat.le_of_ble_eq_true rfl⟩ h (fun v s1 h => ?_)
  obtain ⟨r1, rfl, h⟩ := h
  refine rf_R_wv rp_26 (rf_bk am_t26 18 1) 33 [(0, .ref rf_o), (1, .int x1), (2, .int x2)] [.int r1] s1 (by repeat (first | exact trivial | refine ⟨rfl, ?_⟩)) (by decide +kernel) ?_
  refine rf_R_if (b := am_cnd .eq r1 0) (p := 49) (q := 36) (fun hb => ?_) (fun hb => ?_)
  · replace h := h.1 (of_decide_eq_true hb)
    refine rf_R_wv rp_26 (rf_bk am_t26 25 1) 49 [(0, .ref rf_o), (1, .int x1), (2, .int x2)] [] s1 (by repeat (first | exact trivial | refine ⟨rfl, ?_⟩)) (by decide +kernel) ?_
    exact rf_R_ret (pc := 50) (v := some (.int (Int32.ofInt (-1)))) rp_26 rfl rfl rfl ⟨_, rfl, h⟩
  · replace h := h.2 (of_decide_eq_false hb)
    refine rf_R_wv rp_26 (rf_bk am_t26 19 3) 36 [(0, .ref rf_o), (1, .int x1), (2, .int x2)] [] s1 (by repeat (first | exact trivial | refine ⟨rfl, ?_⟩)) (by decide +kernel) ?_
    refine rf_R_call (pc := 40) (q := ([.ref rf_o, .int ((Int8.ofInt 123).toInt32)], [.ref rf_o])) rp_26 rfl rfl (by decide) rp_11 rfl (Nat.le_of_ble_eq_true rfl) ⟨rfl, Nat.le_of_ble_eq_true rfl⟩ h (fun v s2 h => ?_)
    obtain ⟨r2, rfl, h⟩ := h
    refine rf_R_call (pc := 43) (q := ([.ref rf_o, .int r2], [])) rp_26 rfl rfl (by decide) rp_12 rfl (Nat.le_of_ble_eq_true rfl) ⟨rfl, Nat.le_of_ble_eq_true rfl⟩ h (fun v s3 h => ?_)
    obtain ⟨r3, rfl, h⟩ := h
    refine rf_R_wv rp_26 (rf_bk am_t26 24 1) 46 [(0, .ref rf_o), (1, .int x1), (2, .int x2)] [.int r3] s3 (by repeat (first | exact trivial | refine ⟨rfl, ?_⟩)) (by decide +kernel) ?_
    refine rf_R_if (b := am_cnd .ne r3 0) (p := 51) (q := 49) (fun hb => ?_) (fun hb => ?_)
    · replace h := h.1 (of_decide_eq_true hb)
      refine rf_R_wv rp_26 (rf_bk am_t26 27 7) 51 [(0, .ref rf_o), (1, .int x1), (2, .int x2)] [] s3 (by repeat (first | exact trivial | refine ⟨rfl, ?_⟩)) (by decide +kernel) ?_
      exact rf_R_le (l := [(0, .ref rf_o), (1, .int x1), (2, .int x2), (3, .int (s3.1 18)), (4, .int (Int32.ofInt 0)), (5, .int (Int32.ofInt 1))]) rfl rfl (⟨rfl, rfl, rfl, rfl, rfl, rfl, trivial⟩) h
    · replace h := h.2 (Decidable.not_not.mp (of_decide_eq_false hb))
      refine rf_R_wv rp_26 (rf_bk am_t26 25 1) 49 [(0, .ref rf_o), (1, .int x1), (2, .int x2)] [] s3 (by repeat (first | exact trivial | refine ⟨rfl, ?_⟩)) (by decide +kernel) ?_
      exact rf_R_ret (pc := 50) (v := some (.int (Int32.ofInt (-1)))) rp_26 rfl rfl rfl ⟨_, rfl, h⟩
/-- caseExpression (I)I, from 0 on -/
def wr_caseExpression (d : Nat) (x1 : Int32) (s : rf_S) (Q : Int32 → rf_S → Prop) : Prop := rf_I d 13 [(0, .ref rf_o)] s (fun r1 s1 => ((¬ r1 = 0 → rf_I d 22 [(0, .ref rf_o), (1, .int x1)] s1 (fun r2 s2 => ((¬ (s2.1 5) = ((Int8.ofInt 8).toInt32) → wr_caseExpression_30 d x1 r2 (Int32.ofInt 0) s2 Q) ∧ ((s2.1 5) = ((Int8.ofInt 8).toInt32) → wr_caseExpression_30 d x1 r2 (Int32.ofInt 1) s2 Q)))) ∧ (r1 = 0 → Q (Int32.ofInt (-1)) s1)))
set_option maxRecDepth 20000 in
theorem wr_caseExpression_ok {d : Nat} {x1 : Int32} {s : rf_S} {Q : Int32 → rf_S → Prop} (h : wr_caseExpression d x1 s Q) : rf_I (d + 1) 26 [(0, .ref rf_o), (1, .int x1)] s Q := by
  unfold wr_caseExpression at h
  unfold rf_I
  refine rf_R_wv rp_26 (rf_bk am_t26 0 1) 0 [(0, .ref rf_o), (1, .int x1)] [] s (by repeat (first | exact trivial | refine ⟨rfl, ?_⟩)) (by decide +kernel) ?_
  refine rf_R_call (pc := 1) (q := ([.ref rf_o], [])) rp_26 rfl rfl (by decide) rp_13 rfl (Nat.le_of_ble_eq_true rfl) ⟨rfl, Nat.le_of_ble_eq_true rfl⟩ h (fun v s1 h => ?_)
  obtain ⟨r1, rfl, h⟩ := h
  refine rf_R_wv rp_26 (rf_bk am_t26 2 1) 4 [(0, .ref rf_o), (1, .int x1)] [.int r1] s1 (by repeat (first | exact trivial | refine ⟨rfl, ?_⟩)) (by decide +kernel) ?_
  refine rf_R_if (b := am_cnd .ne r1 0) (p := 9) (q := 7) (fun hb => ?_) (fun hb => ?_)
  · replace h := h.1 (of_decide_eq_true hb)
    refine rf_R_wv rp_26 (rf_bk am_t26 5 2) 9 [(0, .ref rf_o), (1, .int x1)] [] s1 (by repeat (first | exact trivial | refine ⟨rfl, ?_⟩)) (by decide +kernel) ?_
    refine rf_R_call (pc := 11) (q := ([.ref rf_o, .int x1], [])) rp_26 rfl rfl (by decide) rp_22 rfl (Nat.le_of_ble_eq_true rfl) ⟨rfl, Nat.le_of_ble_eq_true rfl⟩ h (fun v s2 h => ?_)
    obtain ⟨r2, rfl, h⟩ := h
    refine rf_R_wv rp_26 (rf_bk am_t26 8 6) 14 [(0, .ref rf_o), (1, .int x1)] [.int r2] s2 (by repeat (first | exact trivial | refine ⟨rfl, ?_⟩)) (by decide +kernel) ?_
    refine rf_R_if (b := am_cnd .ne (s2.1 5) ((Int8.ofInt 8).toInt32)) (p := 29) (q := 25) (fun hb => ?_) (fun hb => ?_)
    · replace h := h.1 (of_decide_eq_true hb)
      refine rf_R_wv rp_26 (rf_bk am_t26 16 1) 29 [(2, .int r2), (0, .ref rf_o), (1, .int x1)] [.ref rf_o] s2 (by repeat (first | exact trivial | refine ⟨rfl, ?_⟩)) (by decide +kernel) ?_
      exact rf_R_le (l := [(0, .ref rf_o), (1, .int x1), (2, .int r2)]) rfl rfl (⟨rfl, rfl, rfl, trivial⟩) (wr_caseExpression_30_ok h)
    · replace h := h.2 (Decidable.not_not.mp (of_decide_eq_false hb))
      refine rf_R_wv rp_26 (rf_bk am_t26 14 2) 25 [(2, .int r2), (0, .ref rf_o), (1, .int x1)] [.ref rf_o] s2 (by repeat (first | exact trivial | refine ⟨rfl, ?_⟩)) (by decide +kernel) ?_
      exact rf_R_le (l := [(0, .ref rf_o), (1, .int x1), (2, .int r2)]) rfl rfl (⟨rfl, rfl, rfl, trivial⟩) (wr_caseExpression_30_ok h)
  · replace h := h.2 (Decidable.not_not.mp (of_decide_eq_false hb))
    refine rf_R_wv rp_26 (rf_bk am_t26 3 1) 7 [(0, .ref rf_o), (1, .int x1)] [] s1 (by repeat (first | exact trivial | refine ⟨rfl, ?_⟩)) (by decide +kernel) ?_
    exact rf_R_ret (pc := 8) (v := some (.int (Int32.ofInt (-1)))) rp_26 rfl rfl rfl ⟨_, rfl, h⟩
/-- alternative (I)V, from 150 on -/
def wr_alternative_150 (d : Nat) (x3 : Int32) (x4 : Int32) (x5 : Int32) (x6 : Int32) (y0 : Int32) (s : rf_S) (Q : rf_S → Prop) : Prop := rf_V d 15 [(0, .ref rf_o), (1, .int x3)] s (fun s1 => rf_V d 15 [(0, .ref rf_o), (1, .int x4)] s1 (fun s2 => rf_V d 15 [(0, .ref rf_o), (1, .int x6)] s2 (fun s3 => rf_V d 15 [(0, .ref rf_o), (1, .int x5)] s3 (fun s4 => rf_V d 15 [(0, .ref rf_o), (1, .int y0)] s4 (fun s5 => Q s5)))))
set_option maxRecDepth 20000 in
theorem wr_alternative_150_ok {d : Nat} {x3 : Int32} {x4 : Int32} {x5 : Int32} {x6 : Int32} {y0 : Int32} {s : rf_S} {Q : rf_S → Prop} (h : wr_alternative_150 d x3 x4 x5 x6 y0 s Q) : rf_R (d + 1) 27 (150, [(0, .ref rf_o), (3, .int x3), (4, .int x4), (5, .int x5), (6, .int x6)], [.int y0], s) (rf_qV Q) := by
  unfold wr_alternative_150 at h
  refine rf_R_wv rp_27 (rf_bk am_t27 75 3) 150 [(0, .ref rf_o), (3, .int x3), (4, .int x4), (5, .int x5), (6, .int x6)] [.int y0] s (by repeat (first | exact trivial | refine ⟨rfl, ?_⟩)) (by decide +kernel) ?_
  refine rf_R_call (pc := 154) (q := ([.ref rf_o, .int x3], [])) rp_27 rfl rfl (by decide) rp_15 rfl (Nat.le_of_ble_eq_true rfl) ⟨rfl, Nat.le_of_ble_eq_true rfl⟩ h (fun v s1 h => ?_)
  obtain ⟨rfl, h⟩ := h
  refine rf_R_wv rp_27 (rf_bk am_t27 79 2) 157 [(7, .int y0), (0, .ref rf_o), (3, .int x3), (4, .int x4), (5, .int x5), (6, .int x6)] [] s1 (by repeat (first | exact trivial | refine ⟨rfl, ?_⟩)) (by decide +kernel) ?_
  refine rf_R_call (pc := 160) (q := ([.ref rf_o, .int x4], [])) rp_27 rfl rfl (by decide) rp_15 rfl (Nat.le_of_ble_eq_true rfl) ⟨rfl, Nat.le_of_ble_eq_true rfl⟩ h (fun v s2 h => ?_)
  obtain ⟨rfl, h⟩ := h
  refine rf_R_wv rp_27 (rf_bk am_t27 82 2) 163 [(7, .int y0), (0, .ref rf_o), (3, .int x3), (4, .int x4), (5, .int x5), (6, .int x6)] [] s2 (by repeat (first | exact trivial | refine ⟨rfl, ?_⟩)) (by decide +kernel) ?_
  refine rf_R_call (pc := 166) (q := ([.ref rf_o, .int x6], [])) rp_27 rfl rfl (by decide) rp_15 rfl (Nat.le_of_ble_eq_true rfl) ⟨rfl, Nat.le_of_ble_eq_true rfl⟩ h (fun v s3 h => ?_)
  obtain ⟨rfl, h⟩ := h
  refine rf_R_wv rp_27 (rf_bk am_t27 85 2) 169 [(7, .int y0), (0, .ref rf_o), (3, .int x3), (4, .int x4), (5, .int x5), (6, .int x6)] [] s3 (by repeat (first | exact trivial | refine ⟨rfl, ?_⟩)) (by decide +kernel) ?_
  refine rf_R_call (pc := 172) (q := ([.ref rf_o, .int x5], [])) rp_27 rfl rfl (by decide) rp_15 rfl (Nat.le_of_ble_eq_true rfl) ⟨rfl, Nat.le_of_ble_eq_true rfl⟩ h (fun v s4 h => ?_)
  obtain ⟨rfl, h⟩ := h
  refine rf_R_wv rp_27 (rf_bk am_t27 88 2) 175 [(7, .int y0), (0, .ref rf_o), (3, .int x3), (4, .int x4), (5, .int x5), (6, .int x6)] [] s4 (by repeat (first | exact trivial | refine ⟨rfl, ?_⟩)) (by decide +kernel) ?_
  refine rf_R_call (pc := 178) (q := ([.ref rf_o, .int y0], [])) rp_27 rfl rfl (by decide) rp_15 rfl (Nat.le_of_ble_eq_true rfl) ⟨rfl, Nat.le_of_ble_eq_true rfl⟩ h (fun v s5 h => ?_)
  obtain ⟨rfl, h⟩ := h
  exact rf_R_ret (pc := 181) rp_27 rfl rfl rfl ⟨rfl, h⟩
/-- alternative (I)V, from 135 on -/
def wr_alternative_135 (d : Nat) (x2 : Int32) (x3 : Int32) (x4 : Int32) (x5 : Int32) (x6 : Int32) (y0 : Int32) (s : rf_S) (Q : rf_S → Prop) : Prop := rf_I d 12 [(0, .ref rf_o), (1, .int y0)] s (fun r1 s1 => ((r1 = 0 → wr_alternative_150 d x3 x4 x5 x6 (Int32.ofInt (-1)) s1 Q) ∧ (¬ (r1 = 0) → rf_I d 22 [(0, .ref rf_o), (1, .int x2)] s1 (fun r2 s2 => wr_alternative_150 d x3 x4 x5 x6 r2 s2 Q))))
set_option maxRecDepth 20000 in
theorem wr_alternative_135_ok {d : Nat} {x2 : Int32} {x3 : Int32} {x4 : Int32} {x5 : Int32} {x6 : Int32} {y0 : Int32} {s : rf_S} {Q : rf_S → Prop} (h : wr_alternative_135 d x2 x3 x4 x5 x6 y0 s Q) : rf_R (d + 1) 27 (135, [(0, .ref rf_o), (2, .int x2), (3, .int x3), (4, .int x4), (5, .int x5), (6, .int x6)], [.int y0, .ref rf_o], s) (rf_qV Q) := by
  unfold wr_alternative_135 at h
  refine rf_R_call (pc := 135) (q := ([.ref rf_o, .int y0], [])) rp_27 rfl rfl (by decide) rp_12 rfl (Nat.le_of_ble_eq_true rfl) ⟨rfl, Nat.le_of_ble_eq_true rfl⟩ h (fun v s1 h => ?_)
  obtain ⟨r1, rfl, h⟩ := h
  refine rf_R_wv rp_27 (rf_bk am_t27 69 1) 138 [(0, .ref rf_o), (2, .int x2), (3, .int x3), (4, .int x4), (5, .int x5), (6, .int x6)] [.int r1] s1 (by repeat (first | exact trivial | refine ⟨rfl, ?_⟩)) (by decide +kernel) ?_
  refine rf_R_if (b := am_cnd .eq r1 0) (p := 149) (q := 141) (fun hb => ?_) (fun hb => ?_)
  · replace h := h.1 (of_decide_eq_true hb)
    refine rf_R_wv rp_27 (rf_bk am_t27 74 1) 149 [(0, .ref rf_o), (2, .int x2), (3, .int x3), (4, .int x4), (5, .int x5), (6, .int x6)] [] s1 (by repeat (first | exact trivial | refine ⟨rfl, ?_⟩)) (by decide +kernel) ?_
    exact rf_R_le (l := [(0, .ref rf_o), (3, .int x3), (4, .int x4), (5, .int x5), (6, .int x6)]) rfl rfl (⟨rfl, rfl, rfl, rfl, rfl, trivial⟩) (wr_alternative_150_ok h)
  · replace h := h.2 (of_decide_eq_false hb)
    refine rf_R_wv rp_27 (rf_bk am_t27 70 2) 141 [(0, .ref rf_o), (2, .int x2), (3, .int x3), (4, .int x4), (5, .int x5), (6, .int x6)] [] s1 (by repeat (first | exact trivial | refine ⟨rfl, ?_⟩)) (by decide +kernel) ?_
    refine rf_R_call (pc := 143) (q := ([.ref rf_o, .int x2], [])) rp_27 rfl rfl (by decide) rp_22 rfl (Nat.le_of_ble_eq_true rfl) ⟨rfl, Nat.le_of_ble_eq_true rfl⟩ h (fun v s2 h => ?_)
    obtain ⟨r2, rfl, h⟩ := h
    refine rf_R_wv rp_27 (rf_bk am_t27 73 1) 146 [(0, .ref rf_o), (2, .int x2), (3, .int x3), (4, .int x4), (5, .int x5), (6, .int x6)] [.int r2] s2 (by repeat (first | exact trivial | refine ⟨rfl, ?_⟩)) (by decide +kernel) ?_
    exact rf_R_le (l := [(0, .ref rf_o), (3, .int x3), (4, .int x4), (5, .int x5), (6, .int x6)]) rfl rfl (⟨rfl, rfl, rfl, rfl, rfl, trivial⟩) (wr_alternative_150_ok h)
/-- alternative (I)V, from 111 on -/
def wr_alternative_111 (d : Nat) (x2 : Int32) (x3 : Int32) (x4 : Int32) (x5 : Int32) (s : rf_S) (Q : rf_S → Prop) : Prop := ((¬ (s.1 5) = ((Int8.ofInt 9).toInt32) → wr_alternative_135 d x2 x3 x4 x5 ((s.1 26) - x5) (Int32.ofInt 0) s Q) ∧ ((s.1 5) = ((Int8.ofInt 9).toInt32) → wr_alternative_135 d x2 x3 x4 x5 ((s.1 26) - x5) (Int32.ofInt 1) s Q))
set_option maxRecDepth 20000 in
theorem wr_alternative_111_ok {d : Nat} {x2 : Int32} {x3 : Int32} {x4 : Int32} {x5 : Int32} {s : rf_S} {Q : rf_S → Prop} (h : wr_alternative_111 d x2 x3 x4 x5 s Q) : rf_R (d + 1) 27 (111, [(0, .ref rf_o), (2, .int x2), (3, .int x3), (4, .int x4), (5, .int x5)], [], s) (rf_qV Q) := by
  unfold wr_alternative_111 at h
  refine rf_R_wv rp_27 (rf_bk am_t27 55 10) 111 [(0, .ref rf_o), (2, .int x2), (3, .int x3), (4, .int x4), (5, .int x5)] [] s (by repeat (first | exact trivial | refine ⟨rfl, ?_⟩)) (by decide +kernel) ?_
  refine rf_R_if (b := am_cnd .ne (s.1 5) ((Int8.ofInt 9).toInt32)) (p := 134) (q := 130) (fun hb => ?_) (fun hb => ?_)
  · replace h := h.1 (of_decide_eq_true hb)
    refine rf_R_wv rp_27 (rf_bk am_t27 67 1) 134 [(6, .int ((s.1 26) - x5)), (0, .ref rf_o), (2, .int x2), (3, .int x3), (4, .int x4), (5, .int x5)] [.ref rf_o] s (by repeat (first | exact trivial | refine ⟨rfl, ?_⟩)) (by decide +kernel) ?_
    exact rf_R_le (l := [(0, .ref rf_o), (2, .int x2), (3, .int x3), (4, .int x4), (5, .int x5), (6, .int ((s.1 26) - x5))]) rfl rfl (⟨rfl, rfl, rfl, rfl, rfl, rfl, trivial⟩) (wr_alternative_135_ok h)
  · replace h := h.2 (Decidable.not_not.mp (of_decide_eq_false hb))
    refine rf_R_wv rp_27 (rf_bk am_t27 65 2) 130 [(6, .int ((s.1 26) - x5)), (0, .ref rf_o), (2, .int x2), (3, .int x3), (4, .int x4), (5, .int x5)] [.ref rf_o] s (by repeat (first | exact trivial | refine ⟨rfl, ?_⟩)) (by decide +kernel) ?_
    exact rf_R_le (l := [(0, .ref rf_o), (2, .int x2), (3, .int x3), (4, .int x4), (5, .int x5), (6, .int ((s.1 26) - x5))]) rfl rfl (⟨rfl, rfl, rfl, rfl, rfl, rfl, trivial⟩) (wr_alternative_135_ok h)
/-- alternative (I)V, from 104 on -/
def wr_alternative_104 (d : Nat) (x2 : Int32) (x3 : Int32) (x5 : Int32) (s : rf_S) (Q : rf_S → Prop) : Prop := rf_I d 20 [(0, .ref rf_o), (1, .int x2)] s (fun r1 s1 => wr_alternative_111 d x2 x3 r1 x5 s1 Q)
set_option maxRecDepth 20000 in
theorem wr_alternative_104_ok {d : Nat} {x2 : Int32} {x3 : Int32} {x5 : Int32} {s : rf_S} {Q : rf_S → Prop} (h : wr_alternative_104 d x2 x3 x5 s Q) : rf_R (d + 1) 27 (104, [(0, .ref rf_o), (2, .int x2), (3, .int x3), (5, .int x5)], [], s) (rf_qV Q) := by
  unfold wr_alternative_104 at h
  refine rf_R_wv rp_27 (rf_bk am_t27 51 2) 104 [(0, .ref rf_o), (2, .int x2), (3, .int x3), (5, .int x5)] [] s (by repeat (first | exact trivial | refine ⟨rfl, ?_⟩)) (by decide +kernel) ?_
  refine rf_R_call (pc := 106) (q := ([.ref rf_o, .int x2], [])) rp_27 rfl rfl (by decide) rp_20 rfl (Nat.le_of_ble_eq_true rfl) ⟨rfl, Nat.le_of_ble_eq_true rfl⟩ h (fun v s1 h => ?_)
  obtain ⟨r1, rfl, h⟩ := h
  refine rf_R_wv rp_27 (rf_bk am_t27 54 1) 109 [(0, .ref rf_o), (2, .int x2), (3, .int x3), (5, .int x5)] [.int r1] s1 (by repeat (first | exact trivial | refine ⟨rfl, ?_⟩)) (by decide +kernel) ?_
  exact rf_R_le (l := [(0, .ref rf_o), (2, .int x2), (3, .int x3), (4, .int r1), (5, .int x5)]) rfl rfl (⟨rfl, rfl, rfl, rfl, rfl, trivial⟩) (wr_alternative_111_ok h)
/-- alternative (I)V, from 82 on -/
def wr_alternative_82 (d : Nat) (x2 : Int32) (x3 : Int32) (x4 : Int32) (x5 : Int32) (s : rf_S) (Q : rf_S → Prop) : Prop := ((0 ≤ (s.1 9) → wr_alternative_104 d x2 x3 x5 s Q) ∧ (¬ (0 ≤ (s.1 9)) → ((¬ (s.1 5) = (Int32.ofInt 4) → wr_alternative_104 d x2 x3 x5 s Q) ∧ ((s.1 5) = (Int32.ofInt 4) → rf_V d 9 [(0, .ref rf_o)] s (fun s1 => wr_alternative_111 d x2 x3 x4 x5 s1 Q)))))
set_option maxRecDepth 20000 in
theorem wr_alternative_82_ok {d : Nat} {x2 : Int32} {x3 : Int32} {x4 : Int32} {x5 : Int32} {s : rf_S} {Q : rf_S → Prop} (h : wr_alternative_82 d x2 x3 x4 x5 s Q) : rf_R (d + 1) 27 (82, [(0, .ref rf_o), (2, .int x2), (3, .int x3), (4, .int x4), (5, .int x5)], [], s) (rf_qV Q) := by
  unfold wr_alternative_82 at h
  refine rf_R_wv rp_27 (rf_bk am_t27 41 3) 82 [(0, .ref rf_o), (2, .int x2), (3, .int x3), (4, .int x4), (5, .int x5)] [] s (by repeat (first | exact trivial | refine ⟨rfl, ?_⟩)) (by decide +kernel) ?_
  refine rf_R_if (b := am_cnd .ge (s.1 9) 0) (p := 104) (q := 89) (fun hb => ?_) (fun hb => ?_)
  · replace h := h.1 (of_decide_eq_true hb)
    exact rf_R_le (l := [(0, .ref rf_o), (2, .int x2), (3, .int x3), (5, .int x5)]) rfl rfl (⟨rfl, rfl, rfl, rfl, trivial⟩) (wr_alternative_104_ok h)
  · replace h := h.2 (of_decide_eq_false hb)
    refine rf_R_wv rp_27 (rf_bk am_t27 44 4) 89 [(0, .ref rf_o), (2, .int x2), (3, .int x3), (4, .int x4), (5, .int x5)] [] s (by repeat (first | exact trivial | refine ⟨rfl, ?_⟩)) (by decide +kernel) ?_
    refine rf_R_if (b := am_cnd .ne (s.1 5) (Int32.ofInt 4)) (p := 104) (q := 97) (fun hb => ?_) (fun hb => ?_)
    · replace h := h.1 (of_decide_eq_true hb)
      exact rf_R_le (l := [(0, .ref rf_o), (2, .int x2), (3, .int x3), (5, .int x5)]) rfl rfl (⟨rfl, rfl, rfl, rfl, trivial⟩) (wr_alternative_104_ok h)
    · replace h := h.2 (Decidable.not_not.mp (of_decide_eq_false hb))
      refine rf_R_wv rp_27 (rf_bk am_t27 48 1) 97 [(0, .ref rf_o), (2, .int x2), (3, .int x3), (4, .int x4), (5, .int x5)] [] s (by repeat (first | exact trivial | refine ⟨rfl, ?_⟩)) (by decide +kernel) ?_
      refine rf_R_call (pc := 98) (q := ([.ref rf_o], [])) rp_27 rfl rfl (by decide) rp_9 rfl (Nat.le_of_ble_eq_true rfl) ⟨rfl, Nat.le_of_ble_eq_true rfl⟩ h (fun v s1 h => ?_)
      obtain ⟨rfl, h⟩ := h
      refine rf_R_wv rp_27 (rf_bk am_t27 50 1) 101 [(0, .ref rf_o), (2, .int x2), (3, .int x3), (4, .int x4), (5, .int x5)] [] s1 (by repeat (first | exact trivial | refine ⟨rfl, ?_⟩)) (by decide +kernel) ?_
      exact rf_R_le (l := [(0, .ref rf_o), (2, .int x2), (3, .int x3), (4, .int x4), (5, .int x5)]) rfl rfl (⟨rfl, rfl, rfl, rfl, rfl, trivial⟩) (wr_alternative_111_ok h)
/-- alternative (I)V, from 77 on -/
def wr_alternative_77 (d : Nat) (x2 : Int32) (x3 : Int32) (x5 : Int32) (y0 : Int32) (s : rf_S) (Q : rf_S → Prop) : Prop := rf_R (d + 1) 27 (48, [(0, .ref rf_o), (2, .int x2), (3, .int x3), (4, .int y0), (5, .int x5)], [], s) (rf_qV Q)
set_option maxRecDepth 20000 in
theorem wr_alternative_77_ok {d : Nat} {x2 : Int32} {x3 : Int32} {x5 : Int32} {y0 : Int32} {s : rf_S} {Q : rf_S → Prop} (h : wr_alternative_77 d x2 x3 x5 y0 s Q) : rf_R (d + 1) 27 (77, [(0, .ref rf_o), (2, .int x2), (3, .int x3), (5, .int x5)], [.int y0], s) (rf_qV Q) := by
  unfold wr_alternative_77 at h
  refine rf_R_wv rp_27 (rf_bk am_t27 39 2) 77 [(0, .ref rf_o), (2, .int x2), (3, .int x3), (5, .int x5)] [.int y0] s (by repeat (first | exact trivial | refine ⟨rfl, ?_⟩)) (by decide +kernel) ?_
  exact rf_R_le (l := [(0, .ref rf_o), (2, .int x2), (3, .int x3), (4, .int y0), (5, .int x5)]) rfl rfl (⟨rfl, rfl, rfl, rfl, rfl, trivial⟩) h
/-- alternative (I)V, from 48 on -/
def wr_alternative_48 (d : Nat) (x2 : Int32) (x3 : Int32) (x4 : Int32) (x5 : Int32) (s : rf_S) (Q : rf_S → Prop) : Prop := ((¬ (s.1 5) = (Int32.ofInt 2) → wr_alternative_111 d x2 x3 x4 x5 s Q) ∧ ((s.1 5) = (Int32.ofInt 2) → ((0 ≤ (s.1 9) → wr_alternative_111 d x2 x3 x4 x5 s Q) ∧ (¬ (0 ≤ (s.1 9)) → rf_I d 20 [(0, .ref rf_o), (1, .int x2)] s (fun r1 s1 => ((0 ≤ r1 → wr_alternative_77 d x2 x3 x5 x4 s1 Q) ∧ (¬ (0 ≤ r1) → wr_alternative_77 d x2 x3 x5 (Int32.ofInt (-1)) s1 Q)))))))
set_option maxRecDepth 20000 in
theorem wr_alternative_48_ok {d : Nat} {x2 : Int32} {x3 : Int32} {x4 : Int32} {x5 : Int32} {s : rf_S} {Q : rf_S → Prop} (h : wr_alternative_48 d x2 x3 x4 x5 s Q) : rf_R (d + 1) 27 (48, [(0, .ref rf_o), (2, .int x2), (3, .int x3), (4, .int x4), (5, .int x5)], [], s) (rf_qV Q) := by
  unfold wr_alternative_48 at h
  refine rf_R_wv rp_27 (rf_bk am_t27 25 4) 48 [(0, .ref rf_o), (2, .int x2), (3, .int x3), (4, .int x4), (5, .int x5)] [] s (by repeat (first | exact trivial | refine ⟨rfl, ?_⟩)) (by decide +kernel) ?_
  refine rf_R_if (b := am_cnd .ne (s.1 5) (Int32.ofInt 2)) (p := 111) (q := 56) (fun hb => ?_) (fun hb => ?_)
  · replace h := h.1 (of_decide_eq_true hb)
    exact rf_R_le (l := [(0, .ref rf_o), (2, .int x2), (3, .int x3), (4, .int x4), (5, .int x5)]) rfl rfl (⟨rfl, rfl, rfl, rfl, rfl, trivial⟩) (wr_alternative_111_ok h)
  · replace h := h.2 (Decidable.not_not.mp (of_decide_eq_false hb))
    refine rf_R_wv rp_27 (rf_bk am_t27 29 3) 56 [(0, .ref rf_o), (2, .int x2), (3, .int x3), (4, .int x4), (5, .int x5)] [] s (by repeat (first | exact trivial | refine ⟨rfl, ?_⟩)) (by decide +kernel) ?_
    refine rf_R_if (b := am_cnd .ge (s.1 9) 0) (p := 111) (q := 63) (fun hb => ?_) (fun hb => ?_)
    · replace h := h.1 (of_decide_eq_true hb)
      exact rf_R_le (l := [(0, .ref rf_o), (2, .int x2), (3, .int x3), (4, .int x4), (5, .int x5)]) rfl rfl (⟨rfl, rfl, rfl, rfl, rfl, trivial⟩) (wr_alternative_111_ok h)
    · replace h := h.2 (of_decide_eq_false hb)
      refine rf_R_wv rp_27 (rf_bk am_t27 32 2) 63 [(0, .ref rf_o), (2, .int x2), (3, .int x3), (4, .int x4), (5, .int x5)] [] s (by repeat (first | exact trivial | refine ⟨rfl, ?_⟩)) (by decide +kernel) ?_
      refine rf_R_call (pc := 65) (q := ([.ref rf_o, .int x2], [])) rp_27 rfl rfl (by decide) rp_20 rfl (Nat.le_of_ble_eq_true rfl) ⟨rfl, Nat.le_of_ble_eq_true rfl⟩ h (fun v s1 h => ?_)
      obtain ⟨r1, rfl, h⟩ := h
      refine rf_R_wv rp_27 (rf_bk am_t27 35 1) 68 [(0, .ref rf_o), (2, .int x2), (3, .int x3), (4, .int x4), (5, .int x5)] [.int r1] s1 (by repeat (first | exact trivial | refine ⟨rfl, ?_⟩)) (by decide +kernel) ?_
      refine rf_R_if (b := am_cnd .ge r1 0) (p := 75) (q := 71) (fun hb => ?_) (fun hb => ?_)
      · replace h := h.1 (of_decide_eq_true hb)
        refine rf_R_wv rp_27 (rf_bk am_t27 38 1) 75 [(0, .ref rf_o), (2, .int x2), (3, .int x3), (4, .int x4), (5, .int x5)] [] s1 (by repeat (first | exact trivial | refine ⟨rfl, ?_⟩)) (by decide +kernel) ?_
        exact rf_R_le (l := [(0, .ref rf_o), (2, .int x2), (3, .int x3), (5, .int x5)]) rfl rfl (⟨rfl, rfl, rfl, rfl, trivial⟩) (wr_alternative_77_ok h)
      · replace h := h.2 (of_decide_eq_false hb)
        refine rf_R_wv rp_27 (rf_bk am_t27 36 2) 71 [(0, .ref rf_o), (2, .int x2), (3, .int x3), (4, .int x4), (5, .int x5)] [] s1 (by repeat (first | exact trivial | refine ⟨rfl, ?_⟩)) (by decide +kernel) ?_
        exact rf_R_le (l := [(0, .ref rf_o), (2, .int x2), (3, .int x3), (5, .int x5)]) rfl rfl (⟨rfl, rfl, rfl, rfl, trivial⟩) (wr_alternative_77_ok h)
/-- alternative (I)V, from 0 on -/
def wr_alternative (d : Nat) (x1 : Int32) (s : rf_S) (Q : rf_S → Prop) : Prop := rf_I d 18 [(0, .ref rf_o), (1, .int x1)] s (fun r1 s1 => ((0 ≤ (s1.1 9) → wr_alternative_82 d r1 (s1.1 5) (s1.1 8) (s1.1 26) s1 Q) ∧ (¬ (0 ≤ (s1.1 9)) → ((¬ (s1.1 5) = (Int32.ofInt 3) → wr_alternative_82 d r1 (s1.1 5) (s1.1 8) (s1.1 26) s1 Q) ∧ ((s1.1 5) = (Int32.ofInt 3) → rf_I d 21 [(0, .ref rf_o)] s1 (fun r2 s2 => rf_V d 9 [(0, .ref rf_o)] s2 (fun s3 => rf_R (d + 1) 27 (48, [(0, .ref rf_o), (2, .int r1), (3, .int (s1.1 5)), (4, .int r2), (5, .int (s1.1 26))], [], s3) (rf_qV Q))))))))
set_option maxRecDepth 20000 in
theorem wr_alternative_ok {d : Nat} {x1 : Int32} {s : rf_S} {Q : rf_S → Prop} (h : wr_alternative d x1 s Q) : rf_V (d + 1) 27 [(0, .ref rf_o), (1, .int x1)] s Q := by
  unfold wr_alternative at h
  unfold rf_V
  refine rf_R_wv rp_27 (rf_bk am_t27 0 2) 0 [(0, .ref rf_o), (1, .int x1)] [] s (by repeat (first | exact trivial | refine ⟨rfl, ?_⟩)) (by decide +kernel) ?_
  refine rf_R_call (pc := 2) (q := ([.ref rf_o, .int x1], [])) rp_27 rfl rfl (by decide) rp_18 rfl (Nat.le_of_ble_eq_true rfl) ⟨rfl, Nat.le_of_ble_eq_true rfl⟩ h (fun v s1 h => ?_)
  obtain ⟨r1, rfl, h⟩ := h
  refine rf_R_wv rp_27 (rf_bk am_t27 3 13) 5 [(0, .ref rf_o), (1, .int x1)] [.int r1] s1 (by repeat (first | exact trivial | refine ⟨rfl, ?_⟩)) (by decide +kernel) ?_
  refine rf_R_if (b := am_cnd .ge (s1.1 9) 0) (p := 82) (q := 30) (fun hb => ?_) (fun hb => ?_)
  · replace h := h.1 (of_decide_eq_true hb)
    exact rf_R_le (l := [(0, .ref rf_o), (2, .int r1), (3, .int (s1.1 5)), (4, .int (s1.1 8)), (5, .int (s1.1 26))]) rfl rfl (⟨rfl, rfl, rfl, rfl, rfl, trivial⟩) (wr_alternative_82_ok h)
  · replace h := h.2 (of_decide_eq_false hb)
    refine rf_R_wv rp_27 (rf_bk am_t27 16 4) 30 [(5, .int (s1.1 26)), (4, .int (s1.1 8)), (3, .int (s1.1 5)), (2, .int r1), (0, .ref rf_o), (1, .int x1)] [] s1 (by repeat (first | exact trivial | refine ⟨rfl, ?_⟩)) (by decide +kernel) ?_
    refine rf_R_if (b := am_cnd .ne (s1.1 5) (Int32.ofInt 3)) (p := 82) (q := 38) (fun hb => ?_) (fun hb => ?_)
    · replace h := h.1 (of_decide_eq_true hb)
      exact rf_R_le (l := [(0, .ref rf_o), (2, .int r1), (3, .int (s1.1 5)), (4, .int (s1.1 8)), (5, .int (s1.1 26))]) rfl rfl (⟨rfl, rfl, rfl, rfl, rfl, trivial⟩) (wr_alternative_82_ok h)
    · replace h := h.2 (Decidable.not_not.mp (of_decide_eq_false hb))
      refine rf_R_wv rp_27 (rf_bk am_t27 20 1) 38 [(5, .int (s1.1 26)), (4, .int (s1.1 8)), (3, .int (s1.1 5)), (2, .int r1), (0, .ref rf_o), (1, .int x1)] [] s1 (by repeat (first | exact trivial | refine ⟨rfl, ?_⟩)) (by decide +kernel) ?_
      refine rf_R_call (pc := 39) (q := ([.ref rf_o], [])) rp_27 rfl rfl (by decide) rp_21 rfl (Nat.le_of_ble_eq_true rfl) ⟨rfl, Nat.le_of_ble_eq_true rfl⟩ h (fun v s2 h => ?_)
      obtain ⟨r2, rfl, h⟩ := h
      refine rf_R_wv rp_27 (rf_bk am_t27 22 2) 42 [(5, .int (s1.1 26)), (4, .int (s1.1 8)), (3, .int (s1.1 5)), (2, .int r1), (0, .ref rf_o), (1, .int x1)] [.int r2] s2 (by repeat (first | exact trivial | refine ⟨rfl, ?_⟩)) (by decide +kernel) ?_
      refine rf_R_call (pc := 45) (q := ([.ref rf_o], [])) rp_27 rfl rfl (by decide) rp_9 rfl (Nat.le_of_ble_eq_true rfl) ⟨rfl, Nat.le_of_ble_eq_true rfl⟩ h (fun v s3 h => ?_)
      obtain ⟨rfl, h⟩ := h
      exact rf_R_le (l := [(0, .ref rf_o), (2, .int r1), (3, .int (s1.1 5)), (4, .int r2), (5, .int (s1.1 26))]) rfl rfl (⟨rfl, rfl, rfl, rfl, rfl, trivial⟩) h
/-- compared (I)I, from 26 on -/
def wr_compared_26 (d : Nat) (x1 : Int32) (x2 : Int32) (s : rf_S) (Q : Int32 → rf_S → Prop) : Prop := rf_V d 9 [(0, .ref rf_o)] s (fun s1 => rf_I d 29 [(0, .ref rf_o), (1, .int x1)] s1 (fun r2 s2 => ((0 ≤ (s2.1 9) → Q (Int32.ofInt (-1)) s2) ∧ (¬ (0 ≤ (s2.1 9)) → rf_I d 14 [(0, .ref rf_o), (1, .int ((Int8.ofInt 9).toInt32)), (2, .int (s.1 8)), (3, .int x2), (4, .int r2)] s2 (fun r3 s3 => Q r3 s3)))))
set_option maxRecDepth 20000 in
theorem wr_compared_26_ok {d : Nat} {x1 : Int32} {x2 : Int32} {s : rf_S} {Q : Int32 → rf_S → Prop} (h : wr_compared_26 d x1 x2 s Q) : rf_R (d + 1) 28 (26, [(0, .ref rf_o), (1, .int x1), (2, .int x2)], [], s) (rf_qI Q) := by
  unfold wr_compared_26 at h
  refine rf_R_wv rp_28 (rf_bk am_t28 14 4) 26 [(0, .ref rf_o), (1, .int x1), (2, .int x2)] [] s (by repeat (first | exact trivial | refine ⟨rfl, ?_⟩)) (by decide +kernel) ?_
  refine rf_R_call (pc := 32) (q := ([.ref rf_o], [])) rp_28 rfl rfl (by decide) rp_9 rfl (Nat.le_of_ble_eq_true rfl) ⟨rfl, Nat.le_of_ble_eq_true rfl⟩ h (fun v s1 h => ?_)
  obtain ⟨rfl, h⟩ := h
  refine rf_R_wv rp_28 (rf_bk am_t28 19 2) 35 [(3, .int (s.1 8)), (0, .ref rf_o), (1, .int x1), (2, .int x2)] [] s1 (by repeat (first | exact trivial | refine ⟨rfl, ?_⟩)) (by decide +kernel) ?_
  refine rf_R_call (pc := 37) (q := ([.ref rf_o, .int x1], [])) rp_28 rfl rfl (by decide) rp_29 rfl (Nat.le_of_ble_eq_true rfl) ⟨rfl, Nat.le_of_ble_eq_true rfl⟩ h (fun v s2 h => ?_)
  obtain ⟨r2, rfl, h⟩ := h
  refine rf_R_wv rp_28 (rf_bk am_t28 22 4) 40 [(3, .int (s.1 8)), (0, .ref rf_o), (1, .int x1), (2, .int x2)] [.int r2] s2 (by repeat (first | exact trivial | refine ⟨rfl, ?_⟩)) (by decide +kernel) ?_
  refine rf_R_if (b := am_cnd .ge (s2.1 9) 0) (p := 62) (q := 49) (fun hb => ?_) (fun hb => ?_)
  · replace h := h.1 (of_decide_eq_true hb)
    refine rf_R_wv rp_28 (rf_bk am_t28 33 1) 62 [(4, .int r2), (3, .int (s.1 8)), (0, .ref rf_o), (1, .int x1), (2, .int x2)] [] s2 (by repeat (first | exact trivial | refine ⟨rfl, ?_⟩)) (by decide +kernel) ?_
    exact rf_R_ret (pc := 63) (v := some (.int (Int32.ofInt (-1)))) rp_28 rfl rfl rfl ⟨_, rfl, h⟩
  · replace h := h.2 (of_decide_eq_false hb)
    refine rf_R_wv rp_28 (rf_bk am_t28 26 5) 49 [(4, .int r2), (3, .int (s.1 8)), (0, .ref rf_o), (1, .int x1), (2, .int x2)] [] s2 (by repeat (first | exact trivial | refine ⟨rfl, ?_⟩)) (by decide +kernel) ?_
    refine rf_R_call (pc := 56) (q := ([.ref rf_o, .int ((Int8.ofInt 9).toInt32), .int (s.1 8), .int x2, .int r2], [])) rp_28 rfl rfl (by decide) rp_14 rfl (Nat.le_of_ble_eq_true rfl) ⟨rfl, Nat.le_of_ble_eq_true rfl⟩ h (fun v s3 h => ?_)
    obtain ⟨r3, rfl, h⟩ := h
    refine rf_R_wv rp_28 (rf_bk am_t28 32 1) 59 [(4, .int r2), (3, .int (s.1 8)), (0, .ref rf_o), (1, .int x1), (2, .int x2)] [.int r3] s3 (by repeat (first | exact trivial | refine ⟨rfl, ?_⟩)) (by decide +kernel) ?_
    exact rf_R_ret (pc := 63) (v := some (.int r3)) rp_28 rfl rfl rfl ⟨_, rfl, h⟩
/-- compared (I)I, from 0 on -/
def wr_compared (d : Nat) (x1 : Int32) (s : rf_S) (Q : Int32 → rf_S → Prop) : Prop := rf_I d 29 [(0, .ref rf_o), (1, .int x1)] s (fun r1 s1 => rf_I d 11 [(0, .ref rf_o), (1, .int ((Int8.ofInt 69).toInt32))] s1 (fun r2 s2 => ((¬ r2 = 0 → wr_compared_26 d x1 r1 s2 Q) ∧ (r2 = 0 → rf_I d 11 [(0, .ref rf_o), (1, .int ((Int8.ofInt 60).toInt32))] s2 (fun r3 s3 => ((¬ r3 = 0 → wr_compared_26 d x1 r1 s3 Q) ∧ (r3 = 0 → Q r1 s3)))))))
set_option maxRecDepth 20000 in
theorem wr_compared_ok {d : Nat} {x1 : Int32} {s : rf_S} {Q : Int32 → rf_S → Prop} (h : wr_compared d x1 s Q) : rf_I (d + 1) 28 [(0, .ref rf_o), (1, .int x1)] s Q := by
  unfold wr_compared at h
  unfold rf_I
  refine rf_R_wv rp_28 (rf_bk am_t28 0 2) 0 [(0, .ref rf_o), (1, .int x1)] [] s (by repeat (first | exact trivial | refine ⟨rfl, ?_⟩)) (by decide +kernel) ?_
  refine rf_R_call (pc := 2) (q := ([.ref rf_o, .int x1], [])) rp_28 rfl rfl (by decide) rp_29 rfl (Nat.le_of_ble_eq_true rfl) ⟨rfl, Nat.le_of_ble_eq_true rfl⟩ h (fun v s1 h => ?_)
  obtain ⟨r1, rfl, h⟩ := h
  refine rf_R_wv rp_28 (rf_bk am_t28 3 3) 5 [(0, .ref rf_o), (1, .int x1)] [.int r1] s1 (by repeat (first | exact trivial | refine ⟨rfl, ?_⟩)) (by decide +kernel) ?_
  refine rf_R_call (pc := 9) (q := ([.ref rf_o, .int ((Int8.ofInt 69).toInt32)], [])) rp_28 rfl rfl (by decide) rp_11 rfl (Nat.le_of_ble_eq_true rfl) ⟨rfl, Nat.le_of_ble_eq_true rfl⟩ h (fun v s2 h => ?_)
  obtain ⟨r2, rfl, h⟩ := h
  refine rf_R_wv rp_28 (rf_bk am_t28 7 1) 12 [(2, .int r1), (0, .ref rf_o), (1, .int x1)] [.int r2] s2 (by repeat (first | exact trivial | refine ⟨rfl, ?_⟩)) (by decide +kernel) ?_
  refine rf_R_if (b := am_cnd .ne r2 0) (p := 26) (q := 15) (fun hb => ?_) (fun hb => ?_)
  · replace h := h.1 (of_decide_eq_true hb)
    exact rf_R_le (l := [(0, .ref rf_o), (1, .int x1), (2, .int r1)]) rfl rfl (⟨rfl, rfl, rfl, trivial⟩) (wr_compared_26_ok h)
  · replace h := h.2 (Decidable.not_not.mp (of_decide_eq_false hb))
    refine rf_R_wv rp_28 (rf_bk am_t28 8 2) 15 [(2, .int r1), (0, .ref rf_o), (1, .int x1)] [] s2 (by repeat (first | exact trivial | refine ⟨rfl, ?_⟩)) (by decide +kernel) ?_
    refine rf_R_call (pc := 18) (q := ([.ref rf_o, .int ((Int8.ofInt 60).toInt32)], [])) rp_28 rfl rfl (by decide) rp_11 rfl (Nat.le_of_ble_eq_true rfl) ⟨rfl, Nat.le_of_ble_eq_true rfl⟩ h (fun v s3 h => ?_)
    obtain ⟨r3, rfl, h⟩ := h
    refine rf_R_wv rp_28 (rf_bk am_t28 11 1) 21 [(2, .int r1), (0, .ref rf_o), (1, .int x1)] [.int r3] s3 (by repeat (first | exact trivial | refine ⟨rfl, ?_⟩)) (by decide +kernel) ?_
    refine rf_R_if (b := am_cnd .ne r3 0) (p := 26) (q := 24) (fun hb => ?_) (fun hb => ?_)
    · replace h := h.1 (of_decide_eq_true hb)
      exact rf_R_le (l := [(0, .ref rf_o), (1, .int x1), (2, .int r1)]) rfl rfl (⟨rfl, rfl, rfl, trivial⟩) (wr_compared_26_ok h)
    · replace h := h.2 (Decidable.not_not.mp (of_decide_eq_false hb))
      refine rf_R_wv rp_28 (rf_bk am_t28 12 1) 24 [(2, .int r1), (0, .ref rf_o), (1, .int x1)] [] s3 (by repeat (first | exact trivial | refine ⟨rfl, ?_⟩)) (by decide +kernel) ?_
      exact rf_R_ret (pc := 25) (v := some (.int r1)) rp_28 rfl rfl rfl ⟨_, rfl, h⟩
/-- sum (I)I, from 61 on -/
def wr_sum_61 (d : Nat) (x1 : Int32) (y0 : Int32) (s : rf_S) (Q : Int32 → rf_S → Prop) : Prop := rf_R (d + 1) 29 (6, [(0, .ref rf_o), (1, .int x1), (2, .int y0)], [], s) (rf_qI Q)
set_option maxRecDepth 20000 in
theorem wr_sum_61_ok {d : Nat} {x1 : Int32} {y0 : Int32} {s : rf_S} {Q : Int32 → rf_S → Prop} (h : wr_sum_61 d x1 y0 s Q) : rf_R (d + 1) 29 (61, [(0, .ref rf_o), (1, .int x1)], [.int y0], s) (rf_qI Q) := by
  unfold wr_sum_61 at h
  refine rf_R_wv rp_29 (rf_bk am_t29 32 2) 61 [(0, .ref rf_o), (1, .int x1)] [.int y0] s (by repeat (first | exact trivial | refine ⟨rfl, ?_⟩)) (by decide +kernel) ?_
  exact rf_R_le (l := [(0, .ref rf_o), (1, .int x1), (2, .int y0)]) rfl rfl (⟨rfl, rfl, rfl, trivial⟩) h
/-- sum (I)I, from 24 on -/
def wr_sum_24 (d : Nat) (x1 : Int32) (x2 : Int32) (s : rf_S) (Q : Int32 → rf_S → Prop) : Prop := rf_V d 9 [(0, .ref rf_o)] s (fun s1 => rf_I d 30 [(0, .ref rf_o), (1, .int x1)] s1 (fun r2 s2 => ((0 ≤ (s2.1 9) → wr_sum_61 d x1 (Int32.ofInt (-1)) s2 Q) ∧ (¬ (0 ≤ (s2.1 9)) → rf_I d 14 [(0, .ref rf_o), (1, .int ((Int8.ofInt 9).toInt32)), (2, .int (s.1 8)), (3, .int x2), (4, .int r2)] s2 (fun r3 s3 => wr_sum_61 d x1 r3 s3 Q)))))
set_option maxRecDepth 20000 in
theorem wr_sum_24_ok {d : Nat} {x1 : Int32} {x2 : Int32} {s : rf_S} {Q : Int32 → rf_S → Prop} (h : wr_sum_24 d x1 x2 s Q) : rf_R (d + 1) 29 (24, [(0, .ref rf_o), (1, .int x1), (2, .int x2)], [], s) (rf_qI Q) := by
  unfold wr_sum_24 at h
  refine rf_R_wv rp_29 (rf_bk am_t29 12 4) 24 [(0, .ref rf_o), (1, .int x1), (2, .int x2)] [] s (by repeat (first | exact trivial | refine ⟨rfl, ?_⟩)) (by decide +kernel) ?_
  refine rf_R_call (pc := 30) (q := ([.ref rf_o], [])) rp_29 rfl rfl (by decide) rp_9 rfl (Nat.le_of_ble_eq_true rfl) ⟨rfl, Nat.le_of_ble_eq_true rfl⟩ h (fun v s1 h => ?_)
  obtain ⟨rfl, h⟩ := h
  refine rf_R_wv rp_29 (rf_bk am_t29 17 2) 33 [(3, .int (s.1 8)), (0, .ref rf_o), (1, .int x1), (2, .int x2)] [] s1 (by repeat (first | exact trivial | refine ⟨rfl, ?_⟩)) (by decide +kernel) ?_
  refine rf_R_call (pc := 35) (q := ([.ref rf_o, .int x1], [])) rp_29 rfl rfl (by decide) rp_30 rfl (Nat.le_of_ble_eq_true rfl) ⟨rfl, Nat.le_of_ble_eq_true rfl⟩ h (fun v s2 h => ?_)
  obtain ⟨r2, rfl, h⟩ := h
  refine rf_R_wv rp_29 (rf_bk am_t29 20 4) 38 [(3, .int (s.1 8)), (0, .ref rf_o), (1, .int x1), (2, .int x2)] [.int r2] s2 (by repeat (first | exact trivial | refine ⟨rfl, ?_⟩)) (by decide +kernel) ?_
  refine rf_R_if (b := am_cnd .ge (s2.1 9) 0) (p := 60) (q := 47) (fun hb => ?_) (fun hb => ?_)
  · replace h := h.1 (of_decide_eq_true hb)
    refine rf_R_wv rp_29 (rf_bk am_t29 31 1) 60 [(4, .int r2), (3, .int (s.1 8)), (0, .ref rf_o), (1, .int x1), (2, .int x2)] [] s2 (by repeat (first | exact trivial | refine ⟨rfl, ?_⟩)) (by decide +kernel) ?_
    exact rf_R_le (l := [(0, .ref rf_o), (1, .int x1)]) rfl rfl (⟨rfl, rfl, trivial⟩) (wr_sum_61_ok h)
  · replace h := h.2 (of_decide_eq_false hb)
    refine rf_R_wv rp_29 (rf_bk am_t29 24 5) 47 [(4, .int r2), (3, .int (s.1 8)), (0, .ref rf_o), (1, .int x1), (2, .int x2)] [] s2 (by repeat (first | exact trivial | refine ⟨rfl, ?_⟩)) (by decide +kernel) ?_
    refine rf_R_call (pc := 54) (q := ([.ref rf_o, .int ((Int8.ofInt 9).toInt32), .int (s.1 8), .int x2, .int r2], [])) rp_29 rfl rfl (by decide) rp_14 rfl (Nat.le_of_ble_eq_true rfl) ⟨rfl, Nat.le_of_ble_eq_true rfl⟩ h (fun v s3 h => ?_)
    obtain ⟨r3, rfl, h⟩ := h
    refine rf_R_wv rp_29 (rf_bk am_t29 30 1) 57 [(4, .int r2), (3, .int (s.1 8)), (0, .ref rf_o), (1, .int x1), (2, .int x2)] [.int r3] s3 (by repeat (first | exact trivial | refine ⟨rfl, ?_⟩)) (by decide +kernel) ?_
    exact rf_R_le (l := [(0, .ref rf_o), (1, .int x1)]) rfl rfl (⟨rfl, rfl, trivial⟩) (wr_sum_61_ok h)
/-- sum (I)I, from 6 on -/
def wr_sum_6 (d : Nat) (x1 : Int32) (x2 : Int32) (s : rf_S) (Q : Int32 → rf_S → Prop) : Prop := rf_I d 11 [(0, .ref rf_o), (1, .int ((Int8.ofInt 43).toInt32))] s (fun r1 s1 => ((¬ r1 = 0 → wr_sum_24 d x1 x2 s1 Q) ∧ (r1 = 0 → rf_I d 11 [(0, .ref rf_o), (1, .int ((Int8.ofInt 45).toInt32))] s1 (fun r2 s2 => ((r2 = 0 → Q x2 s2) ∧ (¬ (r2 = 0) → wr_sum_24 d x1 x2 s2 Q))))))
set_option maxRecDepth 20000 in
theorem wr_sum_6_ok {d : Nat} {x1 : Int32} {x2 : Int32} {s : rf_S} {Q : Int32 → rf_S → Prop} (h : wr_sum_6 d x1 x2 s Q) : rf_R (d + 1) 29 (6, [(0, .ref rf_o), (1, .int x1), (2, .int x2)], [], s) (rf_qI Q) := by
  unfold wr_sum_6 at h
  refine rf_R_wv rp_29 (rf_bk am_t29 4 2) 6 [(0, .ref rf_o), (1, .int x1), (2, .int x2)] [] s (by repeat (first | exact trivial | refine ⟨rfl, ?_⟩)) (by decide +kernel) ?_
  refine rf_R_call (pc := 9) (q := ([.ref rf_o, .int ((Int8.ofInt 43).toInt32)], [])) rp_29 rfl rfl (by decide) rp_11 rfl (Nat.le_of_ble_eq_true rfl) ⟨rfl, Nat.le_of_ble_eq_true rfl⟩ h (fun v s1 h => ?_)
  obtain ⟨r1, rfl, h⟩ := h
  refine rf_R_wv rp_29 (rf_bk am_t29 7 1) 12 [(0, .ref rf_o), (1, .int x1), (2, .int x2)] [.int r1] s1 (by repeat (first | exact trivial | refine ⟨rfl, ?_⟩)) (by decide +kernel) ?_
  refine rf_R_if (b := am_cnd .ne r1 0) (p := 24) (q := 15) (fun hb => ?_) (fun hb => ?_)
  · replace h := h.1 (of_decide_eq_true hb)
    exact rf_R_le (l := [(0, .ref rf_o), (1, .int x1), (2, .int x2)]) rfl rfl (⟨rfl, rfl, rfl, trivial⟩) (wr_sum_24_ok h)
  · replace h := h.2 (Decidable.not_not.mp (of_decide_eq_false hb))
    refine rf_R_wv rp_29 (rf_bk am_t29 8 2) 15 [(0, .ref rf_o), (1, .int x1), (2, .int x2)] [] s1 (by repeat (first | exact trivial | refine ⟨rfl, ?_⟩)) (by decide +kernel) ?_
    refine rf_R_call (pc := 18) (q := ([.ref rf_o, .int ((Int8.ofInt 45).toInt32)], [])) rp_29 rfl rfl (by decide) rp_11 rfl (Nat.le_of_ble_eq_true rfl) ⟨rfl, Nat.le_of_ble_eq_true rfl⟩ h (fun v s2 h => ?_)
    obtain ⟨r2, rfl, h⟩ := h
    refine rf_R_wv rp_29 (rf_bk am_t29 11 1) 21 [(0, .ref rf_o), (1, .int x1), (2, .int x2)] [.int r2] s2 (by repeat (first | exact trivial | refine ⟨rfl, ?_⟩)) (by decide +kernel) ?_
    refine rf_R_if (b := am_cnd .eq r2 0) (p := 65) (q := 24) (fun hb => ?_) (fun hb => ?_)
    · replace h := h.1 (of_decide_eq_true hb)
      refine rf_R_wv rp_29 (rf_bk am_t29 34 1) 65 [(0, .ref rf_o), (1, .int x1), (2, .int x2)] [] s2 (by repeat (first | exact trivial | refine ⟨rfl, ?_⟩)) (by decide +kernel) ?_
      exact rf_R_ret (pc := 66) (v := some (.int x2)) rp_29 rfl rfl rfl ⟨_, rfl, h⟩
    · replace h := h.2 (of_decide_eq_false hb)
      exact rf_R_le (l := [(0, .ref rf_o), (1, .int x1), (2, .int x2)]) rfl rfl (⟨rfl, rfl, rfl, trivial⟩) (wr_sum_24_ok h)
/-- sum (I)I, from 0 on -/
def wr_sum (d : Nat) (x1 : Int32) (s : rf_S) (Q : Int32 → rf_S → Prop) : Prop := rf_I d 30 [(0, .ref rf_o), (1, .int x1)] s (fun r1 s1 => rf_R (d + 1) 29 (6, [(0, .ref rf_o), (1, .int x1), (2, .int r1)], [], s1) (rf_qI Q))
set_option maxRecDepth 20000 in
theorem wr_sum_ok {d : Nat} {x1 : Int32} {s : rf_S} {Q : Int32 → rf_S → Prop} (h : wr_sum d x1 s Q) : rf_I (d + 1) 29 [(0, .ref rf_o), (1, .int x1)] s Q := by
  unfold wr_sum at h
  unfold rf_I
  refine rf_R_wv rp_29 (rf_bk am_t29 0 2) 0 [(0, .ref rf_o), (1, .int x1)] [] s (by repeat (first | exact trivial | refine ⟨rfl, ?_⟩)) (by decide +kernel) ?_
  refine rf_R_call (pc := 2) (q := ([.ref rf_o, .int x1], [])) rp_29 rfl rfl (by decide) rp_30 rfl (Nat.le_of_ble_eq_true rfl) ⟨rfl, Nat.le_of_ble_eq_true rfl⟩ h (fun v s1 h => ?_)
  obtain ⟨r1, rfl, h⟩ := h
  refine rf_R_wv rp_29 (rf_bk am_t29 3 1) 5 [(0, .ref rf_o), (1, .int x1)] [.int r1] s1 (by repeat (first | exact trivial | refine ⟨rfl, ?_⟩)) (by decide +kernel) ?_
  exact rf_R_le (l := [(0, .ref rf_o), (1, .int x1), (2, .int r1)]) rfl rfl (⟨rfl, rfl, rfl, trivial⟩) h
