/-! PART 45: the reference, decompiled: cellsFor, cellsInPlace, simpleWord, place, fill, madeInPlace, give, evaluate, evaluateCall, evaluateDatum, evaluateLet, evaluates, enters, entersDefinition, update, isDatum -/
/-- cellsFor (I)I, from 0 on -/
def wr_cellsFor (d : Nat) (x1 : Int32) (s : rf_S) (Q : Int32 → rf_S → Prop) : Prop := rf_I d 61 [(0, .ref rf_o), (1, .int x1)] s (fun r1 s1 => ((r1 = 0 → rf_I d 43 [(0, .ref rf_o), (1, .int x1)] s1 (fun r2 s2 => Q ((Int32.ofInt 2) + r2) s2)) ∧ (¬ (r1 = 0) → (rf_in x1 2100 ∧ Q ((Int32.ofInt 2) + (s1.2.2.1 14 x1.toNatClampNeg)) s1))))
set_option maxRecDepth 20000 in
theorem wr_cellsFor_ok {d : Nat} {x1 : Int32} {s : rf_S} {Q : Int32 → rf_S → Prop} (h : wr_cellsFor d x1 s Q) : rf_I (d + 1) 62 [(0, .ref rf_o), (1, .int x1)] s Q := by
  unfold wr_cellsFor at h
  unfold rf_I
  refine rf_R_wv rp_62 (rf_bk am_t62 0 3) 0 [(0, .ref rf_o), (1, .int x1)] [] s (by repeat (first | exact trivial | refine ⟨rfl, ?_⟩)) (by decide +kernel) ?_
  refine rf_R_call (pc := 3) (q := ([.ref rf_o, .int x1], [.int (Int32.ofInt 2)])) rp_62 rfl rfl (by decide) rp_61 rfl (Nat.le_of_ble_eq_true rfl) ⟨rfl, Nat.le_of_ble_eq_true rfl⟩ h (fun v s1 h => ?_)
  obtain ⟨r1, rfl, h⟩ := h
  refine rf_R_wv rp_62 (rf_bk am_t62 4 1) 6 [(0, .ref rf_o), (1, .int x1)] [.int r1, .int (Int32.ofInt 2)] s1 (by repeat (first | exact trivial | refine ⟨rfl, ?_⟩)) (by decide +kernel) ?_
  refine rf_R_if (b := am_cnd .eq r1 0) (p := 18) (q := 9) (fun hb => ?_) (fun hb => ?_)
  · replace h := h.1 (of_decide_eq_true hb)
    refine rf_R_wv rp_62 (rf_bk am_t62 10 2) 18 [(0, .ref rf_o), (1, .int x1)] [.int (Int32.ofInt 2)] s1 (by repeat (first | exact trivial | refine ⟨rfl, ?_⟩)) (by decide +kernel) ?_
    refine rf_R_call (pc := 20) (q := ([.ref rf_o, .int x1], [.int (Int32.ofInt 2)])) rp_62 rfl rfl (by decide) rp_43 rfl (Nat.le_of_ble_eq_true rfl) ⟨rfl, Nat.le_of_ble_eq_true rfl⟩ h (fun v s2 h => ?_)
    obtain ⟨r2, rfl, h⟩ := h
    refine rf_R_wv rp_62 (rf_bk am_t62 13 1) 23 [(0, .ref rf_o), (1, .int x1)] [.int r2, .int (Int32.ofInt 2)] s2 (by repeat (first | exact trivial | refine ⟨rfl, ?_⟩)) (by decide +kernel) ?_
    exact rf_R_ret (pc := 24) (v := some (.int ((Int32.ofInt 2) + r2))) rp_62 rfl rfl rfl ⟨_, rfl, h⟩
  · replace h := h.2 (of_decide_eq_false hb)
    refine rf_R_wv rp_62 (rf_bk am_t62 5 5) 9 [(0, .ref rf_o), (1, .int x1)] [.int (Int32.ofInt 2)] s1 (by repeat (first | exact trivial | refine ⟨rfl, ?_⟩)) (by decide +kernel) ?_
    refine And.intro h.1 ?_
    replace h := h.2
    refine rf_R_wv rp_62 (rf_bk am_t62 13 1) 23 [(0, .ref rf_o), (1, .int x1)] [.int (s1.2.2.1 14 x1.toNatClampNeg), .int (Int32.ofInt 2)] s1 (by repeat (first | exact trivial | refine ⟨rfl, ?_⟩)) (by decide +kernel) ?_
    exact rf_R_ret (pc := 24) (v := some (.int ((Int32.ofInt 2) + (s1.2.2.1 14 x1.toNatClampNeg)))) rp_62 rfl rfl rfl ⟨_, rfl, h⟩
/-- cellsInPlace (I)I, from 0 on -/
def wr_cellsInPlace (d : Nat) (x1 : Int32) (s : rf_S) (Q : Int32 → rf_S → Prop) : Prop := rf_I d 60 [(0, .ref rf_o), (1, .int x1)] s (fun r1 s1 => ((r1 = 0 → rf_I d 62 [(0, .ref rf_o), (1, .int x1)] s1 (fun r2 s2 => Q r2 s2)) ∧ (¬ (r1 = 0) → Q (Int32.ofInt 0) s1)))
set_option maxRecDepth 20000 in
theorem wr_cellsInPlace_ok {d : Nat} {x1 : Int32} {s : rf_S} {Q : Int32 → rf_S → Prop} (h : wr_cellsInPlace d x1 s Q) : rf_I (d + 1) 63 [(0, .ref rf_o), (1, .int x1)] s Q := by
  unfold wr_cellsInPlace at h
  unfold rf_I
  refine rf_R_wv rp_63 (rf_bk am_t63 0 2) 0 [(0, .ref rf_o), (1, .int x1)] [] s (by repeat (first | exact trivial | refine ⟨rfl, ?_⟩)) (by decide +kernel) ?_
  refine rf_R_call (pc := 2) (q := ([.ref rf_o, .int x1], [])) rp_63 rfl rfl (by decide) rp_60 rfl (Nat.le_of_ble_eq_true rfl) ⟨rfl, Nat.le_of_ble_eq_true rfl⟩ h (fun v s1 h => ?_)
  obtain ⟨r1, rfl, h⟩ := h
  refine rf_R_wv rp_63 (rf_bk am_t63 3 1) 5 [(0, .ref rf_o), (1, .int x1)] [.int r1] s1 (by repeat (first | exact trivial | refine ⟨rfl, ?_⟩)) (by decide +kernel) ?_
  refine rf_R_if (b := am_cnd .eq r1 0) (p := 12) (q := 8) (fun hb => ?_) (fun hb => ?_)
  · replace h := h.1 (of_decide_eq_true hb)
    refine rf_R_wv rp_63 (rf_bk am_t63 6 2) 12 [(0, .ref rf_o), (1, .int x1)] [] s1 (by repeat (first | exact trivial | refine ⟨rfl, ?_⟩)) (by decide +kernel) ?_
    refine rf_R_call (pc := 14) (q := ([.ref rf_o, .int x1], [])) rp_63 rfl rfl (by decide) rp_62 rfl (Nat.le_of_ble_eq_true rfl) ⟨rfl, Nat.le_of_ble_eq_true rfl⟩ h (fun v s2 h => ?_)
    obtain ⟨r2, rfl, h⟩ := h
    exact rf_R_ret (pc := 17) (v := some (.int r2)) rp_63 rfl rfl rfl ⟨_, rfl, h⟩
  · replace h := h.2 (of_decide_eq_false hb)
    refine rf_R_wv rp_63 (rf_bk am_t63 4 2) 8 [(0, .ref rf_o), (1, .int x1)] [] s1 (by repeat (first | exact trivial | refine ⟨rfl, ?_⟩)) (by decide +kernel) ?_
    exact rf_R_ret (pc := 17) (v := some (.int (Int32.ofInt 0))) rp_63 rfl rfl rfl ⟨_, rfl, h⟩
/-- simpleWord (I)J, from 0 on -/
def wr_simpleWord (d : Nat) (x1 : Int32) (s : rf_S) (Q : Int64 → rf_S → Prop) : Prop := (rf_in x1 2100 ∧ rf_in x1 2100 ∧ ((¬ (s.2.2.1 12 x1.toNatClampNeg) = (Int32.ofInt 1) → (rf_in x1 2100 ∧ ((¬ (s.2.2.1 12 x1.toNatClampNeg) = (Int32.ofInt 2) → (((s.2.2.1 13 x1.toNatClampNeg) < 0 → rf_J d 44 [(0, .int (Int32.ofInt 2)), (1, .int ((Int32.ofInt (-1)) - (s.2.2.1 13 x1.toNatClampNeg)))] s (fun r1 s1 => Q r1 s1)) ∧ (¬ ((s.2.2.1 13 x1.toNatClampNeg) < 0) → (rf_in (s.2.2.1 13 x1.toNatClampNeg) 1100 ∧ Q (s.2.2.2 78 (s.2.2.1 13 x1.toNatClampNeg).toNatClampNeg) s)))) ∧ ((s.2.2.1 12 x1.toNatClampNeg) = (Int32.ofInt 2) → rf_J d 44 [(0, .int (Int32.ofInt 1)), (1, .int (s.2.2.1 13 x1.toNatClampNeg))] s (fun r2 s2 => Q r2 s2))))) ∧ ((s.2.2.1 12 x1.toNatClampNeg) = (Int32.ofInt 1) → rf_J d 44 [(0, .int (Int32.ofInt 0)), (1, .int (s.2.2.1 13 x1.toNatClampNeg))] s (fun r3 s3 => Q r3 s3))))
set_option maxRecDepth 20000 in
theorem wr_simpleWord_ok {d : Nat} {x1 : Int32} {s : rf_S} {Q : Int64 → rf_S → Prop} (h : wr_simpleWord d x1 s Q) : rf_J (d + 1) 64 [(0, .ref rf_o), (1, .int x1)] s Q := by
  unfold wr_simpleWord at h
  unfold rf_J
  refine rf_R_wv rp_64 (rf_bk am_t64 0 11) 0 [(0, .ref rf_o), (1, .int x1)] [] s (by repeat (first | exact trivial | refine ⟨rfl, ?_⟩)) (by decide +kernel) ?_
  refine And.intro h.1 ?_
  replace h := h.2
  refine And.intro h.1 ?_
  replace h := h.2
  refine rf_R_if (b := am_cnd .ne (s.2.2.1 12 x1.toNatClampNeg) (Int32.ofInt 1)) (p := 23) (q := 17) (fun hb => ?_) (fun hb => ?_)
  · replace h := h.1 (of_decide_eq_true hb)
    refine rf_R_wv rp_64 (rf_bk am_t64 15 6) 23 [(2, .int (s.2.2.1 13 x1.toNatClampNeg)), (0, .ref rf_o), (1, .int x1)] [] s (by repeat (first | exact trivial | refine ⟨rfl, ?_⟩)) (by decide +kernel) ?_
    refine And.intro h.1 ?_
    replace h := h.2
    refine rf_R_if (b := am_cnd .ne (s.2.2.1 12 x1.toNatClampNeg) (Int32.ofInt 2)) (p := 39) (q := 33) (fun hb => ?_) (fun hb => ?_)
    · replace h := h.1 (of_decide_eq_true hb)
      refine rf_R_wv rp_64 (rf_bk am_t64 25 2) 39 [(2, .int (s.2.2.1 13 x1.toNatClampNeg)), (0, .ref rf_o), (1, .int x1)] [] s (by repeat (first | exact trivial | refine ⟨rfl, ?_⟩)) (by decide +kernel) ?_
      refine rf_R_if (b := am_cnd .lt (s.2.2.1 13 x1.toNatClampNeg) 0) (p := 52) (q := 43) (fun hb => ?_) (fun hb => ?_)
      · replace h := h.1 (of_decide_eq_true hb)
        refine rf_R_wv rp_64 (rf_bk am_t64 32 4) 52 [(2, .int (s.2.2.1 13 x1.toNatClampNeg)), (0, .ref rf_o), (1, .int x1)] [] s (by repeat (first | exact trivial | refine ⟨rfl, ?_⟩)) (by decide +kernel) ?_
        refine rf_R_call (pc := 56) (q := ([.int (Int32.ofInt 2), .int ((Int32.ofInt (-1)) - (s.2.2.1 13 x1.toNatClampNeg))], [])) rp_64 rfl rfl (by decide) rp_44 rfl (Nat.le_of_ble_eq_true rfl) ⟨rfl, Nat.le_of_ble_eq_true rfl⟩ h (fun v s1 h => ?_)
        obtain ⟨r1, rfl, h⟩ := h
        exact rf_R_ret (pc := 59) (v := some (.long r1)) rp_64 rfl rfl rfl ⟨_, rfl, h⟩
      · replace h := h.2 (of_decide_eq_false hb)
        refine rf_R_wv rp_64 (rf_bk am_t64 27 5) 43 [(2, .int (s.2.2.1 13 x1.toNatClampNeg)), (0, .ref rf_o), (1, .int x1)] [] s (by repeat (first | exact trivial | refine ⟨rfl, ?_⟩)) (by decide +kernel) ?_
        refine And.intro h.1 ?_
        replace h := h.2
        exact rf_R_ret (pc := 59) (v := some (.long (s.2.2.2 78 (s.2.2.1 13 x1.toNatClampNeg).toNatClampNeg))) rp_64 rfl rfl rfl ⟨_, rfl, h⟩
    · replace h := h.2 (Decidable.not_not.mp (of_decide_eq_false hb))
      refine rf_R_wv rp_64 (rf_bk am_t64 21 2) 33 [(2, .int (s.2.2.1 13 x1.toNatClampNeg)), (0, .ref rf_o), (1, .int x1)] [] s (by repeat (first | exact trivial | refine ⟨rfl, ?_⟩)) (by decide +kernel) ?_
      refine rf_R_call (pc := 35) (q := ([.int (Int32.ofInt 1), .int (s.2.2.1 13 x1.toNatClampNeg)], [])) rp_64 rfl rfl (by decide) rp_44 rfl (Nat.le_of_ble_eq_true rfl) ⟨rfl, Nat.le_of_ble_eq_true rfl⟩ h (fun v s2 h => ?_)
      obtain ⟨r2, rfl, h⟩ := h
      exact rf_R_ret (pc := 38) (v := some (.long r2)) rp_64 rfl rfl rfl ⟨_, rfl, h⟩
  · replace h := h.2 (Decidable.not_not.mp (of_decide_eq_false hb))
    refine rf_R_wv rp_64 (rf_bk am_t64 11 2) 17 [(2, .int (s.2.2.1 13 x1.toNatClampNeg)), (0, .ref rf_o), (1, .int x1)] [] s (by repeat (first | exact trivial | refine ⟨rfl, ?_⟩)) (by decide +kernel) ?_
    refine rf_R_call (pc := 19) (q := ([.int (Int32.ofInt 0), .int (s.2.2.1 13 x1.toNatClampNeg)], [])) rp_64 rfl rfl (by decide) rp_44 rfl (Nat.le_of_ble_eq_true rfl) ⟨rfl, Nat.le_of_ble_eq_true rfl⟩ h (fun v s3 h => ?_)
    obtain ⟨r3, rfl, h⟩ := h
    exact rf_R_ret (pc := 22) (v := some (.long r3)) rp_64 rfl rfl rfl ⟨_, rfl, h⟩
/-- place (I)I, from 62 on -/
def wr_place_62 (d : Nat) (y0 : Int32) (y1 : Int32) (y2 : Int32) (s : rf_S) (Q : Int32 → rf_S → Prop) : Prop := rf_I d 51 [(0, .ref rf_o), (1, .int y2), (2, .int y1), (3, .int y0)] s (fun r1 s1 => Q r1 s1)
set_option maxRecDepth 20000 in
theorem wr_place_62_ok {d : Nat} {y0 : Int32} {y1 : Int32} {y2 : Int32} {s : rf_S} {Q : Int32 → rf_S → Prop} (h : wr_place_62 d y0 y1 y2 s Q) : rf_R (d + 1) 65 (62, [], [.int y0, .int y1, .int y2, .ref rf_o], s) (rf_qI Q) := by
  unfold wr_place_62 at h
  refine rf_R_call (pc := 62) (q := ([.ref rf_o, .int y2, .int y1, .int y0], [])) rp_65 rfl rfl (by decide) rp_51 rfl (Nat.le_of_ble_eq_true rfl) ⟨rfl, Nat.le_of_ble_eq_true rfl⟩ h (fun v s1 h => ?_)
  obtain ⟨r1, rfl, h⟩ := h
  exact rf_R_ret (pc := 65) (v := some (.int r1)) rp_65 rfl rfl rfl ⟨_, rfl, h⟩
/-- place (I)I, from 44 on -/
def wr_place_44 (d : Nat) (x1 : Int32) (x2 : Int32) (y0 : Int32) (y1 : Int32) (s : rf_S) (Q : Int32 → rf_S → Prop) : Prop := ((x2 = 0 → rf_I d 43 [(0, .ref rf_o), (1, .int x1)] s (fun r1 s1 => wr_place_62 d r1 y0 y1 s1 Q)) ∧ (¬ (x2 = 0) → (rf_in x1 2100 ∧ wr_place_62 d (s.2.2.1 14 x1.toNatClampNeg) y0 y1 s Q)))
set_option maxRecDepth 20000 in
theorem wr_place_44_ok {d : Nat} {x1 : Int32} {x2 : Int32} {y0 : Int32} {y1 : Int32} {s : rf_S} {Q : Int32 → rf_S → Prop} (h : wr_place_44 d x1 x2 y0 y1 s Q) : rf_R (d + 1) 65 (44, [(0, .ref rf_o), (1, .int x1), (2, .int x2)], [.int y0, .int y1, .ref rf_o], s) (rf_qI Q) := by
  unfold wr_place_44 at h
  refine rf_R_wv rp_65 (rf_bk am_t65 26 2) 44 [(0, .ref rf_o), (1, .int x1), (2, .int x2)] [.int y0, .int y1, .ref rf_o] s (by repeat (first | exact trivial | refine ⟨rfl, ?_⟩)) (by decide +kernel) ?_
  refine rf_R_if (b := am_cnd .eq x2 0) (p := 57) (q := 48) (fun hb => ?_) (fun hb => ?_)
  · replace h := h.1 (of_decide_eq_true hb)
    refine rf_R_wv rp_65 (rf_bk am_t65 33 2) 57 [(0, .ref rf_o), (1, .int x1), (2, .int x2)] [.int y0, .int y1, .ref rf_o] s (by repeat (first | exact trivial | refine ⟨rfl, ?_⟩)) (by decide +kernel) ?_
    refine rf_R_call (pc := 59) (q := ([.ref rf_o, .int x1], [.int y0, .int y1, .ref rf_o])) rp_65 rfl rfl (by decide) rp_43 rfl (Nat.le_of_ble_eq_true rfl) ⟨rfl, Nat.le_of_ble_eq_true rfl⟩ h (fun v s1 h => ?_)
    obtain ⟨r1, rfl, h⟩ := h
    exact rf_R_le (l := []) rfl rfl trivial (wr_place_62_ok h)
  · replace h := h.2 (of_decide_eq_false hb)
    refine rf_R_wv rp_65 (rf_bk am_t65 28 5) 48 [(0, .ref rf_o), (1, .int x1), (2, .int x2)] [.int y0, .int y1, .ref rf_o] s (by repeat (first | exact trivial | refine ⟨rfl, ?_⟩)) (by decide +kernel) ?_
    refine And.intro h.1 ?_
    replace h := h.2
    exact rf_R_le (l := []) rfl rfl trivial (wr_place_62_ok h)
/-- place (I)I, from 30 on -/
def wr_place_30 (d : Nat) (x1 : Int32) (x2 : Int32) (y0 : Int32) (s : rf_S) (Q : Int32 → rf_S → Prop) : Prop := ((x2 = 0 → wr_place_44 d x1 x2 x1 y0 s Q) ∧ (¬ (x2 = 0) → (rf_in x1 2100 ∧ wr_place_44 d x1 x2 (s.2.2.1 15 x1.toNatClampNeg) y0 s Q)))
set_option maxRecDepth 20000 in
theorem wr_place_30_ok {d : Nat} {x1 : Int32} {x2 : Int32} {y0 : Int32} {s : rf_S} {Q : Int32 → rf_S → Prop} (h : wr_place_30 d x1 x2 y0 s Q) : rf_R (d + 1) 65 (30, [(0, .ref rf_o), (1, .int x1), (2, .int x2)], [.int y0, .ref rf_o], s) (rf_qI Q) := by
  unfold wr_place_30 at h
  refine rf_R_wv rp_65 (rf_bk am_t65 18 2) 30 [(0, .ref rf_o), (1, .int x1), (2, .int x2)] [.int y0, .ref rf_o] s (by repeat (first | exact trivial | refine ⟨rfl, ?_⟩)) (by decide +kernel) ?_
  refine rf_R_if (b := am_cnd .eq x2 0) (p := 43) (q := 34) (fun hb => ?_) (fun hb => ?_)
  · replace h := h.1 (of_decide_eq_true hb)
    refine rf_R_wv rp_65 (rf_bk am_t65 25 1) 43 [(0, .ref rf_o), (1, .int x1), (2, .int x2)] [.int y0, .ref rf_o] s (by repeat (first | exact trivial | refine ⟨rfl, ?_⟩)) (by decide +kernel) ?_
    exact rf_R_le (l := [(0, .ref rf_o), (1, .int x1), (2, .int x2)]) rfl rfl (⟨rfl, rfl, rfl, trivial⟩) (wr_place_44_ok h)
  · replace h := h.2 (of_decide_eq_false hb)
    refine rf_R_wv rp_65 (rf_bk am_t65 20 5) 34 [(0, .ref rf_o), (1, .int x1), (2, .int x2)] [.int y0, .ref rf_o] s (by repeat (first | exact trivial | refine ⟨rfl, ?_⟩)) (by decide +kernel) ?_
    refine And.intro h.1 ?_
    replace h := h.2
    exact rf_R_le (l := [(0, .ref rf_o), (1, .int x1), (2, .int x2)]) rfl rfl (⟨rfl, rfl, rfl, trivial⟩) (wr_place_44_ok h)
/-- place (I)I, from 0 on -/
def wr_place (d : Nat) (x1 : Int32) (s : rf_S) (Q : Int32 → rf_S → Prop) : Prop := rf_I d 61 [(0, .ref rf_o), (1, .int x1)] s (fun r1 s1 => ((r1 = 0 → (rf_in x1 2100 ∧ ((¬ (s1.2.2.1 12 x1.toNatClampNeg) = (Int32.ofInt 3) → wr_place_30 d x1 r1 (Int32.ofInt 0) s1 Q) ∧ ((s1.2.2.1 12 x1.toNatClampNeg) = (Int32.ofInt 3) → wr_place_30 d x1 r1 (Int32.ofInt 3) s1 Q)))) ∧ (¬ (r1 = 0) → wr_place_30 d x1 r1 (Int32.ofInt 4) s1 Q)))
set_option maxRecDepth 20000 in
theorem wr_place_ok {d : Nat} {x1 : Int32} {s : rf_S} {Q : Int32 → rf_S → Prop} (h : wr_place d x1 s Q) : rf_I (d + 1) 65 [(0, .ref rf_o), (1, .int x1)] s Q := by
  unfold wr_place at h
  unfold rf_I
  refine rf_R_wv rp_65 (rf_bk am_t65 0 2) 0 [(0, .ref rf_o), (1, .int x1)] [] s (by repeat (first | exact trivial | refine ⟨rfl, ?_⟩)) (by decide +kernel) ?_
  refine rf_R_call (pc := 2) (q := ([.ref rf_o, .int x1], [])) rp_65 rfl rfl (by decide) rp_61 rfl (Nat.le_of_ble_eq_true rfl) ⟨rfl, Nat.le_of_ble_eq_true rfl⟩ h (fun v s1 h => ?_)
  obtain ⟨r1, rfl, h⟩ := h
  refine rf_R_wv rp_65 (rf_bk am_t65 3 4) 5 [(0, .ref rf_o), (1, .int x1)] [.int r1] s1 (by repeat (first | exact trivial | refine ⟨rfl, ?_⟩)) (by decide +kernel) ?_
  refine rf_R_if (b := am_cnd .eq r1 0) (p := 15) (q := 11) (fun hb => ?_) (fun hb => ?_)
  · replace h := h.1 (of_decide_eq_true hb)
    refine rf_R_wv rp_65 (rf_bk am_t65 9 6) 15 [(2, .int r1), (0, .ref rf_o), (1, .int x1)] [.ref rf_o] s1 (by repeat (first | exact trivial | refine ⟨rfl, ?_⟩)) (by decide +kernel) ?_
    refine And.intro h.1 ?_
    replace h := h.2
    refine rf_R_if (b := am_cnd .ne (s1.2.2.1 12 x1.toNatClampNeg) (Int32.ofInt 3)) (p := 29) (q := 25) (fun hb => ?_) (fun hb => ?_)
    · replace h := h.1 (of_decide_eq_true hb)
      refine rf_R_wv rp_65 (rf_bk am_t65 17 1) 29 [(2, .int r1), (0, .ref rf_o), (1, .int x1)] [.ref rf_o] s1 (by repeat (first | exact trivial | refine ⟨rfl, ?_⟩)) (by decide +kernel) ?_
      exact rf_R_le (l := [(0, .ref rf_o), (1, .int x1), (2, .int r1)]) rfl rfl (⟨rfl, rfl, rfl, trivial⟩) (wr_place_30_ok h)
    · replace h := h.2 (Decidable.not_not.mp (of_decide_eq_false hb))
      refine rf_R_wv rp_65 (rf_bk am_t65 15 2) 25 [(2, .int r1), (0, .ref rf_o), (1, .int x1)] [.ref rf_o] s1 (by repeat (first | exact trivial | refine ⟨rfl, ?_⟩)) (by decide +kernel) ?_
      exact rf_R_le (l := [(0, .ref rf_o), (1, .int x1), (2, .int r1)]) rfl rfl (⟨rfl, rfl, rfl, trivial⟩) (wr_place_30_ok h)
  · replace h := h.2 (of_decide_eq_false hb)
    refine rf_R_wv rp_65 (rf_bk am_t65 7 2) 11 [(2, .int r1), (0, .ref rf_o), (1, .int x1)] [.ref rf_o] s1 (by repeat (first | exact trivial | refine ⟨rfl, ?_⟩)) (by decide +kernel) ?_
    exact rf_R_le (l := [(0, .ref rf_o), (1, .int x1), (2, .int r1)]) rfl rfl (⟨rfl, rfl, rfl, trivial⟩) (wr_place_30_ok h)
/-- fill (II)V, from 77 on -/
def wr_fill_77 (d : Nat) (x1 : Int32) (x2 : Int32) (x3 : Int32) (x4 : Int32) (y0 : Int64) (y1 : Int32) (s : rf_S) (Q : rf_S → Prop) : Prop := (rf_in y1 47000 ∧ rf_R (d + 1) 66 (9, [(0, .ref rf_o), (1, .int x1), (2, .int x2), (3, .int x3), (4, .int (x4 + Int32.ofInt 1))], [], (rf_sL s 58 y1.toNatClampNeg y0)) (rf_qV Q))
set_option maxRecDepth 20000 in
theorem wr_fill_77_ok {d : Nat} {x1 : Int32} {x2 : Int32} {x3 : Int32} {x4 : Int32} {y0 : Int64} {y1 : Int32} {s : rf_S} {Q : rf_S → Prop} (h : wr_fill_77 d x1 x2 x3 x4 y0 y1 s Q) : rf_R (d + 1) 66 (77, [(0, .ref rf_o), (1, .int x1), (2, .int x2), (3, .int x3), (4, .int x4)], [.long y0, .int y1, .ref (rf_ad 58)], s) (rf_qV Q) := by
  unfold wr_fill_77 at h
  refine rf_R_wv rp_66 (rf_bk am_t66 46 1) 77 [(0, .ref rf_o), (1, .int x1), (2, .int x2), (3, .int x3), (4, .int x4)] [.long y0, .int y1, .ref (rf_ad 58)] s (by repeat (first | exact trivial | refine ⟨rfl, ?_⟩)) (by decide +kernel) ?_
  refine And.intro h.1 ?_
  replace h := h.2
  refine rf_R_wv rp_66 (rf_bk am_t66 47 2) 78 [(0, .ref rf_o), (1, .int x1), (2, .int x2), (3, .int x3), (4, .int x4)] [] (rf_sL s 58 y1.toNatClampNeg y0) (by repeat (first | exact trivial | refine ⟨rfl, ?_⟩)) (by decide +kernel) ?_
  exact rf_R_le (l := [(0, .ref rf_o), (1, .int x1), (2, .int x2), (3, .int x3), (4, .int (x4 + Int32.ofInt 1))]) rfl rfl (⟨rfl, rfl, rfl, rfl, rfl, trivial⟩) h
/-- fill (II)V, from 9 on -/
def wr_fill_9 (d : Nat) (x1 : Int32) (x2 : Int32) (x3 : Int32) (x4 : Int32) (s : rf_S) (Q : rf_S → Prop) : Prop := (rf_in x1 36000 ∧ (((s.2.2.1 52 x1.toNatClampNeg) ≤ x4 → Q s) ∧ (¬ ((s.2.2.1 52 x1.toNatClampNeg) ≤ x4) → (rf_in x1 36001 ∧ ((x3 = 0 → (rf_in x2 2101 ∧ rf_in ((s.2.2.1 20 x2.toNatClampNeg) + x4) 131072 ∧ rf_in (s.2.2.1 21 ((s.2.2.1 20 x2.toNatClampNeg) + x4).toNatClampNeg) 1100 ∧ wr_fill_77 d x1 x2 x3 x4 (s.2.2.2 78 (s.2.2.1 21 ((s.2.2.1 20 x2.toNatClampNeg) + x4).toNatClampNeg).toNatClampNeg) ((s.2.2.1 51 x1.toNatClampNeg) + x4) s Q)) ∧ (¬ (x3 = 0) → (rf_in x2 2100 ∧ rf_in ((s.2.2.1 13 x2.toNatClampNeg) + x4) 9000 ∧ rf_J d 64 [(0, .ref rf_o), (1, .int (s.2.2.1 17 ((s.2.2.1 13 x2.toNatClampNeg) + x4).toNatClampNeg))] s (fun r1 s1 => wr_fill_77 d x1 x2 x3 x4 r1 ((s.2.2.1 51 x1.toNatClampNeg) + x4) s1 Q))))))))
set_option maxRecDepth 20000 in
theorem wr_fill_9_ok {d : Nat} {x1 : Int32} {x2 : Int32} {x3 : Int32} {x4 : Int32} {s : rf_S} {Q : rf_S → Prop} (h : wr_fill_9 d x1 x2 x3 x4 s Q) : rf_R (d + 1) 66 (9, [(0, .ref rf_o), (1, .int x1), (2, .int x2), (3, .int x3), (4, .int x4)], [], s) (rf_qV Q) := by
  unfold wr_fill_9 at h
  refine rf_R_wv rp_66 (rf_bk am_t66 6 6) 9 [(0, .ref rf_o), (1, .int x1), (2, .int x2), (3, .int x3), (4, .int x4)] [] s (by repeat (first | exact trivial | refine ⟨rfl, ?_⟩)) (by decide +kernel) ?_
  refine And.intro h.1 ?_
  replace h := h.2
  refine rf_R_if (b := am_cnd .ge x4 (s.2.2.1 52 x1.toNatClampNeg)) (p := 84) (q := 20) (fun hb => ?_) (fun hb => ?_)
  · replace h := h.1 (of_decide_eq_true hb)
    exact rf_R_ret (pc := 84) rp_66 rfl rfl rfl ⟨rfl, h⟩
  · replace h := h.2 (of_decide_eq_false hb)
    refine rf_R_wv rp_66 (rf_bk am_t66 12 10) 20 [(0, .ref rf_o), (1, .int x1), (2, .int x2), (3, .int x3), (4, .int x4)] [] s (by repeat (first | exact trivial | refine ⟨rfl, ?_⟩)) (by decide +kernel) ?_
    refine And.intro h.1 ?_
    replace h := h.2
    refine rf_R_if (b := am_cnd .eq x3 0) (p := 58) (q := 37) (fun hb => ?_) (fun hb => ?_)
    · replace h := h.1 (of_decide_eq_true hb)
      refine rf_R_wv rp_66 (rf_bk am_t66 34 12) 58 [(0, .ref rf_o), (1, .int x1), (2, .int x2), (3, .int x3), (4, .int x4)] [.int ((s.2.2.1 51 x1.toNatClampNeg) + x4), .ref (rf_ad 58)] s (by repeat (first | exact trivial | refine ⟨rfl, ?_⟩)) (by decide +kernel) ?_
      refine And.intro h.1 ?_
      replace h := h.2
      refine And.intro h.1 ?_
      replace h := h.2
      refine And.intro h.1 ?_
      replace h := h.2
      exact rf_R_le (l := [(0, .ref rf_o), (1, .int x1), (2, .int x2), (3, .int x3), (4, .int x4)]) rfl rfl (⟨rfl, rfl, rfl, rfl, rfl, trivial⟩) (wr_fill_77_ok h)
    · replace h := h.2 (of_decide_eq_false hb)
      refine rf_R_wv rp_66 (rf_bk am_t66 22 10) 37 [(0, .ref rf_o), (1, .int x1), (2, .int x2), (3, .int x3), (4, .int x4)] [.int ((s.2.2.1 51 x1.toNatClampNeg) + x4), .ref (rf_ad 58)] s (by repeat (first | exact trivial | refine ⟨rfl, ?_⟩)) (by decide +kernel) ?_
      refine And.intro h.1 ?_
      replace h := h.2
      refine And.intro h.1 ?_
      replace h := h.2
      refine rf_R_call (pc := 52) (q := ([.ref rf_o, .int (s.2.2.1 17 ((s.2.2.1 13 x2.toNatClampNeg) + x4).toNatClampNeg)], [.int ((s.2.2.1 51 x1.toNatClampNeg) + x4), .ref (rf_ad 58)])) rp_66 rfl rfl (by decide) rp_64 rfl (Nat.le_of_ble_eq_true rfl) ⟨rfl, Nat.le_of_ble_eq_true rfl⟩ h (fun v s1 h => ?_)
      obtain ⟨r1, rfl, h⟩ := h
      refine rf_R_wv rp_66 (rf_bk am_t66 33 1) 55 [(0, .ref rf_o), (1, .int x1), (2, .int x2), (3, .int x3), (4, .int x4)] [.long r1, .int ((s.2.2.1 51 x1.toNatClampNeg) + x4), .ref (rf_ad 58)] s1 (by repeat (first | exact trivial | refine ⟨rfl, ?_⟩)) (by decide +kernel) ?_
      exact rf_R_le (l := [(0, .ref rf_o), (1, .int x1), (2, .int x2), (3, .int x3), (4, .int x4)]) rfl rfl (⟨rfl, rfl, rfl, rfl, rfl, trivial⟩) (wr_fill_77_ok h)
/-- fill (II)V, from 0 on -/
def wr_fill (d : Nat) (x1 : Int32) (x2 : Int32) (s : rf_S) (Q : rf_S → Prop) : Prop := rf_I d 61 [(0, .ref rf_o), (1, .int x2)] s (fun r1 s1 => rf_R (d + 1) 66 (9, [(0, .ref rf_o), (1, .int x1), (2, .int x2), (3, .int r1), (4, .int (Int32.ofInt 0))], [], s1) (rf_qV Q))
set_option maxRecDepth 20000 in
theorem wr_fill_ok {d : Nat} {x1 : Int32} {x2 : Int32} {s : rf_S} {Q : rf_S → Prop} (h : wr_fill d x1 x2 s Q) : rf_V (d + 1) 66 [(0, .ref rf_o), (1, .int x1), (2, .int x2)] s Q := by
  unfold wr_fill at h
  unfold rf_V
  refine rf_R_wv rp_66 (rf_bk am_t66 0 2) 0 [(0, .ref rf_o), (1, .int x1), (2, .int x2)] [] s (by repeat (first | exact trivial | refine ⟨rfl, ?_⟩)) (by decide +kernel) ?_
  refine rf_R_call (pc := 2) (q := ([.ref rf_o, .int x2], [])) rp_66 rfl rfl (by decide) rp_61 rfl (Nat.le_of_ble_eq_true rfl) ⟨rfl, Nat.le_of_ble_eq_true rfl⟩ h (fun v s1 h => ?_)
  obtain ⟨r1, rfl, h⟩ := h
  refine rf_R_wv rp_66 (rf_bk am_t66 3 3) 5 [(0, .ref rf_o), (1, .int x1), (2, .int x2)] [.int r1] s1 (by repeat (first | exact trivial | refine ⟨rfl, ?_⟩)) (by decide +kernel) ?_
  exact rf_R_le (l := [(0, .ref rf_o), (1, .int x1), (2, .int x2), (3, .int r1), (4, .int (Int32.ofInt 0))]) rfl rfl (⟨rfl, rfl, rfl, rfl, rfl, trivial⟩) h
/-- madeInPlace (I)J, from 0 on -/
def wr_madeInPlace (d : Nat) (x1 : Int32) (s : rf_S) (Q : Int64 → rf_S → Prop) : Prop := rf_I d 60 [(0, .ref rf_o), (1, .int x1)] s (fun r1 s1 => ((r1 = 0 → rf_I d 65 [(0, .ref rf_o), (1, .int x1)] s1 (fun r2 s2 => rf_V d 66 [(0, .ref rf_o), (1, .int r2), (2, .int x1)] s2 (fun s3 => rf_J d 44 [(0, .int (Int32.ofInt 3)), (1, .int r2)] s3 (fun r4 s4 => Q r4 s4)))) ∧ (¬ (r1 = 0) → rf_J d 64 [(0, .ref rf_o), (1, .int x1)] s1 (fun r5 s5 => Q r5 s5))))
set_option maxRecDepth 20000 in
theorem wr_madeInPlace_ok {d : Nat} {x1 : Int32} {s : rf_S} {Q : Int64 → rf_S → Prop} (h : wr_madeInPlace d x1 s Q) : rf_J (d + 1) 67 [(0, .ref rf_o), (1, .int x1)] s Q := by
  unfold wr_madeInPlace at h
  unfold rf_J
  refine rf_R_wv rp_67 (rf_bk am_t67 0 2) 0 [(0, .ref rf_o), (1, .int x1)] [] s (by repeat (first | exact trivial | refine ⟨rfl, ?_⟩)) (by decide +kernel) ?_
  refine rf_R_call (pc := 2) (q := ([.ref rf_o, .int x1], [])) rp_67 rfl rfl (by decide) rp_60 rfl (Nat.le_of_ble_eq_true rfl) ⟨rfl, Nat.le_of_ble_eq_true rfl⟩ h (fun v s1 h => ?_)
  obtain ⟨r1, rfl, h⟩ := h
  refine rf_R_wv rp_67 (rf_bk am_t67 3 1) 5 [(0, .ref rf_o), (1, .int x1)] [.int r1] s1 (by repeat (first | exact trivial | refine ⟨rfl, ?_⟩)) (by decide +kernel) ?_
  refine rf_R_if (b := am_cnd .eq r1 0) (p := 14) (q := 8) (fun hb => ?_) (fun hb => ?_)
  · replace h := h.1 (of_decide_eq_true hb)
    refine rf_R_wv rp_67 (rf_bk am_t67 8 2) 14 [(0, .ref rf_o), (1, .int x1)] [] s1 (by repeat (first | exact trivial | refine ⟨rfl, ?_⟩)) (by decide +kernel) ?_
    refine rf_R_call (pc := 16) (q := ([.ref rf_o, .int x1], [])) rp_67 rfl rfl (by decide) rp_65 rfl (Nat.le_of_ble_eq_true rfl) ⟨rfl, Nat.le_of_ble_eq_true rfl⟩ h (fun v s2 h => ?_)
    obtain ⟨r2, rfl, h⟩ := h
    refine rf_R_wv rp_67 (rf_bk am_t67 11 4) 19 [(0, .ref rf_o), (1, .int x1)] [.int r2] s2 (by repeat (first | exact trivial | refine ⟨rfl, ?_⟩)) (by decide +kernel) ?_
    refine rf_R_call (pc := 23) (q := ([.ref rf_o, .int r2, .int x1], [])) rp_67 rfl rfl (by decide) rp_66 rfl (Nat.le_of_ble_eq_true rfl) ⟨rfl, Nat.le_of_ble_eq_true rfl⟩ h (fun v s3 h => ?_)
    obtain ⟨rfl, h⟩ := h
    refine rf_R_wv rp_67 (rf_bk am_t67 16 2) 26 [(2, .int r2), (0, .ref rf_o), (1, .int x1)] [] s3 (by repeat (first | exact trivial | refine ⟨rfl, ?_⟩)) (by decide +kernel) ?_
    refine rf_R_call (pc := 28) (q := ([.int (Int32.ofInt 3), .int r2], [])) rp_67 rfl rfl (by decide) rp_44 rfl (Nat.le_of_ble_eq_true rfl) ⟨rfl, Nat.le_of_ble_eq_true rfl⟩ h (fun v s4 h => ?_)
    obtain ⟨r4, rfl, h⟩ := h
    exact rf_R_ret (pc := 31) (v := some (.long r4)) rp_67 rfl rfl rfl ⟨_, rfl, h⟩
  · replace h := h.2 (of_decide_eq_false hb)
    refine rf_R_wv rp_67 (rf_bk am_t67 4 2) 8 [(0, .ref rf_o), (1, .int x1)] [] s1 (by repeat (first | exact trivial | refine ⟨rfl, ?_⟩)) (by decide +kernel) ?_
    refine rf_R_call (pc := 10) (q := ([.ref rf_o, .int x1], [])) rp_67 rfl rfl (by decide) rp_64 rfl (Nat.le_of_ble_eq_true rfl) ⟨rfl, Nat.le_of_ble_eq_true rfl⟩ h (fun v s5 h => ?_)
    obtain ⟨r5, rfl, h⟩ := h
    exact rf_R_ret (pc := 13) (v := some (.long r5)) rp_67 rfl rfl rfl ⟨_, rfl, h⟩
/-- give (J)V, from 0 on -/
def wr_give (d : Nat) (x1 : Int64) (s : rf_S) (Q : rf_S → Prop) : Prop := Q (rf_si (rf_sj s 77 x1) 74 (Int32.ofInt 2))
set_option maxRecDepth 20000 in
theorem wr_give_ok {d : Nat} {x1 : Int64} {s : rf_S} {Q : rf_S → Prop} (h : wr_give d x1 s Q) : rf_V d 68 [(0, .ref rf_o), (1, .long x1)] s Q := by
  unfold wr_give at h
  unfold rf_V
  refine rf_R_wv rp_68 (rf_bk am_t68 0 3) 0 [(0, .ref rf_o), (1, .long x1)] [] s (by repeat (first | exact trivial | refine ⟨rfl, ?_⟩)) (by decide +kernel) ?_
  refine And.intro rfl ?_
  refine rf_R_wv rp_68 (rf_bk am_t68 3 3) 5 [(0, .ref rf_o), (1, .long x1)] [] (rf_sj s 77 x1) (by repeat (first | exact trivial | refine ⟨rfl, ?_⟩)) (by decide +kernel) ?_
  refine And.intro rfl ?_
  exact rf_R_ret (pc := 10) rp_68 rfl rfl rfl ⟨rfl, h⟩
/-- evaluate (I)V, from 0 on -/
def wr_evaluate (d : Nat) (x1 : Int32) (s : rf_S) (Q : rf_S → Prop) : Prop := Q (rf_si (rf_si s 76 x1) 74 (Int32.ofInt 0))
set_option maxRecDepth 20000 in
theorem wr_evaluate_ok {d : Nat} {x1 : Int32} {s : rf_S} {Q : rf_S → Prop} (h : wr_evaluate d x1 s Q) : rf_V d 69 [(0, .ref rf_o), (1, .int x1)] s Q := by
  unfold wr_evaluate at h
  unfold rf_V
  refine rf_R_wv rp_69 (rf_bk am_t69 0 3) 0 [(0, .ref rf_o), (1, .int x1)] [] s (by repeat (first | exact trivial | refine ⟨rfl, ?_⟩)) (by decide +kernel) ?_
  refine And.intro rfl ?_
  refine rf_R_wv rp_69 (rf_bk am_t69 3 3) 5 [(0, .ref rf_o), (1, .int x1)] [] (rf_si s 76 x1) (by repeat (first | exact trivial | refine ⟨rfl, ?_⟩)) (by decide +kernel) ?_
  refine And.intro rfl ?_
  exact rf_R_ret (pc := 10) rp_69 rfl rfl rfl ⟨rfl, h⟩
/-- evaluateCall (I)V, from 68 on -/
def wr_evaluateCall_68 (d : Nat) (x1 : Int32) (x2 : Int32) (x4 : Int32) (s : rf_S) (Q : rf_S → Prop) : Prop := ((x2 ≤ x4 → rf_V d 55 [(0, .ref rf_o)] s (fun s1 => (rf_in x1 2100 ∧ rf_in (s1.2.2.1 13 x1.toNatClampNeg) 9000 ∧ rf_V d 69 [(0, .ref rf_o), (1, .int (s1.2.2.1 17 (s1.2.2.1 13 x1.toNatClampNeg).toNatClampNeg))] s1 (fun s2 => Q s2)))) ∧ (¬ (x2 ≤ x4) → (rf_in x1 2100 ∧ rf_in ((s.2.2.1 13 x1.toNatClampNeg) + x4) 9000 ∧ rf_J d 67 [(0, .ref rf_o), (1, .int (s.2.2.1 17 ((s.2.2.1 13 x1.toNatClampNeg) + x4).toNatClampNeg))] s (fun r3 s3 => rf_V d 54 [(0, .ref rf_o), (1, .long r3)] s3 (fun s4 => rf_R (d + 1) 70 (68, [(0, .ref rf_o), (1, .int x1), (2, .int x2), (4, .int (x4 + Int32.ofInt 1))], [], s4) (rf_qV Q))))))
set_option maxRecDepth 20000 in
theorem wr_evaluateCall_68_ok {d : Nat} {x1 : Int32} {x2 : Int32} {x4 : Int32} {s : rf_S} {Q : rf_S → Prop} (h : wr_evaluateCall_68 d x1 x2 x4 s Q) : rf_R (d + 1) 70 (68, [(0, .ref rf_o), (1, .int x1), (2, .int x2), (4, .int x4)], [], s) (rf_qV Q) := by
  unfold wr_evaluateCall_68 at h
  refine rf_R_wv rp_70 (rf_bk am_t70 44 3) 68 [(0, .ref rf_o), (1, .int x1), (2, .int x2), (4, .int x4)] [] s (by repeat (first | exact trivial | refine ⟨rfl, ?_⟩)) (by decide +kernel) ?_
  refine rf_R_if (b := am_cnd .ge x4 x2) (p := 102) (q := 74) (fun hb => ?_) (fun hb => ?_)
  · replace h := h.1 (of_decide_eq_true hb)
    refine rf_R_wv rp_70 (rf_bk am_t70 62 1) 102 [(0, .ref rf_o), (1, .int x1), (2, .int x2), (4, .int x4)] [] s (by repeat (first | exact trivial | refine ⟨rfl, ?_⟩)) (by decide +kernel) ?_
    refine rf_R_call (pc := 103) (q := ([.ref rf_o], [])) rp_70 rfl rfl (by decide) rp_55 rfl (Nat.le_of_ble_eq_true rfl) ⟨rfl, Nat.le_of_ble_eq_true rfl⟩ h (fun v s1 h => ?_)
    obtain ⟨rfl, h⟩ := h
    refine rf_R_wv rp_70 (rf_bk am_t70 64 8) 106 [(0, .ref rf_o), (1, .int x1), (2, .int x2), (4, .int x4)] [] s1 (by repeat (first | exact trivial | refine ⟨rfl, ?_⟩)) (by decide +kernel) ?_
    refine And.intro h.1 ?_
    replace h := h.2
    refine And.intro h.1 ?_
    replace h := h.2
    refine rf_R_call (pc := 118) (q := ([.ref rf_o, .int (s1.2.2.1 17 (s1.2.2.1 13 x1.toNatClampNeg).toNatClampNeg)], [])) rp_70 rfl rfl (by decide) rp_69 rfl (Nat.le_of_ble_eq_true rfl) ⟨rfl, Nat.le_of_ble_eq_true rfl⟩ h (fun v s2 h => ?_)
    obtain ⟨rfl, h⟩ := h
    exact rf_R_ret (pc := 121) rp_70 rfl rfl rfl ⟨rfl, h⟩
  · replace h := h.2 (of_decide_eq_false hb)
    refine rf_R_wv rp_70 (rf_bk am_t70 47 11) 74 [(0, .ref rf_o), (1, .int x1), (2, .int x2), (4, .int x4)] [] s (by repeat (first | exact trivial | refine ⟨rfl, ?_⟩)) (by decide +kernel) ?_
    refine And.intro h.1 ?_
    replace h := h.2
    refine And.intro h.1 ?_
    replace h := h.2
    refine rf_R_call (pc := 90) (q := ([.ref rf_o, .int (s.2.2.1 17 ((s.2.2.1 13 x1.toNatClampNeg) + x4).toNatClampNeg)], [.ref rf_o])) rp_70 rfl rfl (by decide) rp_67 rfl (Nat.le_of_ble_eq_true rfl) ⟨rfl, Nat.le_of_ble_eq_true rfl⟩ h (fun v s3 h => ?_)
    obtain ⟨r3, rfl, h⟩ := h
    refine rf_R_call (pc := 93) (q := ([.ref rf_o, .long r3], [])) rp_70 rfl rfl (by decide) rp_54 rfl (Nat.le_of_ble_eq_true rfl) ⟨rfl, Nat.le_of_ble_eq_true rfl⟩ h (fun v s4 h => ?_)
    obtain ⟨rfl, h⟩ := h
    refine rf_R_wv rp_70 (rf_bk am_t70 60 2) 96 [(0, .ref rf_o), (1, .int x1), (2, .int x2), (4, .int x4)] [] s4 (by repeat (first | exact trivial | refine ⟨rfl, ?_⟩)) (by decide +kernel) ?_
    exact rf_R_le (l := [(0, .ref rf_o), (1, .int x1), (2, .int x2), (4, .int (x4 + Int32.ofInt 1))]) rfl rfl (⟨rfl, rfl, rfl, rfl, trivial⟩) h
/-- evaluateCall (I)V, from 12 on -/
def wr_evaluateCall_12 (d : Nat) (x1 : Int32) (x2 : Int32) (x3 : Int32) (x4 : Int32) (s : rf_S) (Q : rf_S → Prop) : Prop := ((x2 ≤ x4 → rf_I d 59 [(0, .ref rf_o), (1, .int ((Int32.ofInt 1) + x2)), (2, .int x3)] s (fun r1 s1 => ((¬ r1 = 0 → rf_V d 53 [(0, .ref rf_o), (1, .int (Int32.ofInt 4)), (2, .int (Int32.ofInt 0)), (3, .int (Int32.ofInt 0)), (4, .int (Int32.ofInt 0))] s1 (fun s2 => rf_R (d + 1) 70 (68, [(0, .ref rf_o), (1, .int x1), (2, .int x2), (4, .int (Int32.ofInt 1))], [], s2) (rf_qV Q))) ∧ (r1 = 0 → Q s1)))) ∧ (¬ (x2 ≤ x4) → (rf_in x1 2100 ∧ rf_in ((s.2.2.1 13 x1.toNatClampNeg) + x4) 9000 ∧ rf_I d 63 [(0, .ref rf_o), (1, .int (s.2.2.1 17 ((s.2.2.1 13 x1.toNatClampNeg) + x4).toNatClampNeg))] s (fun r3 s3 => rf_R (d + 1) 70 (12, [(0, .ref rf_o), (1, .int x1), (2, .int x2), (3, .int (x3 + r3)), (4, .int (x4 + Int32.ofInt 1))], [], s3) (rf_qV Q)))))
set_option maxRecDepth 20000 in
theorem wr_evaluateCall_12_ok {d : Nat} {x1 : Int32} {x2 : Int32} {x3 : Int32} {x4 : Int32} {s : rf_S} {Q : rf_S → Prop} (h : wr_evaluateCall_12 d x1 x2 x3 x4 s Q) : rf_R (d + 1) 70 (12, [(0, .ref rf_o), (1, .int x1), (2, .int x2), (3, .int x3), (4, .int x4)], [], s) (rf_qV Q) := by
  unfold wr_evaluateCall_12 at h
  refine rf_R_wv rp_70 (rf_bk am_t70 9 3) 12 [(0, .ref rf_o), (1, .int x1), (2, .int x2), (3, .int x3), (4, .int x4)] [] s (by repeat (first | exact trivial | refine ⟨rfl, ?_⟩)) (by decide +kernel) ?_
  refine rf_R_if (b := am_cnd .ge x4 x2) (p := 45) (q := 18) (fun hb => ?_) (fun hb => ?_)
  · replace h := h.1 (of_decide_eq_true hb)
    refine rf_R_wv rp_70 (rf_bk am_t70 28 5) 45 [(0, .ref rf_o), (1, .int x1), (2, .int x2), (3, .int x3), (4, .int x4)] [] s (by repeat (first | exact trivial | refine ⟨rfl, ?_⟩)) (by decide +kernel) ?_
    refine rf_R_call (pc := 50) (q := ([.ref rf_o, .int ((Int32.ofInt 1) + x2), .int x3], [])) rp_70 rfl rfl (by decide) rp_59 rfl (Nat.le_of_ble_eq_true rfl) ⟨rfl, Nat.le_of_ble_eq_true rfl⟩ h (fun v s1 h => ?_)
    obtain ⟨r1, rfl, h⟩ := h
    refine rf_R_wv rp_70 (rf_bk am_t70 34 1) 53 [(0, .ref rf_o), (1, .int x1), (2, .int x2), (3, .int x3), (4, .int x4)] [.int r1] s1 (by repeat (first | exact trivial | refine ⟨rfl, ?_⟩)) (by decide +kernel) ?_
    refine rf_R_if (b := am_cnd .ne r1 0) (p := 57) (q := 56) (fun hb => ?_) (fun hb => ?_)
    · replace h := h.1 (of_decide_eq_true hb)
      refine rf_R_wv rp_70 (rf_bk am_t70 36 5) 57 [(0, .ref rf_o), (1, .int x1), (2, .int x2), (3, .int x3), (4, .int x4)] [] s1 (by repeat (first | exact trivial | refine ⟨rfl, ?_⟩)) (by decide +kernel) ?_
      refine rf_R_call (pc := 62) (q := ([.ref rf_o, .int (Int32.ofInt 4), .int (Int32.ofInt 0), .int (Int32.ofInt 0), .int (Int32.ofInt 0)], [])) rp_70 rfl rfl (by decide) rp_53 rfl (Nat.le_of_ble_eq_true rfl) ⟨rfl, Nat.le_of_ble_eq_true rfl⟩ h (fun v s2 h => ?_)
      obtain ⟨rfl, h⟩ := h
      refine rf_R_wv rp_70 (rf_bk am_t70 42 2) 65 [(0, .ref rf_o), (1, .int x1), (2, .int x2), (3, .int x3), (4, .int x4)] [] s2 (by repeat (first | exact trivial | refine ⟨rfl, ?_⟩)) (by decide +kernel) ?_
      exact rf_R_le (l := [(0, .ref rf_o), (1, .int x1), (2, .int x2), (4, .int (Int32.ofInt 1))]) rfl rfl (⟨rfl, rfl, rfl, rfl, trivial⟩) h
    · replace h := h.2 (Decidable.not_not.mp (of_decide_eq_false hb))
      exact rf_R_ret (pc := 56) rp_70 rfl rfl rfl ⟨rfl, h⟩
  · replace h := h.2 (of_decide_eq_false hb)
    refine rf_R_wv rp_70 (rf_bk am_t70 12 11) 18 [(0, .ref rf_o), (1, .int x1), (2, .int x2), (3, .int x3), (4, .int x4)] [] s (by repeat (first | exact trivial | refine ⟨rfl, ?_⟩)) (by decide +kernel) ?_
    refine And.intro h.1 ?_
    replace h := h.2
    refine And.intro h.1 ?_
    replace h := h.2
    refine rf_R_call (pc := 34) (q := ([.ref rf_o, .int (s.2.2.1 17 ((s.2.2.1 13 x1.toNatClampNeg) + x4).toNatClampNeg)], [.int x3])) rp_70 rfl rfl (by decide) rp_63 rfl (Nat.le_of_ble_eq_true rfl) ⟨rfl, Nat.le_of_ble_eq_true rfl⟩ h (fun v s3 h => ?_)
    obtain ⟨r3, rfl, h⟩ := h
    refine rf_R_wv rp_70 (rf_bk am_t70 24 4) 37 [(0, .ref rf_o), (1, .int x1), (2, .int x2), (3, .int x3), (4, .int x4)] [.int r3, .int x3] s3 (by repeat (first | exact trivial | refine ⟨rfl, ?_⟩)) (by decide +kernel) ?_
    exact rf_R_le (l := [(0, .ref rf_o), (1, .int x1), (2, .int x2), (3, .int (x3 + r3)), (4, .int (x4 + Int32.ofInt 1))]) rfl rfl (⟨rfl, rfl, rfl, rfl, rfl, trivial⟩) h
/-- evaluateCall (I)V, from 0 on -/
def wr_evaluateCall (d : Nat) (x1 : Int32) (s : rf_S) (Q : rf_S → Prop) : Prop := (rf_in x1 2100 ∧ rf_R (d + 1) 70 (12, [(0, .ref rf_o), (1, .int x1), (2, .int (s.2.2.1 14 x1.toNatClampNeg)), (3, .int (Int32.ofInt 0)), (4, .int (Int32.ofInt 1))], [], s) (rf_qV Q))
set_option maxRecDepth 20000 in
theorem wr_evaluateCall_ok {d : Nat} {x1 : Int32} {s : rf_S} {Q : rf_S → Prop} (h : wr_evaluateCall d x1 s Q) : rf_V (d + 1) 70 [(0, .ref rf_o), (1, .int x1)] s Q := by
  unfold wr_evaluateCall at h
  unfold rf_V
  refine rf_R_wv rp_70 (rf_bk am_t70 0 9) 0 [(0, .ref rf_o), (1, .int x1)] [] s (by repeat (first | exact trivial | refine ⟨rfl, ?_⟩)) (by decide +kernel) ?_
  refine And.intro h.1 ?_
  replace h := h.2
  exact rf_R_le (l := [(0, .ref rf_o), (1, .int x1), (2, .int (s.2.2.1 14 x1.toNatClampNeg)), (3, .int (Int32.ofInt 0)), (4, .int (Int32.ofInt 1))]) rfl rfl (⟨rfl, rfl, rfl, rfl, rfl, trivial⟩) h
/-- evaluateDatum (I)V, from 114 on -/
def wr_evaluateDatum_114 (d : Nat) (x2 : Int32) (x4 : Int32) (x5 : Int32) (s : rf_S) (Q : rf_S → Prop) : Prop := ((x2 ≤ x5 → rf_J d 44 [(0, .int (Int32.ofInt 3)), (1, .int x4)] s (fun r1 s1 => rf_V d 68 [(0, .ref rf_o), (1, .long r1)] s1 (fun s2 => Q s2))) ∧ (¬ (x2 ≤ x5) → (rf_in x4 36001 ∧ rf_in x5 1100 ∧ rf_in ((s.2.2.1 51 x4.toNatClampNeg) + x5) 47000 ∧ rf_R (d + 1) 71 (114, [(0, .ref rf_o), (2, .int x2), (4, .int x4), (5, .int (x5 + Int32.ofInt 1))], [], (rf_sL s 58 ((s.2.2.1 51 x4.toNatClampNeg) + x5).toNatClampNeg (s.2.2.2 83 x5.toNatClampNeg))) (rf_qV Q))))
set_option maxRecDepth 20000 in
theorem wr_evaluateDatum_114_ok {d : Nat} {x2 : Int32} {x4 : Int32} {x5 : Int32} {s : rf_S} {Q : rf_S → Prop} (h : wr_evaluateDatum_114 d x2 x4 x5 s Q) : rf_R (d + 1) 71 (114, [(0, .ref rf_o), (2, .int x2), (4, .int x4), (5, .int x5)], [], s) (rf_qV Q) := by
  unfold wr_evaluateDatum_114 at h
  refine rf_R_wv rp_71 (rf_bk am_t71 69 3) 114 [(0, .ref rf_o), (2, .int x2), (4, .int x4), (5, .int x5)] [] s (by repeat (first | exact trivial | refine ⟨rfl, ?_⟩)) (by decide +kernel) ?_
  refine rf_R_if (b := am_cnd .ge x5 x2) (p := 148) (q := 120) (fun hb => ?_) (fun hb => ?_)
  · replace h := h.1 (of_decide_eq_true hb)
    refine rf_R_wv rp_71 (rf_bk am_t71 87 3) 148 [(0, .ref rf_o), (2, .int x2), (4, .int x4), (5, .int x5)] [] s (by repeat (first | exact trivial | refine ⟨rfl, ?_⟩)) (by decide +kernel) ?_
    refine rf_R_call (pc := 152) (q := ([.int (Int32.ofInt 3), .int x4], [.ref rf_o])) rp_71 rfl rfl (by decide) rp_44 rfl (Nat.le_of_ble_eq_true rfl) ⟨rfl, Nat.le_of_ble_eq_true rfl⟩ h (fun v s1 h => ?_)
    obtain ⟨r1, rfl, h⟩ := h
    refine rf_R_call (pc := 155) (q := ([.ref rf_o, .long r1], [])) rp_71 rfl rfl (by decide) rp_68 rfl (Nat.le_of_ble_eq_true rfl) ⟨rfl, Nat.le_of_ble_eq_true rfl⟩ h (fun v s2 h => ?_)
    obtain ⟨rfl, h⟩ := h
    exact rf_R_ret (pc := 158) rp_71 rfl rfl rfl ⟨rfl, h⟩
  · replace h := h.2 (of_decide_eq_false hb)
    refine rf_R_wv rp_71 (rf_bk am_t71 72 13) 120 [(0, .ref rf_o), (2, .int x2), (4, .int x4), (5, .int x5)] [] s (by repeat (first | exact trivial | refine ⟨rfl, ?_⟩)) (by decide +kernel) ?_
    refine And.intro h.1 ?_
    replace h := h.2
    refine And.intro h.1 ?_
    replace h := h.2
    refine And.intro h.1 ?_
    replace h := h.2
    refine rf_R_wv rp_71 (rf_bk am_t71 85 2) 142 [(0, .ref rf_o), (2, .int x2), (4, .int x4), (5, .int x5)] [] (rf_sL s 58 ((s.2.2.1 51 x4.toNatClampNeg) + x5).toNatClampNeg (s.2.2.2 83 x5.toNatClampNeg)) (by repeat (first | exact trivial | refine ⟨rfl, ?_⟩)) (by decide +kernel) ?_
    exact rf_R_le (l := [(0, .ref rf_o), (2, .int x2), (4, .int x4), (5, .int (x5 + Int32.ofInt 1))]) rfl rfl (⟨rfl, rfl, rfl, rfl, trivial⟩) h
/-- evaluateDatum (I)V, from 60 on -/
def wr_evaluateDatum_60 (d : Nat) (x1 : Int32) (x2 : Int32) (x4 : Int32) (s : rf_S) (Q : rf_S → Prop) : Prop := ((x2 ≤ x4 → (rf_in x1 2100 ∧ rf_I d 51 [(0, .ref rf_o), (1, .int (Int32.ofInt 4)), (2, .int (s.2.2.1 15 x1.toNatClampNeg)), (3, .int x2)] s (fun r1 s1 => rf_R (d + 1) 71 (114, [(0, .ref rf_o), (2, .int x2), (4, .int r1), (5, .int (Int32.ofInt 0))], [], s1) (rf_qV Q)))) ∧ (¬ (x2 ≤ x4) → (rf_in x1 2100 ∧ rf_in ((s.2.2.1 13 x1.toNatClampNeg) + x4) 9000 ∧ rf_J d 67 [(0, .ref rf_o), (1, .int (s.2.2.1 17 ((s.2.2.1 13 x1.toNatClampNeg) + x4).toNatClampNeg))] s (fun r2 s2 => (rf_in x4 1100 ∧ rf_R (d + 1) 71 (60, [(0, .ref rf_o), (1, .int x1), (2, .int x2), (4, .int (x4 + Int32.ofInt 1))], [], (rf_sL s2 83 x4.toNatClampNeg r2)) (rf_qV Q))))))
set_option maxRecDepth 20000 in
theorem wr_evaluateDatum_60_ok {d : Nat} {x1 : Int32} {x2 : Int32} {x4 : Int32} {s : rf_S} {Q : rf_S → Prop} (h : wr_evaluateDatum_60 d x1 x2 x4 s Q) : rf_R (d + 1) 71 (60, [(0, .ref rf_o), (1, .int x1), (2, .int x2), (4, .int x4)], [], s) (rf_qV Q) := by
  unfold wr_evaluateDatum_60 at h
  refine rf_R_wv rp_71 (rf_bk am_t71 38 3) 60 [(0, .ref rf_o), (1, .int x1), (2, .int x2), (4, .int x4)] [] s (by repeat (first | exact trivial | refine ⟨rfl, ?_⟩)) (by decide +kernel) ?_
  refine rf_R_if (b := am_cnd .ge x4 x2) (p := 97) (q := 66) (fun hb => ?_) (fun hb => ?_)
  · replace h := h.1 (of_decide_eq_true hb)
    refine rf_R_wv rp_71 (rf_bk am_t71 58 7) 97 [(0, .ref rf_o), (1, .int x1), (2, .int x2), (4, .int x4)] [] s (by repeat (first | exact trivial | refine ⟨rfl, ?_⟩)) (by decide +kernel) ?_
    refine And.intro h.1 ?_
    replace h := h.2
    refine rf_R_call (pc := 106) (q := ([.ref rf_o, .int (Int32.ofInt 4), .int (s.2.2.1 15 x1.toNatClampNeg), .int x2], [])) rp_71 rfl rfl (by decide) rp_51 rfl (Nat.le_of_ble_eq_true rfl) ⟨rfl, Nat.le_of_ble_eq_true rfl⟩ h (fun v s1 h => ?_)
    obtain ⟨r1, rfl, h⟩ := h
    refine rf_R_wv rp_71 (rf_bk am_t71 66 3) 109 [(0, .ref rf_o), (1, .int x1), (2, .int x2), (4, .int x4)] [.int r1] s1 (by repeat (first | exact trivial | refine ⟨rfl, ?_⟩)) (by decide +kernel) ?_
    exact rf_R_le (l := [(0, .ref rf_o), (2, .int x2), (4, .int r1), (5, .int (Int32.ofInt 0))]) rfl rfl (⟨rfl, rfl, rfl, rfl, trivial⟩) h
  · replace h := h.2 (of_decide_eq_false hb)
    refine rf_R_wv rp_71 (rf_bk am_t71 41 13) 66 [(0, .ref rf_o), (1, .int x1), (2, .int x2), (4, .int x4)] [] s (by repeat (first | exact trivial | refine ⟨rfl, ?_⟩)) (by decide +kernel) ?_
    refine And.intro h.1 ?_
    replace h := h.2
    refine And.intro h.1 ?_
    replace h := h.2
    refine rf_R_call (pc := 87) (q := ([.ref rf_o, .int (s.2.2.1 17 ((s.2.2.1 13 x1.toNatClampNeg) + x4).toNatClampNeg)], [.int x4, .ref (rf_ad 83)])) rp_71 rfl rfl (by decide) rp_67 rfl (Nat.le_of_ble_eq_true rfl) ⟨rfl, Nat.le_of_ble_eq_true rfl⟩ h (fun v s2 h => ?_)
    obtain ⟨r2, rfl, h⟩ := h
    refine rf_R_wv rp_71 (rf_bk am_t71 55 1) 90 [(0, .ref rf_o), (1, .int x1), (2, .int x2), (4, .int x4)] [.long r2, .int x4, .ref (rf_ad 83)] s2 (by repeat (first | exact trivial | refine ⟨rfl, ?_⟩)) (by decide +kernel) ?_
    refine And.intro h.1 ?_
    replace h := h.2
    refine rf_R_wv rp_71 (rf_bk am_t71 56 2) 91 [(0, .ref rf_o), (1, .int x1), (2, .int x2), (4, .int x4)] [] (rf_sL s2 83 x4.toNatClampNeg r2) (by repeat (first | exact trivial | refine ⟨rfl, ?_⟩)) (by decide +kernel) ?_
    exact rf_R_le (l := [(0, .ref rf_o), (1, .int x1), (2, .int x2), (4, .int (x4 + Int32.ofInt 1))]) rfl rfl (⟨rfl, rfl, rfl, rfl, trivial⟩) h
/-- evaluateDatum (I)V, from 14 on -/
def wr_evaluateDatum_14 (d : Nat) (x1 : Int32) (x2 : Int32) (x3 : Int32) (x4 : Int32) (s : rf_S) (Q : rf_S → Prop) : Prop := ((x2 ≤ x4 → rf_I d 59 [(0, .ref rf_o), (1, .int (Int32.ofInt 0)), (2, .int x3)] s (fun r1 s1 => ((¬ r1 = 0 → rf_R (d + 1) 71 (60, [(0, .ref rf_o), (1, .int x1), (2, .int x2), (4, .int (Int32.ofInt 0))], [], s1) (rf_qV Q)) ∧ (r1 = 0 → Q s1)))) ∧ (¬ (x2 ≤ x4) → (rf_in x1 2100 ∧ rf_in ((s.2.2.1 13 x1.toNatClampNeg) + x4) 9000 ∧ rf_I d 63 [(0, .ref rf_o), (1, .int (s.2.2.1 17 ((s.2.2.1 13 x1.toNatClampNeg) + x4).toNatClampNeg))] s (fun r2 s2 => rf_R (d + 1) 71 (14, [(0, .ref rf_o), (1, .int x1), (2, .int x2), (3, .int (x3 + r2)), (4, .int (x4 + Int32.ofInt 1))], [], s2) (rf_qV Q)))))
set_option maxRecDepth 20000 in
theorem wr_evaluateDatum_14_ok {d : Nat} {x1 : Int32} {x2 : Int32} {x3 : Int32} {x4 : Int32} {s : rf_S} {Q : rf_S → Prop} (h : wr_evaluateDatum_14 d x1 x2 x3 x4 s Q) : rf_R (d + 1) 71 (14, [(0, .ref rf_o), (1, .int x1), (2, .int x2), (3, .int x3), (4, .int x4)], [], s) (rf_qV Q) := by
  unfold wr_evaluateDatum_14 at h
  refine rf_R_wv rp_71 (rf_bk am_t71 11 3) 14 [(0, .ref rf_o), (1, .int x1), (2, .int x2), (3, .int x3), (4, .int x4)] [] s (by repeat (first | exact trivial | refine ⟨rfl, ?_⟩)) (by decide +kernel) ?_
  refine rf_R_if (b := am_cnd .ge x4 x2) (p := 47) (q := 20) (fun hb => ?_) (fun hb => ?_)
  · replace h := h.1 (of_decide_eq_true hb)
    refine rf_R_wv rp_71 (rf_bk am_t71 30 3) 47 [(0, .ref rf_o), (1, .int x1), (2, .int x2), (3, .int x3), (4, .int x4)] [] s (by repeat (first | exact trivial | refine ⟨rfl, ?_⟩)) (by decide +kernel) ?_
    refine rf_R_call (pc := 50) (q := ([.ref rf_o, .int (Int32.ofInt 0), .int x3], [])) rp_71 rfl rfl (by decide) rp_59 rfl (Nat.le_of_ble_eq_true rfl) ⟨rfl, Nat.le_of_ble_eq_true rfl⟩ h (fun v s1 h => ?_)
    obtain ⟨r1, rfl, h⟩ := h
    refine rf_R_wv rp_71 (rf_bk am_t71 34 1) 53 [(0, .ref rf_o), (1, .int x1), (2, .int x2), (3, .int x3), (4, .int x4)] [.int r1] s1 (by repeat (first | exact trivial | refine ⟨rfl, ?_⟩)) (by decide +kernel) ?_
    refine rf_R_if (b := am_cnd .ne r1 0) (p := 57) (q := 56) (fun hb => ?_) (fun hb => ?_)
    · replace h := h.1 (of_decide_eq_true hb)
      refine rf_R_wv rp_71 (rf_bk am_t71 36 2) 57 [(0, .ref rf_o), (1, .int x1), (2, .int x2), (3, .int x3), (4, .int x4)] [] s1 (by repeat (first | exact trivial | refine ⟨rfl, ?_⟩)) (by decide +kernel) ?_
      exact rf_R_le (l := [(0, .ref rf_o), (1, .int x1), (2, .int x2), (4, .int (Int32.ofInt 0))]) rfl rfl (⟨rfl, rfl, rfl, rfl, trivial⟩) h
    · replace h := h.2 (Decidable.not_not.mp (of_decide_eq_false hb))
      exact rf_R_ret (pc := 56) rp_71 rfl rfl rfl ⟨rfl, h⟩
  · replace h := h.2 (of_decide_eq_false hb)
    refine rf_R_wv rp_71 (rf_bk am_t71 14 11) 20 [(0, .ref rf_o), (1, .int x1), (2, .int x2), (3, .int x3), (4, .int x4)] [] s (by repeat (first | exact trivial | refine ⟨rfl, ?_⟩)) (by decide +kernel) ?_
    refine And.intro h.1 ?_
    replace h := h.2
    refine And.intro h.1 ?_
    replace h := h.2
    refine rf_R_call (pc := 36) (q := ([.ref rf_o, .int (s.2.2.1 17 ((s.2.2.1 13 x1.toNatClampNeg) + x4).toNatClampNeg)], [.int x3])) rp_71 rfl rfl (by decide) rp_63 rfl (Nat.le_of_ble_eq_true rfl) ⟨rfl, Nat.le_of_ble_eq_true rfl⟩ h (fun v s2 h => ?_)
    obtain ⟨r2, rfl, h⟩ := h
    refine rf_R_wv rp_71 (rf_bk am_t71 26 4) 39 [(0, .ref rf_o), (1, .int x1), (2, .int x2), (3, .int x3), (4, .int x4)] [.int r2, .int x3] s2 (by repeat (first | exact trivial | refine ⟨rfl, ?_⟩)) (by decide +kernel) ?_
    exact rf_R_le (l := [(0, .ref rf_o), (1, .int x1), (2, .int x2), (3, .int (x3 + r2)), (4, .int (x4 + Int32.ofInt 1))]) rfl rfl (⟨rfl, rfl, rfl, rfl, rfl, trivial⟩) h
/-- evaluateDatum (I)V, from 0 on -/
def wr_evaluateDatum (d : Nat) (x1 : Int32) (s : rf_S) (Q : rf_S → Prop) : Prop := (rf_in x1 2100 ∧ rf_R (d + 1) 71 (14, [(0, .ref rf_o), (1, .int x1), (2, .int (s.2.2.1 14 x1.toNatClampNeg)), (3, .int ((Int32.ofInt 2) + (s.2.2.1 14 x1.toNatClampNeg))), (4, .int (Int32.ofInt 0))], [], s) (rf_qV Q))
set_option maxRecDepth 20000 in
theorem wr_evaluateDatum_ok {d : Nat} {x1 : Int32} {s : rf_S} {Q : rf_S → Prop} (h : wr_evaluateDatum d x1 s Q) : rf_V (d + 1) 71 [(0, .ref rf_o), (1, .int x1)] s Q := by
  unfold wr_evaluateDatum at h
  unfold rf_V
  refine rf_R_wv rp_71 (rf_bk am_t71 0 11) 0 [(0, .ref rf_o), (1, .int x1)] [] s (by repeat (first | exact trivial | refine ⟨rfl, ?_⟩)) (by decide +kernel) ?_
  refine And.intro h.1 ?_
  replace h := h.2
  exact rf_R_le (l := [(0, .ref rf_o), (1, .int x1), (2, .int (s.2.2.1 14 x1.toNatClampNeg)), (3, .int ((Int32.ofInt 2) + (s.2.2.1 14 x1.toNatClampNeg))), (4, .int (Int32.ofInt 0))]) rfl rfl (⟨rfl, rfl, rfl, rfl, rfl, trivial⟩) h
/-- evaluateLet (I)V, from 120 on -/
def wr_evaluateLet_120 (d : Nat) (x1 : Int32) (x2 : Int32) (x3 : Int32) (x5 : Int32) (s : rf_S) (Q : rf_S → Prop) : Prop := ((x3 ≤ x5 → (rf_in x1 2100 ∧ rf_V d 69 [(0, .ref rf_o), (1, .int (s.2.2.1 15 x1.toNatClampNeg))] s (fun s1 => Q s1))) ∧ (¬ (x3 ≤ x5) → (rf_in (x2 + ((Int32.ofInt 2) * x5)) 9000 ∧ rf_in (s.2.2.1 17 (x2 + ((Int32.ofInt 2) * x5)).toNatClampNeg) 1100 ∧ (rf_in ((x2 + ((Int32.ofInt 2) * x5)) + (Int32.ofInt 1)) 9000 ∧ rf_V d 66 [(0, .ref rf_o), (1, .int ((s.2.2.2 78 (s.2.2.1 17 (x2 + ((Int32.ofInt 2) * x5)).toNatClampNeg).toNatClampNeg).toInt32)), (2, .int (s.2.2.1 17 ((x2 + ((Int32.ofInt 2) * x5)) + (Int32.ofInt 1)).toNatClampNeg))] s (fun s2 => rf_R (d + 1) 72 (120, [(0, .ref rf_o), (1, .int x1), (2, .int x2), (3, .int x3), (5, .int (x5 + Int32.ofInt 1))], [], s2) (rf_qV Q))))))
set_option maxRecDepth 20000 in
theorem wr_evaluateLet_120_ok {d : Nat} {x1 : Int32} {x2 : Int32} {x3 : Int32} {x5 : Int32} {s : rf_S} {Q : rf_S → Prop} (h : wr_evaluateLet_120 d x1 x2 x3 x5 s Q) : rf_R (d + 1) 72 (120, [(0, .ref rf_o), (1, .int x1), (2, .int x2), (3, .int x3), (5, .int x5)], [], s) (rf_qV Q) := by
  unfold wr_evaluateLet_120 at h
  refine rf_R_wv rp_72 (rf_bk am_t72 74 3) 120 [(0, .ref rf_o), (1, .int x1), (2, .int x2), (3, .int x3), (5, .int x5)] [] s (by repeat (first | exact trivial | refine ⟨rfl, ?_⟩)) (by decide +kernel) ?_
  refine rf_R_if (b := am_cnd .ge x5 x3) (p := 166) (q := 126) (fun hb => ?_) (fun hb => ?_)
  · replace h := h.1 (of_decide_eq_true hb)
    refine rf_R_wv rp_72 (rf_bk am_t72 103 5) 166 [(0, .ref rf_o), (1, .int x1), (2, .int x2), (3, .int x3), (5, .int x5)] [] s (by repeat (first | exact trivial | refine ⟨rfl, ?_⟩)) (by decide +kernel) ?_
    refine And.intro h.1 ?_
    replace h := h.2
    refine rf_R_call (pc := 173) (q := ([.ref rf_o, .int (s.2.2.1 15 x1.toNatClampNeg)], [])) rp_72 rfl rfl (by decide) rp_69 rfl (Nat.le_of_ble_eq_true rfl) ⟨rfl, Nat.le_of_ble_eq_true rfl⟩ h (fun v s1 h => ?_)
    obtain ⟨rfl, h⟩ := h
    exact rf_R_ret (pc := 176) rp_72 rfl rfl rfl ⟨rfl, h⟩
  · replace h := h.2 (of_decide_eq_false hb)
    refine rf_R_wv rp_72 (rf_bk am_t72 77 14) 126 [(0, .ref rf_o), (1, .int x1), (2, .int x2), (3, .int x3), (5, .int x5)] [] s (by repeat (first | exact trivial | refine ⟨rfl, ?_⟩)) (by decide +kernel) ?_
    refine And.intro h.1 ?_
    replace h := h.2
    refine And.intro h.1 ?_
    replace h := h.2
    refine rf_R_wv rp_72 (rf_bk am_t72 91 9) 145 [(0, .ref rf_o), (1, .int x1), (2, .int x2), (3, .int x3), (5, .int x5)] [.ref rf_o, .int ((s.2.2.2 78 (s.2.2.1 17 (x2 + ((Int32.ofInt 2) * x5)).toNatClampNeg).toNatClampNeg).toInt32), .ref rf_o] s (by repeat (first | exact trivial | refine ⟨rfl, ?_⟩)) (by decide +kernel) ?_
    refine And.intro h.1 ?_
    replace h := h.2
    refine rf_R_call (pc := 157) (q := ([.ref rf_o, .int ((s.2.2.2 78 (s.2.2.1 17 (x2 + ((Int32.ofInt 2) * x5)).toNatClampNeg).toNatClampNeg).toInt32), .int (s.2.2.1 17 ((x2 + ((Int32.ofInt 2) * x5)) + (Int32.ofInt 1)).toNatClampNeg)], [])) rp_72 rfl rfl (by decide) rp_66 rfl (Nat.le_of_ble_eq_true rfl) ⟨rfl, Nat.le_of_ble_eq_true rfl⟩ h (fun v s2 h => ?_)
    obtain ⟨rfl, h⟩ := h
    refine rf_R_wv rp_72 (rf_bk am_t72 101 2) 160 [(0, .ref rf_o), (1, .int x1), (2, .int x2), (3, .int x3), (5, .int x5)] [] s2 (by repeat (first | exact trivial | refine ⟨rfl, ?_⟩)) (by decide +kernel) ?_
    exact rf_R_le (l := [(0, .ref rf_o), (1, .int x1), (2, .int x2), (3, .int x3), (5, .int (x5 + Int32.ofInt 1))]) rfl rfl (⟨rfl, rfl, rfl, rfl, rfl, trivial⟩) h
/-- evaluateLet (I)V, from 68 on -/
def wr_evaluateLet_68 (d : Nat) (x1 : Int32) (x2 : Int32) (x3 : Int32) (x5 : Int32) (s : rf_S) (Q : rf_S → Prop) : Prop := ((x3 ≤ x5 → rf_R (d + 1) 72 (120, [(0, .ref rf_o), (1, .int x1), (2, .int x2), (3, .int x3), (5, .int (Int32.ofInt 0))], [], s) (rf_qV Q)) ∧ (¬ (x3 ≤ x5) → (rf_in (x2 + ((Int32.ofInt 2) * x5)) 9000 ∧ (rf_in ((x2 + ((Int32.ofInt 2) * x5)) + (Int32.ofInt 1)) 9000 ∧ rf_I d 65 [(0, .ref rf_o), (1, .int (s.2.2.1 17 ((x2 + ((Int32.ofInt 2) * x5)) + (Int32.ofInt 1)).toNatClampNeg))] s (fun r1 s1 => rf_J d 44 [(0, .int (Int32.ofInt 3)), (1, .int r1)] s1 (fun r2 s2 => (rf_in (s.2.2.1 17 (x2 + ((Int32.ofInt 2) * x5)).toNatClampNeg) 1100 ∧ rf_R (d + 1) 72 (68, [(0, .ref rf_o), (1, .int x1), (2, .int x2), (3, .int x3), (5, .int (x5 + Int32.ofInt 1))], [], (rf_sL s2 78 (s.2.2.1 17 (x2 + ((Int32.ofInt 2) * x5)).toNatClampNeg).toNatClampNeg r2)) (rf_qV Q))))))))
set_option maxRecDepth 20000 in
theorem wr_evaluateLet_68_ok {d : Nat} {x1 : Int32} {x2 : Int32} {x3 : Int32} {x5 : Int32} {s : rf_S} {Q : rf_S → Prop} (h : wr_evaluateLet_68 d x1 x2 x3 x5 s Q) : rf_R (d + 1) 72 (68, [(0, .ref rf_o), (1, .int x1), (2, .int x2), (3, .int x3), (5, .int x5)], [], s) (rf_qV Q) := by
  unfold wr_evaluateLet_68 at h
  refine rf_R_wv rp_72 (rf_bk am_t72 42 3) 68 [(0, .ref rf_o), (1, .int x1), (2, .int x2), (3, .int x3), (5, .int x5)] [] s (by repeat (first | exact trivial | refine ⟨rfl, ?_⟩)) (by decide +kernel) ?_
  refine rf_R_if (b := am_cnd .ge x5 x3) (p := 117) (q := 74) (fun hb => ?_) (fun hb => ?_)
  · replace h := h.1 (of_decide_eq_true hb)
    refine rf_R_wv rp_72 (rf_bk am_t72 72 2) 117 [(0, .ref rf_o), (1, .int x1), (2, .int x2), (3, .int x3), (5, .int x5)] [] s (by repeat (first | exact trivial | refine ⟨rfl, ?_⟩)) (by decide +kernel) ?_
    exact rf_R_le (l := [(0, .ref rf_o), (1, .int x1), (2, .int x2), (3, .int x3), (5, .int (Int32.ofInt 0))]) rfl rfl (⟨rfl, rfl, rfl, rfl, rfl, trivial⟩) h
  · replace h := h.2 (of_decide_eq_false hb)
    refine rf_R_wv rp_72 (rf_bk am_t72 45 14) 74 [(0, .ref rf_o), (1, .int x1), (2, .int x2), (3, .int x3), (5, .int x5)] [] s (by repeat (first | exact trivial | refine ⟨rfl, ?_⟩)) (by decide +kernel) ?_
    refine And.intro h.1 ?_
    replace h := h.2
    refine rf_R_wv rp_72 (rf_bk am_t72 59 8) 95 [(0, .ref rf_o), (1, .int x1), (2, .int x2), (3, .int x3), (5, .int x5)] [.ref (rf_ad 17), .ref rf_o, .int (Int32.ofInt 3), .int (s.2.2.1 17 (x2 + ((Int32.ofInt 2) * x5)).toNatClampNeg), .ref (rf_ad 78)] s (by repeat (first | exact trivial | refine ⟨rfl, ?_⟩)) (by decide +kernel) ?_
    refine And.intro h.1 ?_
    replace h := h.2
    refine rf_R_call (pc := 104) (q := ([.ref rf_o, .int (s.2.2.1 17 ((x2 + ((Int32.ofInt 2) * x5)) + (Int32.ofInt 1)).toNatClampNeg)], [.int (Int32.ofInt 3), .int (s.2.2.1 17 (x2 + ((Int32.ofInt 2) * x5)).toNatClampNeg), .ref (rf_ad 78)])) rp_72 rfl rfl (by decide) rp_65 rfl (Nat.le_of_ble_eq_true rfl) ⟨rfl, Nat.le_of_ble_eq_true rfl⟩ h (fun v s1 h => ?_)
    obtain ⟨r1, rfl, h⟩ := h
    refine rf_R_call (pc := 107) (q := ([.int (Int32.ofInt 3), .int r1], [.int (s.2.2.1 17 (x2 + ((Int32.ofInt 2) * x5)).toNatClampNeg), .ref (rf_ad 78)])) rp_72 rfl rfl (by decide) rp_44 rfl (Nat.le_of_ble_eq_true rfl) ⟨rfl, Nat.le_of_ble_eq_true rfl⟩ h (fun v s2 h => ?_)
    obtain ⟨r2, rfl, h⟩ := h
    refine rf_R_wv rp_72 (rf_bk am_t72 69 1) 110 [(0, .ref rf_o), (1, .int x1), (2, .int x2), (3, .int x3), (5, .int x5)] [.long r2, .int (s.2.2.1 17 (x2 + ((Int32.ofInt 2) * x5)).toNatClampNeg), .ref (rf_ad 78)] s2 (by repeat (first | exact trivial | refine ⟨rfl, ?_⟩)) (by decide +kernel) ?_
    refine And.intro h.1 ?_
    replace h := h.2
    refine rf_R_wv rp_72 (rf_bk am_t72 70 2) 111 [(0, .ref rf_o), (1, .int x1), (2, .int x2), (3, .int x3), (5, .int x5)] [] (rf_sL s2 78 (s.2.2.1 17 (x2 + ((Int32.ofInt 2) * x5)).toNatClampNeg).toNatClampNeg r2) (by repeat (first | exact trivial | refine ⟨rfl, ?_⟩)) (by decide +kernel) ?_
    exact rf_R_le (l := [(0, .ref rf_o), (1, .int x1), (2, .int x2), (3, .int x3), (5, .int (x5 + Int32.ofInt 1))]) rfl rfl (⟨rfl, rfl, rfl, rfl, rfl, trivial⟩) h
/-- evaluateLet (I)V, from 20 on -/
def wr_evaluateLet_20 (d : Nat) (x1 : Int32) (x2 : Int32) (x3 : Int32) (x4 : Int32) (x5 : Int32) (s : rf_S) (Q : rf_S → Prop) : Prop := ((x3 ≤ x5 → rf_I d 59 [(0, .ref rf_o), (1, .int (Int32.ofInt 0)), (2, .int x4)] s (fun r1 s1 => ((¬ r1 = 0 → rf_R (d + 1) 72 (68, [(0, .ref rf_o), (1, .int x1), (2, .int x2), (3, .int x3), (5, .int (Int32.ofInt 0))], [], s1) (rf_qV Q)) ∧ (r1 = 0 → Q s1)))) ∧ (¬ (x3 ≤ x5) → (rf_in ((x2 + ((Int32.ofInt 2) * x5)) + (Int32.ofInt 1)) 9000 ∧ rf_I d 62 [(0, .ref rf_o), (1, .int (s.2.2.1 17 ((x2 + ((Int32.ofInt 2) * x5)) + (Int32.ofInt 1)).toNatClampNeg))] s (fun r2 s2 => rf_R (d + 1) 72 (20, [(0, .ref rf_o), (1, .int x1), (2, .int x2), (3, .int x3), (4, .int (x4 + r2)), (5, .int (x5 + Int32.ofInt 1))], [], s2) (rf_qV Q)))))
set_option maxRecDepth 20000 in
theorem wr_evaluateLet_20_ok {d : Nat} {x1 : Int32} {x2 : Int32} {x3 : Int32} {x4 : Int32} {x5 : Int32} {s : rf_S} {Q : rf_S → Prop} (h : wr_evaluateLet_20 d x1 x2 x3 x4 x5 s Q) : rf_R (d + 1) 72 (20, [(0, .ref rf_o), (1, .int x1), (2, .int x2), (3, .int x3), (4, .int x4), (5, .int x5)], [], s) (rf_qV Q) := by
  unfold wr_evaluateLet_20 at h
  refine rf_R_wv rp_72 (rf_bk am_t72 14 3) 20 [(0, .ref rf_o), (1, .int x1), (2, .int x2), (3, .int x3), (4, .int x4), (5, .int x5)] [] s (by repeat (first | exact trivial | refine ⟨rfl, ?_⟩)) (by decide +kernel) ?_
  refine rf_R_if (b := am_cnd .ge x5 x3) (p := 54) (q := 26) (fun hb => ?_) (fun hb => ?_)
  · replace h := h.1 (of_decide_eq_true hb)
    refine rf_R_wv rp_72 (rf_bk am_t72 34 3) 54 [(0, .ref rf_o), (1, .int x1), (2, .int x2), (3, .int x3), (4, .int x4), (5, .int x5)] [] s (by repeat (first | exact trivial | refine ⟨rfl, ?_⟩)) (by decide +kernel) ?_
    refine rf_R_call (pc := 58) (q := ([.ref rf_o, .int (Int32.ofInt 0), .int x4], [])) rp_72 rfl rfl (by decide) rp_59 rfl (Nat.le_of_ble_eq_true rfl) ⟨rfl, Nat.le_of_ble_eq_true rfl⟩ h (fun v s1 h => ?_)
    obtain ⟨r1, rfl, h⟩ := h
    refine rf_R_wv rp_72 (rf_bk am_t72 38 1) 61 [(0, .ref rf_o), (1, .int x1), (2, .int x2), (3, .int x3), (4, .int x4), (5, .int x5)] [.int r1] s1 (by repeat (first | exact trivial | refine ⟨rfl, ?_⟩)) (by decide +kernel) ?_
    refine rf_R_if (b := am_cnd .ne r1 0) (p := 65) (q := 64) (fun hb => ?_) (fun hb => ?_)
    · replace h := h.1 (of_decide_eq_true hb)
      refine rf_R_wv rp_72 (rf_bk am_t72 40 2) 65 [(0, .ref rf_o), (1, .int x1), (2, .int x2), (3, .int x3), (4, .int x4), (5, .int x5)] [] s1 (by repeat (first | exact trivial | refine ⟨rfl, ?_⟩)) (by decide +kernel) ?_
      exact rf_R_le (l := [(0, .ref rf_o), (1, .int x1), (2, .int x2), (3, .int x3), (5, .int (Int32.ofInt 0))]) rfl rfl (⟨rfl, rfl, rfl, rfl, rfl, trivial⟩) h
    · replace h := h.2 (Decidable.not_not.mp (of_decide_eq_false hb))
      exact rf_R_ret (pc := 64) rp_72 rfl rfl rfl ⟨rfl, h⟩
  · replace h := h.2 (of_decide_eq_false hb)
    refine rf_R_wv rp_72 (rf_bk am_t72 17 12) 26 [(0, .ref rf_o), (1, .int x1), (2, .int x2), (3, .int x3), (4, .int x4), (5, .int x5)] [] s (by repeat (first | exact trivial | refine ⟨rfl, ?_⟩)) (by decide +kernel) ?_
    refine And.intro h.1 ?_
    replace h := h.2
    refine rf_R_call (pc := 42) (q := ([.ref rf_o, .int (s.2.2.1 17 ((x2 + ((Int32.ofInt 2) * x5)) + (Int32.ofInt 1)).toNatClampNeg)], [.int x4])) rp_72 rfl rfl (by decide) rp_62 rfl (Nat.le_of_ble_eq_true rfl) ⟨rfl, Nat.le_of_ble_eq_true rfl⟩ h (fun v s2 h => ?_)
    obtain ⟨r2, rfl, h⟩ := h
    refine rf_R_wv rp_72 (rf_bk am_t72 30 4) 45 [(0, .ref rf_o), (1, .int x1), (2, .int x2), (3, .int x3), (4, .int x4), (5, .int x5)] [.int r2, .int x4] s2 (by repeat (first | exact trivial | refine ⟨rfl, ?_⟩)) (by decide +kernel) ?_
    exact rf_R_le (l := [(0, .ref rf_o), (1, .int x1), (2, .int x2), (3, .int x3), (4, .int (x4 + r2)), (5, .int (x5 + Int32.ofInt 1))]) rfl rfl (⟨rfl, rfl, rfl, rfl, rfl, rfl, trivial⟩) h
/-- evaluateLet (I)V, from 0 on -/
def wr_evaluateLet (d : Nat) (x1 : Int32) (s : rf_S) (Q : rf_S → Prop) : Prop := (rf_in x1 2100 ∧ rf_in x1 2100 ∧ rf_R (d + 1) 72 (20, [(0, .ref rf_o), (1, .int x1), (2, .int (s.2.2.1 13 x1.toNatClampNeg)), (3, .int (s.2.2.1 14 x1.toNatClampNeg)), (4, .int (Int32.ofInt 0)), (5, .int (Int32.ofInt 0))], [], s) (rf_qV Q))
set_option maxRecDepth 20000 in
theorem wr_evaluateLet_ok {d : Nat} {x1 : Int32} {s : rf_S} {Q : rf_S → Prop} (h : wr_evaluateLet d x1 s Q) : rf_V (d + 1) 72 [(0, .ref rf_o), (1, .int x1)] s Q := by
  unfold wr_evaluateLet at h
  unfold rf_V
  refine rf_R_wv rp_72 (rf_bk am_t72 0 14) 0 [(0, .ref rf_o), (1, .int x1)] [] s (by repeat (first | exact trivial | refine ⟨rfl, ?_⟩)) (by decide +kernel) ?_
  refine And.intro h.1 ?_
  replace h := h.2
  refine And.intro h.1 ?_
  replace h := h.2
  exact rf_R_le (l := [(0, .ref rf_o), (1, .int x1), (2, .int (s.2.2.1 13 x1.toNatClampNeg)), (3, .int (s.2.2.1 14 x1.toNatClampNeg)), (4, .int (Int32.ofInt 0)), (5, .int (Int32.ofInt 0))]) rfl rfl (⟨rfl, rfl, rfl, rfl, rfl, rfl, trivial⟩) h
/-- evaluates ()V, from 73 on -/
def wr_evaluates_73 (d : Nat) (x1 : Int32) (s : rf_S) (Q : rf_S → Prop) : Prop := rf_J d 64 [(0, .ref rf_o), (1, .int x1)] s (fun r1 s1 => rf_V d 68 [(0, .ref rf_o), (1, .long r1)] s1 (fun s2 => Q s2))
set_option maxRecDepth 20000 in
theorem wr_evaluates_73_ok {d : Nat} {x1 : Int32} {s : rf_S} {Q : rf_S → Prop} (h : wr_evaluates_73 d x1 s Q) : rf_R (d + 1) 73 (73, [(0, .ref rf_o), (1, .int x1)], [], s) (rf_qV Q) := by
  unfold wr_evaluates_73 at h
  refine rf_R_wv rp_73 (rf_bk am_t73 17 3) 73 [(0, .ref rf_o), (1, .int x1)] [] s (by repeat (first | exact trivial | refine ⟨rfl, ?_⟩)) (by decide +kernel) ?_
  refine rf_R_call (pc := 76) (q := ([.ref rf_o, .int x1], [.ref rf_o])) rp_73 rfl rfl (by decide) rp_64 rfl (Nat.le_of_ble_eq_true rfl) ⟨rfl, Nat.le_of_ble_eq_true rfl⟩ h (fun v s1 h => ?_)
  obtain ⟨r1, rfl, h⟩ := h
  refine rf_R_call (pc := 79) (q := ([.ref rf_o, .long r1], [])) rp_73 rfl rfl (by decide) rp_68 rfl (Nat.le_of_ble_eq_true rfl) ⟨rfl, Nat.le_of_ble_eq_true rfl⟩ h (fun v s2 h => ?_)
  obtain ⟨rfl, h⟩ := h
  refine rf_R_wv rp_73 (rf_bk am_t73 22 1) 82 [(0, .ref rf_o), (1, .int x1)] [] s2 (by repeat (first | exact trivial | refine ⟨rfl, ?_⟩)) (by decide +kernel) ?_
  exact rf_R_ret (pc := 240) rp_73 rfl rfl rfl ⟨rfl, h⟩
/-- evaluates ()V, from 0 on -/
def wr_evaluates (d : Nat) (s : rf_S) (Q : rf_S → Prop) : Prop := (rf_in (s.1 76) 2100 ∧ (((s.2.2.1 12 (s.1 76).toNatClampNeg) = 0 → rf_J d 64 [(0, .ref rf_o), (1, .int (s.1 76))] s (fun r1 s1 => Q (rf_si (rf_sj s1 77 r1) 74 (Int32.ofInt 1)))) ∧ (¬ ((s.2.2.1 12 (s.1 76).toNatClampNeg) = 0) → (((s.2.2.1 12 (s.1 76).toNatClampNeg) = 1 → wr_evaluates_73 d (s.1 76) s Q) ∧ (¬ ((s.2.2.1 12 (s.1 76).toNatClampNeg) = 1) → (((s.2.2.1 12 (s.1 76).toNatClampNeg) = 2 → wr_evaluates_73 d (s.1 76) s Q) ∧ (¬ ((s.2.2.1 12 (s.1 76).toNatClampNeg) = 2) → (((s.2.2.1 12 (s.1 76).toNatClampNeg) = 3 → rf_I d 62 [(0, .ref rf_o), (1, .int (s.1 76))] s (fun r2 s2 => rf_I d 59 [(0, .ref rf_o), (1, .int (Int32.ofInt 0)), (2, .int r2)] s2 (fun r3 s3 => ((r3 = 0 → Q s3) ∧ (¬ (r3 = 0) → rf_J d 67 [(0, .ref rf_o), (1, .int (s.1 76))] s3 (fun r4 s4 => rf_V d 68 [(0, .ref rf_o), (1, .long r4)] s4 (fun s5 => Q s5))))))) ∧ (¬ ((s.2.2.1 12 (s.1 76).toNatClampNeg) = 3) → (((s.2.2.1 12 (s.1 76).toNatClampNeg) = 4 → rf_V d 71 [(0, .ref rf_o), (1, .int (s.1 76))] s (fun s6 => Q s6)) ∧ (¬ ((s.2.2.1 12 (s.1 76).toNatClampNeg) = 4) → (((s.2.2.1 12 (s.1 76).toNatClampNeg) = 5 → rf_V d 70 [(0, .ref rf_o), (1, .int (s.1 76))] s (fun s7 => Q s7)) ∧ (¬ ((s.2.2.1 12 (s.1 76).toNatClampNeg) = 5) → (((s.2.2.1 12 (s.1 76).toNatClampNeg) = 6 → rf_V d 72 [(0, .ref rf_o), (1, .int (s.1 76))] s (fun s8 => Q s8)) ∧ (¬ ((s.2.2.1 12 (s.1 76).toNatClampNeg) = 6) → (((s.2.2.1 12 (s.1 76).toNatClampNeg) = 7 → (rf_in (s.1 76) 2100 ∧ rf_I d 43 [(0, .ref rf_o), (1, .int (s.2.2.1 14 (s.1 76).toNatClampNeg))] s (fun r9 s9 => rf_I d 59 [(0, .ref rf_o), (1, .int ((Int32.ofInt 2) + r9)), (2, .int (Int32.ofInt 0))] s9 (fun r10 s10 => ((¬ r10 = 0 → (rf_in (s.1 76) 2100 ∧ rf_V d 53 [(0, .ref rf_o), (1, .int (Int32.ofInt 1)), (2, .int (s10.2.2.1 14 (s.1 76).toNatClampNeg)), (3, .int (Int32.ofInt 0)), (4, .int (Int32.ofInt 0))] s10 (fun s11 => (rf_in (s.1 76) 2100 ∧ rf_V d 56 [(0, .ref rf_o), (1, .int (s11.2.2.1 14 (s.1 76).toNatClampNeg))] s11 (fun s12 => (rf_in (s.1 76) 2100 ∧ rf_V d 69 [(0, .ref rf_o), (1, .int (s12.2.2.1 13 (s.1 76).toNatClampNeg))] s12 (fun s13 => Q s13))))))) ∧ (r10 = 0 → Q s10)))))) ∧ (¬ ((s.2.2.1 12 (s.1 76).toNatClampNeg) = 7) → (rf_in (s.1 76) 2100 ∧ rf_I d 43 [(0, .ref rf_o), (1, .int (s.2.2.1 15 (s.1 76).toNatClampNeg))] s (fun r14 s14 => rf_I d 59 [(0, .ref rf_o), (1, .int ((Int32.ofInt 2) + r14)), (2, .int (Int32.ofInt 0))] s14 (fun r15 s15 => ((¬ r15 = 0 → rf_V d 53 [(0, .ref rf_o), (1, .int (Int32.ofInt 2)), (2, .int (s.1 76)), (3, .int (Int32.ofInt 0)), (4, .int (Int32.ofInt 0))] s15 (fun s16 => (rf_in (s.1 76) 2100 ∧ rf_V d 56 [(0, .ref rf_o), (1, .int (s16.2.2.1 15 (s.1 76).toNatClampNeg))] s16 (fun s17 => (rf_in (s.1 76) 2100 ∧ rf_V d 69 [(0, .ref rf_o), (1, .int (s17.2.2.1 14 (s.1 76).toNatClampNeg))] s17 (fun s18 => Q s18)))))) ∧ (r15 = 0 → Q s15))))))))))))))))))))))
set_option maxRecDepth 20000 in
theorem wr_evaluates_ok {d : Nat} {s : rf_S} {Q : rf_S → Prop} (h : wr_evaluates d s Q) : rf_V (d + 1) 73 [(0, .ref rf_o)] s Q := by
  unfold wr_evaluates at h
  unfold rf_V
  refine rf_R_wv rp_73 (rf_bk am_t73 0 8) 0 [(0, .ref rf_o)] [] s (by repeat (first | exact trivial | refine ⟨rfl, ?_⟩)) (by decide +kernel) ?_
  refine And.intro h.1 ?_
  replace h := h.2
  refine rf_R_sw (fun hb => ?_) (fun hb => ?_)
  · replace h := h.1 hb
    refine rf_R_wv rp_73 (rf_bk am_t73 8 3) 56 [(1, .int (s.1 76)), (0, .ref rf_o)] [] s (by repeat (first | exact trivial | refine ⟨rfl, ?_⟩)) (by decide +kernel) ?_
    refine rf_R_call (pc := 59) (q := ([.ref rf_o, .int (s.1 76)], [.ref rf_o])) rp_73 rfl rfl (by decide) rp_64 rfl (Nat.le_of_ble_eq_true rfl) ⟨rfl, Nat.le_of_ble_eq_true rfl⟩ h (fun v s1 h => ?_)
    obtain ⟨r1, rfl, h⟩ := h
    refine rf_R_wv rp_73 (rf_bk am_t73 12 1) 62 [(1, .int (s.1 76)), (0, .ref rf_o)] [.long r1, .ref rf_o] s1 (by repeat (first | exact trivial | refine ⟨rfl, ?_⟩)) (by decide +kernel) ?_
    refine And.intro rfl ?_
    refine rf_R_wv rp_73 (rf_bk am_t73 13 3) 65 [(1, .int (s.1 76)), (0, .ref rf_o)] [] (rf_sj s1 77 r1) (by repeat (first | exact trivial | refine ⟨rfl, ?_⟩)) (by decide +kernel) ?_
    refine And.intro rfl ?_
    refine rf_R_wv rp_73 (rf_bk am_t73 16 1) 70 [(1, .int (s.1 76)), (0, .ref rf_o)] [] (rf_si (rf_sj s1 77 r1) 74 (Int32.ofInt 1)) (by repeat (first | exact trivial | refine ⟨rfl, ?_⟩)) (by decide +kernel) ?_
    exact rf_R_ret (pc := 240) rp_73 rfl rfl rfl ⟨rfl, h⟩
  replace h := h.2 hb
  refine rf_R_sw (fun hb => ?_) (fun hb => ?_)
  · replace h := h.1 hb
    exact rf_R_le (l := [(0, .ref rf_o), (1, .int (s.1 76))]) rfl rfl (⟨rfl, rfl, trivial⟩) (wr_evaluates_73_ok h)
  replace h := h.2 hb
  refine rf_R_sw (fun hb => ?_) (fun hb => ?_)
  · replace h := h.1 hb
    exact rf_R_le (l := [(0, .ref rf_o), (1, .int (s.1 76))]) rfl rfl (⟨rfl, rfl, trivial⟩) (wr_evaluates_73_ok h)
  replace h := h.2 hb
  refine rf_R_sw (fun hb => ?_) (fun hb => ?_)
  · replace h := h.1 hb
    refine rf_R_wv rp_73 (rf_bk am_t73 23 4) 85 [(1, .int (s.1 76)), (0, .ref rf_o)] [] s (by repeat (first | exact trivial | refine ⟨rfl, ?_⟩)) (by decide +kernel) ?_
    refine rf_R_call (pc := 89) (q := ([.ref rf_o, .int (s.1 76)], [.int (Int32.ofInt 0), .ref rf_o])) rp_73 rfl rfl (by decide) rp_62 rfl (Nat.le_of_ble_eq_true rfl) ⟨rfl, Nat.le_of_ble_eq_true rfl⟩ h (fun v s2 h => ?_)
    obtain ⟨r2, rfl, h⟩ := h
    refine rf_R_call (pc := 92) (q := ([.ref rf_o, .int (Int32.ofInt 0), .int r2], [])) rp_73 rfl rfl (by decide) rp_59 rfl (Nat.le_of_ble_eq_true rfl) ⟨rfl, Nat.le_of_ble_eq_true rfl⟩ h (fun v s3 h => ?_)
    obtain ⟨r3, rfl, h⟩ := h
    refine rf_R_wv rp_73 (rf_bk am_t73 29 1) 95 [(1, .int (s.1 76)), (0, .ref rf_o)] [.int r3] s3 (by repeat (first | exact trivial | refine ⟨rfl, ?_⟩)) (by decide +kernel) ?_
    refine rf_R_if (b := am_cnd .eq r3 0) (p := 240) (q := 98) (fun hb => ?_) (fun hb => ?_)
    · replace h := h.1 (of_decide_eq_true hb)
      exact rf_R_ret (pc := 240) rp_73 rfl rfl rfl ⟨rfl, h⟩
    · replace h := h.2 (of_decide_eq_false hb)
      refine rf_R_wv rp_73 (rf_bk am_t73 30 3) 98 [(1, .int (s.1 76)), (0, .ref rf_o)] [] s3 (by repeat (first | exact trivial | refine ⟨rfl, ?_⟩)) (by decide +kernel) ?_
      refine rf_R_call (pc := 101) (q := ([.ref rf_o, .int (s.1 76)], [.ref rf_o])) rp_73 rfl rfl (by decide) rp_67 rfl (Nat.le_of_ble_eq_true rfl) ⟨rfl, Nat.le_of_ble_eq_true rfl⟩ h (fun v s4 h => ?_)
      obtain ⟨r4, rfl, h⟩ := h
      refine rf_R_call (pc := 104) (q := ([.ref rf_o, .long r4], [])) rp_73 rfl rfl (by decide) rp_68 rfl (Nat.le_of_ble_eq_true rfl) ⟨rfl, Nat.le_of_ble_eq_true rfl⟩ h (fun v s5 h => ?_)
      obtain ⟨rfl, h⟩ := h
      refine rf_R_wv rp_73 (rf_bk am_t73 35 1) 107 [(1, .int (s.1 76)), (0, .ref rf_o)] [] s5 (by repeat (first | exact trivial | refine ⟨rfl, ?_⟩)) (by decide +kernel) ?_
      exact rf_R_ret (pc := 240) rp_73 rfl rfl rfl ⟨rfl, h⟩
  replace h := h.2 hb
  refine rf_R_sw (fun hb => ?_) (fun hb => ?_)
  · replace h := h.1 hb
    refine rf_R_wv rp_73 (rf_bk am_t73 36 2) 110 [(1, .int (s.1 76)), (0, .ref rf_o)] [] s (by repeat (first | exact trivial | refine ⟨rfl, ?_⟩)) (by decide +kernel) ?_
    refine rf_R_call (pc := 112) (q := ([.ref rf_o, .int (s.1 76)], [])) rp_73 rfl rfl (by decide) rp_71 rfl (Nat.le_of_ble_eq_true rfl) ⟨rfl, Nat.le_of_ble_eq_true rfl⟩ h (fun v s6 h => ?_)
    obtain ⟨rfl, h⟩ := h
    refine rf_R_wv rp_73 (rf_bk am_t73 39 1) 115 [(1, .int (s.1 76)), (0, .ref rf_o)] [] s6 (by repeat (first | exact trivial | refine ⟨rfl, ?_⟩)) (by decide +kernel) ?_
    exact rf_R_ret (pc := 240) rp_73 rfl rfl rfl ⟨rfl, h⟩
  replace h := h.2 hb
  refine rf_R_sw (fun hb => ?_) (fun hb => ?_)
  · replace h := h.1 hb
    refine rf_R_wv rp_73 (rf_bk am_t73 40 2) 118 [(1, .int (s.1 76)), (0, .ref rf_o)] [] s (by repeat (first | exact trivial | refine ⟨rfl, ?_⟩)) (by decide +kernel) ?_
    refine rf_R_call (pc := 120) (q := ([.ref rf_o, .int (s.1 76)], [])) rp_73 rfl rfl (by decide) rp_70 rfl (Nat.le_of_ble_eq_true rfl) ⟨rfl, Nat.le_of_ble_eq_true rfl⟩ h (fun v s7 h => ?_)
    obtain ⟨rfl, h⟩ := h
    refine rf_R_wv rp_73 (rf_bk am_t73 43 1) 123 [(1, .int (s.1 76)), (0, .ref rf_o)] [] s7 (by repeat (first | exact trivial | refine ⟨rfl, ?_⟩)) (by decide +kernel) ?_
    exact rf_R_ret (pc := 240) rp_73 rfl rfl rfl ⟨rfl, h⟩
  replace h := h.2 hb
  refine rf_R_sw (fun hb => ?_) (fun hb => ?_)
  · replace h := h.1 hb
    refine rf_R_wv rp_73 (rf_bk am_t73 44 2) 126 [(1, .int (s.1 76)), (0, .ref rf_o)] [] s (by repeat (first | exact trivial | refine ⟨rfl, ?_⟩)) (by decide +kernel) ?_
    refine rf_R_call (pc := 128) (q := ([.ref rf_o, .int (s.1 76)], [])) rp_73 rfl rfl (by decide) rp_72 rfl (Nat.le_of_ble_eq_true rfl) ⟨rfl, Nat.le_of_ble_eq_true rfl⟩ h (fun v s8 h => ?_)
    obtain ⟨rfl, h⟩ := h
    refine rf_R_wv rp_73 (rf_bk am_t73 47 1) 131 [(1, .int (s.1 76)), (0, .ref rf_o)] [] s8 (by repeat (first | exact trivial | refine ⟨rfl, ?_⟩)) (by decide +kernel) ?_
    exact rf_R_ret (pc := 240) rp_73 rfl rfl rfl ⟨rfl, h⟩
  replace h := h.2 hb
  refine rf_R_sw (fun hb => ?_) (fun hb => ?_)
  · replace h := h.1 hb
    refine rf_R_wv rp_73 (rf_bk am_t73 48 7) 134 [(1, .int (s.1 76)), (0, .ref rf_o)] [] s (by repeat (first | exact trivial | refine ⟨rfl, ?_⟩)) (by decide +kernel) ?_
    refine And.intro h.1 ?_
    replace h := h.2
    refine rf_R_call (pc := 143) (q := ([.ref rf_o, .int (s.2.2.1 14 (s.1 76).toNatClampNeg)], [.int (Int32.ofInt 2), .ref rf_o])) rp_73 rfl rfl (by decide) rp_43 rfl (Nat.le_of_ble_eq_true rfl) ⟨rfl, Nat.le_of_ble_eq_true rfl⟩ h (fun v s9 h => ?_)
    obtain ⟨r9, rfl, h⟩ := h
    refine rf_R_wv rp_73 (rf_bk am_t73 56 2) 146 [(1, .int (s.1 76)), (0, .ref rf_o)] [.int r9, .int (Int32.ofInt 2), .ref rf_o] s9 (by repeat (first | exact trivial | refine ⟨rfl, ?_⟩)) (by decide +kernel) ?_
    refine rf_R_call (pc := 148) (q := ([.ref rf_o, .int ((Int32.ofInt 2) + r9), .int (Int32.ofInt 0)], [])) rp_73 rfl rfl (by decide) rp_59 rfl (Nat.le_of_ble_eq_true rfl) ⟨rfl, Nat.le_of_ble_eq_true rfl⟩ h (fun v s10 h => ?_)
    obtain ⟨r10, rfl, h⟩ := h
    refine rf_R_wv rp_73 (rf_bk am_t73 59 1) 151 [(1, .int (s.1 76)), (0, .ref rf_o)] [.int r10] s10 (by repeat (first | exact trivial | refine ⟨rfl, ?_⟩)) (by decide +kernel) ?_
    refine rf_R_if (b := am_cnd .ne r10 0) (p := 155) (q := 154) (fun hb => ?_) (fun hb => ?_)
    · replace h := h.1 (of_decide_eq_true hb)
      refine rf_R_wv rp_73 (rf_bk am_t73 61 8) 155 [(1, .int (s.1 76)), (0, .ref rf_o)] [] s10 (by repeat (first | exact trivial | refine ⟨rfl, ?_⟩)) (by decide +kernel) ?_
      refine And.intro h.1 ?_
      replace h := h.2
      refine rf_R_call (pc := 165) (q := ([.ref rf_o, .int (Int32.ofInt 1), .int (s10.2.2.1 14 (s.1 76).toNatClampNeg), .int (Int32.ofInt 0), .int (Int32.ofInt 0)], [])) rp_73 rfl rfl (by decide) rp_53 rfl (Nat.le_of_ble_eq_true rfl) ⟨rfl, Nat.le_of_ble_eq_true rfl⟩ h (fun v s11 h => ?_)
      obtain ⟨rfl, h⟩ := h
      refine rf_R_wv rp_73 (rf_bk am_t73 70 5) 168 [(1, .int (s.1 76)), (0, .ref rf_o)] [] s11 (by repeat (first | exact trivial | refine ⟨rfl, ?_⟩)) (by decide +kernel) ?_
      refine And.intro h.1 ?_
      replace h := h.2
      refine rf_R_call (pc := 175) (q := ([.ref rf_o, .int (s11.2.2.1 14 (s.1 76).toNatClampNeg)], [])) rp_73 rfl rfl (by decide) rp_56 rfl (Nat.le_of_ble_eq_true rfl) ⟨rfl, Nat.le_of_ble_eq_true rfl⟩ h (fun v s12 h => ?_)
      obtain ⟨rfl, h⟩ := h
      refine rf_R_wv rp_73 (rf_bk am_t73 76 5) 178 [(1, .int (s.1 76)), (0, .ref rf_o)] [] s12 (by repeat (first | exact trivial | refine ⟨rfl, ?_⟩)) (by decide +kernel) ?_
      refine And.intro h.1 ?_
      replace h := h.2
      refine rf_R_call (pc := 185) (q := ([.ref rf_o, .int (s12.2.2.1 13 (s.1 76).toNatClampNeg)], [])) rp_73 rfl rfl (by decide) rp_69 rfl (Nat.le_of_ble_eq_true rfl) ⟨rfl, Nat.le_of_ble_eq_true rfl⟩ h (fun v s13 h => ?_)
      obtain ⟨rfl, h⟩ := h
      refine rf_R_wv rp_73 (rf_bk am_t73 82 1) 188 [(1, .int (s.1 76)), (0, .ref rf_o)] [] s13 (by repeat (first | exact trivial | refine ⟨rfl, ?_⟩)) (by decide +kernel) ?_
      exact rf_R_ret (pc := 240) rp_73 rfl rfl rfl ⟨rfl, h⟩
    · replace h := h.2 (Decidable.not_not.mp (of_decide_eq_false hb))
      exact rf_R_ret (pc := 154) rp_73 rfl rfl rfl ⟨rfl, h⟩
  replace h := h.2 hb
  show rf_R (d + 1) 73 (191, _, _, _) _
  refine rf_R_wv rp_73 (rf_bk am_t73 83 7) 191 [(1, .int (s.1 76)), (0, .ref rf_o)] [] s (by repeat (first | exact trivial | refine ⟨rfl, ?_⟩)) (by decide +kernel) ?_
  refine And.intro h.1 ?_
  replace h := h.2
  refine rf_R_call (pc := 200) (q := ([.ref rf_o, .int (s.2.2.1 15 (s.1 76).toNatClampNeg)], [.int (Int32.ofInt 2), .ref rf_o])) rp_73 rfl rfl (by decide) rp_43 rfl (Nat.le_of_ble_eq_true rfl) ⟨rfl, Nat.le_of_ble_eq_true rfl⟩ h (fun v s14 h => ?_)
  obtain ⟨r14, rfl, h⟩ := h
  refine rf_R_wv rp_73 (rf_bk am_t73 91 2) 203 [(1, .int (s.1 76)), (0, .ref rf_o)] [.int r14, .int (Int32.ofInt 2), .ref rf_o] s14 (by repeat (first | exact trivial | refine ⟨rfl, ?_⟩)) (by decide +kernel) ?_
  refine rf_R_call (pc := 205) (q := ([.ref rf_o, .int ((Int32.ofInt 2) + r14), .int (Int32.ofInt 0)], [])) rp_73 rfl rfl (by decide) rp_59 rfl (Nat.le_of_ble_eq_true rfl) ⟨rfl, Nat.le_of_ble_eq_true rfl⟩ h (fun v s15 h => ?_)
  obtain ⟨r15, rfl, h⟩ := h
  refine rf_R_wv rp_73 (rf_bk am_t73 94 1) 208 [(1, .int (s.1 76)), (0, .ref rf_o)] [.int r15] s15 (by repeat (first | exact trivial | refine ⟨rfl, ?_⟩)) (by decide +kernel) ?_
  refine rf_R_if (b := am_cnd .ne r15 0) (p := 212) (q := 211) (fun hb => ?_) (fun hb => ?_)
  · replace h := h.1 (of_decide_eq_true hb)
    refine rf_R_wv rp_73 (rf_bk am_t73 96 5) 212 [(1, .int (s.1 76)), (0, .ref rf_o)] [] s15 (by repeat (first | exact trivial | refine ⟨rfl, ?_⟩)) (by decide +kernel) ?_
    refine rf_R_call (pc := 217) (q := ([.ref rf_o, .int (Int32.ofInt 2), .int (s.1 76), .int (Int32.ofInt 0), .int (Int32.ofInt 0)], [])) rp_73 rfl rfl (by decide) rp_53 rfl (Nat.le_of_ble_eq_true rfl) ⟨rfl, Nat.le_of_ble_eq_true rfl⟩ h (fun v s16 h => ?_)
    obtain ⟨rfl, h⟩ := h
    refine rf_R_wv rp_73 (rf_bk am_t73 102 5) 220 [(1, .int (s.1 76)), (0, .ref rf_o)] [] s16 (by repeat (first | exact trivial | refine ⟨rfl, ?_⟩)) (by decide +kernel) ?_
    refine And.intro h.1 ?_
    replace h := h.2
    refine rf_R_call (pc := 227) (q := ([.ref rf_o, .int (s16.2.2.1 15 (s.1 76).toNatClampNeg)], [])) rp_73 rfl rfl (by decide) rp_56 rfl (Nat.le_of_ble_eq_true rfl) ⟨rfl, Nat.le_of_ble_eq_true rfl⟩ h (fun v s17 h => ?_)
    obtain ⟨rfl, h⟩ := h
    refine rf_R_wv rp_73 (rf_bk am_t73 108 5) 230 [(1, .int (s.1 76)), (0, .ref rf_o)] [] s17 (by repeat (first | exact trivial | refine ⟨rfl, ?_⟩)) (by decide +kernel) ?_
    refine And.intro h.1 ?_
    replace h := h.2
    refine rf_R_call (pc := 237) (q := ([.ref rf_o, .int (s17.2.2.1 14 (s.1 76).toNatClampNeg)], [])) rp_73 rfl rfl (by decide) rp_69 rfl (Nat.le_of_ble_eq_true rfl) ⟨rfl, Nat.le_of_ble_eq_true rfl⟩ h (fun v s18 h => ?_)
    obtain ⟨rfl, h⟩ := h
    exact rf_R_ret (pc := 240) rp_73 rfl rfl rfl ⟨rfl, h⟩
  · replace h := h.2 (Decidable.not_not.mp (of_decide_eq_false hb))
    exact rf_R_ret (pc := 211) rp_73 rfl rfl rfl ⟨rfl, h⟩
/-- enters ()V, from 123 on -/
def wr_enters_123 (d : Nat) (x1 : Int64) (x3 : Int32) (x4 : Int32) (x5 : Int32) (s : rf_S) (Q : rf_S → Prop) : Prop := (rf_in x3 36000 ∧ (((s.2.2.1 52 x3.toNatClampNeg) ≤ x5 → (rf_in x3 36000 ∧ (rf_in x3 36000 ∧ rf_V d 53 [(0, .ref rf_o), (1, .int (Int32.ofInt 0)), (2, .int (Int32.ofInt 0)), (3, .int (Int32.ofInt 0)), (4, .int (Int32.ofInt 0))] (rf_sb (rf_sb s 49 x3.toNatClampNeg (Int32.ofInt 1)) 52 x3.toNatClampNeg (Int32.ofInt 0)) (fun s1 => rf_V d 54 [(0, .ref rf_o), (1, .long x1)] s1 (fun s2 => rf_V d 55 [(0, .ref rf_o)] s2 (fun s3 => rf_V d 69 [(0, .ref rf_o), (1, .int x4)] (rf_si s3 80 ((s3.1 80) + (Int32.ofInt 1))) (fun s4 => Q s4))))))) ∧ (¬ ((s.2.2.1 52 x3.toNatClampNeg) ≤ x5) → (rf_in x4 2101 ∧ rf_in ((s.2.2.1 20 x4.toNatClampNeg) + x5) 131072 ∧ (rf_in x3 36001 ∧ rf_in ((s.2.2.1 51 x3.toNatClampNeg) + x5) 47000 ∧ rf_in (s.2.2.1 21 ((s.2.2.1 20 x4.toNatClampNeg) + x5).toNatClampNeg) 1100 ∧ rf_R (d + 1) 74 (123, [(0, .ref rf_o), (1, .long x1), (3, .int x3), (4, .int x4), (5, .int (x5 + Int32.ofInt 1))], [], (rf_sL s 78 (s.2.2.1 21 ((s.2.2.1 20 x4.toNatClampNeg) + x5).toNatClampNeg).toNatClampNeg (s.2.2.2 58 ((s.2.2.1 51 x3.toNatClampNeg) + x5).toNatClampNeg))) (rf_qV Q))))))
set_option maxRecDepth 20000 in
theorem wr_enters_123_ok {d : Nat} {x1 : Int64} {x3 : Int32} {x4 : Int32} {x5 : Int32} {s : rf_S} {Q : rf_S → Prop} (h : wr_enters_123 d x1 x3 x4 x5 s Q) : rf_R (d + 1) 74 (123, [(0, .ref rf_o), (1, .long x1), (3, .int x3), (4, .int x4), (5, .int x5)], [], s) (rf_qV Q) := by
  unfold wr_enters_123 at h
  refine rf_R_wv rp_74 (rf_bk am_t74 71 6) 123 [(0, .ref rf_o), (1, .long x1), (3, .int x3), (4, .int x4), (5, .int x5)] [] s (by repeat (first | exact trivial | refine ⟨rfl, ?_⟩)) (by decide +kernel) ?_
  refine And.intro h.1 ?_
  replace h := h.2
  refine rf_R_if (b := am_cnd .ge x5 (s.2.2.1 52 x3.toNatClampNeg)) (p := 174) (q := 134) (fun hb => ?_) (fun hb => ?_)
  · replace h := h.1 (of_decide_eq_true hb)
    refine rf_R_wv rp_74 (rf_bk am_t74 100 5) 174 [(0, .ref rf_o), (1, .long x1), (3, .int x3), (4, .int x4), (5, .int x5)] [] s (by repeat (first | exact trivial | refine ⟨rfl, ?_⟩)) (by decide +kernel) ?_
    refine And.intro h.1 ?_
    replace h := h.2
    refine rf_R_wv rp_74 (rf_bk am_t74 105 5) 181 [(0, .ref rf_o), (1, .long x1), (3, .int x3), (4, .int x4), (5, .int x5)] [] (rf_sb s 49 x3.toNatClampNeg (Int32.ofInt 1)) (by repeat (first | exact trivial | refine ⟨rfl, ?_⟩)) (by decide +kernel) ?_
    refine And.intro h.1 ?_
    replace h := h.2
    refine rf_R_wv rp_74 (rf_bk am_t74 110 5) 188 [(0, .ref rf_o), (1, .long x1), (3, .int x3), (4, .int x4), (5, .int x5)] [] (rf_sb (rf_sb s 49 x3.toNatClampNeg (Int32.ofInt 1)) 52 x3.toNatClampNeg (Int32.ofInt 0)) (by repeat (first | exact trivial | refine ⟨rfl, ?_⟩)) (by decide +kernel) ?_
    refine rf_R_call (pc := 193) (q := ([.ref rf_o, .int (Int32.ofInt 0), .int (Int32.ofInt 0), .int (Int32.ofInt 0), .int (Int32.ofInt 0)], [])) rp_74 rfl rfl (by decide) rp_53 rfl (Nat.le_of_ble_eq_true rfl) ⟨rfl, Nat.le_of_ble_eq_true rfl⟩ h (fun v s1 h => ?_)
    obtain ⟨rfl, h⟩ := h
    refine rf_R_wv rp_74 (rf_bk am_t74 116 2) 196 [(0, .ref rf_o), (1, .long x1), (3, .int x3), (4, .int x4), (5, .int x5)] [] s1 (by repeat (first | exact trivial | refine ⟨rfl, ?_⟩)) (by decide +kernel) ?_
    refine rf_R_call (pc := 198) (q := ([.ref rf_o, .long x1], [])) rp_74 rfl rfl (by decide) rp_54 rfl (Nat.le_of_ble_eq_true rfl) ⟨rfl, Nat.le_of_ble_eq_true rfl⟩ h (fun v s2 h => ?_)
    obtain ⟨rfl, h⟩ := h
    refine rf_R_wv rp_74 (rf_bk am_t74 119 1) 201 [(0, .ref rf_o), (1, .long x1), (3, .int x3), (4, .int x4), (5, .int x5)] [] s2 (by repeat (first | exact trivial | refine ⟨rfl, ?_⟩)) (by decide +kernel) ?_
    refine rf_R_call (pc := 202) (q := ([.ref rf_o], [])) rp_74 rfl rfl (by decide) rp_55 rfl (Nat.le_of_ble_eq_true rfl) ⟨rfl, Nat.le_of_ble_eq_true rfl⟩ h (fun v s3 h => ?_)
    obtain ⟨rfl, h⟩ := h
    refine rf_R_wv rp_74 (rf_bk am_t74 121 6) 205 [(0, .ref rf_o), (1, .long x1), (3, .int x3), (4, .int x4), (5, .int x5)] [] s3 (by repeat (first | exact trivial | refine ⟨rfl, ?_⟩)) (by decide +kernel) ?_
    refine And.intro rfl ?_
    refine rf_R_wv rp_74 (rf_bk am_t74 127 2) 215 [(0, .ref rf_o), (1, .long x1), (3, .int x3), (4, .int x4), (5, .int x5)] [] (rf_si s3 80 ((s3.1 80) + (Int32.ofInt 1))) (by repeat (first | exact trivial | refine ⟨rfl, ?_⟩)) (by decide +kernel) ?_
    refine rf_R_call (pc := 218) (q := ([.ref rf_o, .int x4], [])) rp_74 rfl rfl (by decide) rp_69 rfl (Nat.le_of_ble_eq_true rfl) ⟨rfl, Nat.le_of_ble_eq_true rfl⟩ h (fun v s4 h => ?_)
    obtain ⟨rfl, h⟩ := h
    exact rf_R_ret (pc := 221) rp_74 rfl rfl rfl ⟨rfl, h⟩
  · replace h := h.2 (of_decide_eq_false hb)
    refine rf_R_wv rp_74 (rf_bk am_t74 77 14) 134 [(0, .ref rf_o), (1, .long x1), (3, .int x3), (4, .int x4), (5, .int x5)] [] s (by repeat (first | exact trivial | refine ⟨rfl, ?_⟩)) (by decide +kernel) ?_
    refine And.intro h.1 ?_
    replace h := h.2
    refine And.intro h.1 ?_
    replace h := h.2
    refine rf_R_wv rp_74 (rf_bk am_t74 91 7) 158 [(0, .ref rf_o), (1, .long x1), (3, .int x3), (4, .int x4), (5, .int x5)] [.ref rf_o, .ref (rf_ad 58), .int (s.2.2.1 21 ((s.2.2.1 20 x4.toNatClampNeg) + x5).toNatClampNeg), .ref (rf_ad 78)] s (by repeat (first | exact trivial | refine ⟨rfl, ?_⟩)) (by decide +kernel) ?_
    refine And.intro h.1 ?_
    replace h := h.2
    refine And.intro h.1 ?_
    replace h := h.2
    refine And.intro h.1 ?_
    replace h := h.2
    refine rf_R_wv rp_74 (rf_bk am_t74 98 2) 168 [(0, .ref rf_o), (1, .long x1), (3, .int x3), (4, .int x4), (5, .int x5)] [] (rf_sL s 78 (s.2.2.1 21 ((s.2.2.1 20 x4.toNatClampNeg) + x5).toNatClampNeg).toNatClampNeg (s.2.2.2 58 ((s.2.2.1 51 x3.toNatClampNeg) + x5).toNatClampNeg)) (by repeat (first | exact trivial | refine ⟨rfl, ?_⟩)) (by decide +kernel) ?_
    exact rf_R_le (l := [(0, .ref rf_o), (1, .long x1), (3, .int x3), (4, .int x4), (5, .int (x5 + Int32.ofInt 1))]) rfl rfl (⟨rfl, rfl, rfl, rfl, rfl, trivial⟩) h
/-- enters ()V, from 49 on -/
def wr_enters_49 (d : Nat) (s : rf_S) (Q : rf_S → Prop) : Prop := Q (rf_si s 74 (Int32.ofInt 2))
set_option maxRecDepth 20000 in
theorem wr_enters_49_ok {d : Nat} {s : rf_S} {Q : rf_S → Prop} (h : wr_enters_49 d s Q) : rf_R (d + 1) 74 (49, [(0, .ref rf_o)], [], s) (rf_qV Q) := by
  unfold wr_enters_49 at h
  refine rf_R_wv rp_74 (rf_bk am_t74 29 3) 49 [(0, .ref rf_o)] [] s (by repeat (first | exact trivial | refine ⟨rfl, ?_⟩)) (by decide +kernel) ?_
  refine And.intro rfl ?_
  refine rf_R_wv rp_74 (rf_bk am_t74 32 1) 54 [(0, .ref rf_o)] [] (rf_si s 74 (Int32.ofInt 2)) (by repeat (first | exact trivial | refine ⟨rfl, ?_⟩)) (by decide +kernel) ?_
  exact rf_R_ret (pc := 221) rp_74 rfl rfl rfl ⟨rfl, h⟩
/-- enters ()V, from 31 on -/
def wr_enters_31 (d : Nat) (x1 : Int64) (x3 : Int32) (s : rf_S) (Q : rf_S → Prop) : Prop := rf_I d 45 [(0, .long x1)] s (fun r1 s1 => ((¬ r1 = (Int32.ofInt 3) → wr_enters_49 d s1 Q) ∧ (r1 = (Int32.ofInt 3) → (rf_in x3 36000 ∧ (((s1.2.2.1 49 x3.toNatClampNeg) ≤ (Int32.ofInt 2) → (rf_in x3 36000 ∧ ((¬ (s1.2.2.1 49 x3.toNatClampNeg) = (Int32.ofInt 1) → (rf_in x3 36000 ∧ ((¬ (s1.2.2.1 49 x3.toNatClampNeg) = (Int32.ofInt 2) → rf_I d 59 [(0, .ref rf_o), (1, .int (Int32.ofInt 3)), (2, .int (Int32.ofInt 0))] s1 (fun r2 s2 => ((r2 = 0 → Q s2) ∧ (¬ (r2 = 0) → (rf_in x3 36000 ∧ rf_R (d + 1) 74 (123, [(0, .ref rf_o), (1, .long x1), (3, .int x3), (4, .int (s2.2.2.1 50 x3.toNatClampNeg)), (5, .int (Int32.ofInt 0))], [], s2) (rf_qV Q)))))) ∧ ((s1.2.2.1 49 x3.toNatClampNeg) = (Int32.ofInt 2) → (rf_in x3 36001 ∧ rf_in (s1.2.2.1 51 x3.toNatClampNeg) 47000 ∧ rf_V d 68 [(0, .ref rf_o), (1, .long (s1.2.2.2 58 (s1.2.2.1 51 x3.toNatClampNeg).toNatClampNeg))] s1 (fun s3 => Q s3)))))) ∧ ((s1.2.2.1 49 x3.toNatClampNeg) = (Int32.ofInt 1) → rf_V d 58 [(0, .ref rf_o), (1, .int (Int32.ofInt 1))] s1 (fun s4 => Q s4))))) ∧ (¬ ((s1.2.2.1 49 x3.toNatClampNeg) ≤ (Int32.ofInt 2)) → wr_enters_49 d s1 Q))))))
set_option maxRecDepth 20000 in
theorem wr_enters_31_ok {d : Nat} {x1 : Int64} {x3 : Int32} {s : rf_S} {Q : rf_S → Prop} (h : wr_enters_31 d x1 x3 s Q) : rf_R (d + 1) 74 (31, [(0, .ref rf_o), (1, .long x1), (3, .int x3)], [], s) (rf_qV Q) := by
  unfold wr_enters_31 at h
  refine rf_R_wv rp_74 (rf_bk am_t74 19 1) 31 [(0, .ref rf_o), (1, .long x1), (3, .int x3)] [] s (by repeat (first | exact trivial | refine ⟨rfl, ?_⟩)) (by decide +kernel) ?_
  refine rf_R_call (pc := 32) (q := ([.long x1], [])) rp_74 rfl rfl (by decide) rp_45 rfl (Nat.le_of_ble_eq_true rfl) ⟨rfl, Nat.le_of_ble_eq_true rfl⟩ h (fun v s1 h => ?_)
  obtain ⟨r1, rfl, h⟩ := h
  refine rf_R_wv rp_74 (rf_bk am_t74 21 2) 35 [(0, .ref rf_o), (1, .long x1), (3, .int x3)] [.int r1] s1 (by repeat (first | exact trivial | refine ⟨rfl, ?_⟩)) (by decide +kernel) ?_
  refine rf_R_if (b := am_cnd .ne r1 (Int32.ofInt 3)) (p := 49) (q := 39) (fun hb => ?_) (fun hb => ?_)
  · replace h := h.1 (of_decide_eq_true hb)
    exact rf_R_le (l := [(0, .ref rf_o)]) rfl rfl (⟨rfl, trivial⟩) (wr_enters_49_ok h)
  · replace h := h.2 (Decidable.not_not.mp (of_decide_eq_false hb))
    refine rf_R_wv rp_74 (rf_bk am_t74 23 6) 39 [(0, .ref rf_o), (1, .long x1), (3, .int x3)] [] s1 (by repeat (first | exact trivial | refine ⟨rfl, ?_⟩)) (by decide +kernel) ?_
    refine And.intro h.1 ?_
    replace h := h.2
    refine rf_R_if (b := am_cnd .le (s1.2.2.1 49 x3.toNatClampNeg) (Int32.ofInt 2)) (p := 57) (q := 49) (fun hb => ?_) (fun hb => ?_)
    · replace h := h.1 (of_decide_eq_true hb)
      refine rf_R_wv rp_74 (rf_bk am_t74 33 6) 57 [(0, .ref rf_o), (1, .long x1), (3, .int x3)] [] s1 (by repeat (first | exact trivial | refine ⟨rfl, ?_⟩)) (by decide +kernel) ?_
      refine And.intro h.1 ?_
      replace h := h.2
      refine rf_R_if (b := am_cnd .ne (s1.2.2.1 49 x3.toNatClampNeg) (Int32.ofInt 1)) (p := 75) (q := 67) (fun hb => ?_) (fun hb => ?_)
      · replace h := h.1 (of_decide_eq_true hb)
        refine rf_R_wv rp_74 (rf_bk am_t74 43 6) 75 [(0, .ref rf_o), (1, .long x1), (3, .int x3)] [] s1 (by repeat (first | exact trivial | refine ⟨rfl, ?_⟩)) (by decide +kernel) ?_
        refine And.intro h.1 ?_
        replace h := h.2
        refine rf_R_if (b := am_cnd .ne (s1.2.2.1 49 x3.toNatClampNeg) (Int32.ofInt 2)) (p := 103) (q := 85) (fun hb => ?_) (fun hb => ?_)
        · replace h := h.1 (of_decide_eq_true hb)
          refine rf_R_wv rp_74 (rf_bk am_t74 59 3) 103 [(0, .ref rf_o), (1, .long x1), (3, .int x3)] [] s1 (by repeat (first | exact trivial | refine ⟨rfl, ?_⟩)) (by decide +kernel) ?_
          refine rf_R_call (pc := 106) (q := ([.ref rf_o, .int (Int32.ofInt 3), .int (Int32.ofInt 0)], [])) rp_74 rfl rfl (by decide) rp_59 rfl (Nat.le_of_ble_eq_true rfl) ⟨rfl, Nat.le_of_ble_eq_true rfl⟩ h (fun v s2 h => ?_)
          obtain ⟨r2, rfl, h⟩ := h
          refine rf_R_wv rp_74 (rf_bk am_t74 63 1) 109 [(0, .ref rf_o), (1, .long x1), (3, .int x3)] [.int r2] s2 (by repeat (first | exact trivial | refine ⟨rfl, ?_⟩)) (by decide +kernel) ?_
          refine rf_R_if (b := am_cnd .eq r2 0) (p := 221) (q := 112) (fun hb => ?_) (fun hb => ?_)
          · replace h := h.1 (of_decide_eq_true hb)
            exact rf_R_ret (pc := 221) rp_74 rfl rfl rfl ⟨rfl, h⟩
          · replace h := h.2 (of_decide_eq_false hb)
            refine rf_R_wv rp_74 (rf_bk am_t74 64 7) 112 [(0, .ref rf_o), (1, .long x1), (3, .int x3)] [] s2 (by repeat (first | exact trivial | refine ⟨rfl, ?_⟩)) (by decide +kernel) ?_
            refine And.intro h.1 ?_
            replace h := h.2
            exact rf_R_le (l := [(0, .ref rf_o), (1, .long x1), (3, .int x3), (4, .int (s2.2.2.1 50 x3.toNatClampNeg)), (5, .int (Int32.ofInt 0))]) rfl rfl (⟨rfl, rfl, rfl, rfl, rfl, trivial⟩) h
        · replace h := h.2 (Decidable.not_not.mp (of_decide_eq_false hb))
          refine rf_R_wv rp_74 (rf_bk am_t74 49 8) 85 [(0, .ref rf_o), (1, .long x1), (3, .int x3)] [] s1 (by repeat (first | exact trivial | refine ⟨rfl, ?_⟩)) (by decide +kernel) ?_
          refine And.intro h.1 ?_
          replace h := h.2
          refine And.intro h.1 ?_
          replace h := h.2
          refine rf_R_call (pc := 97) (q := ([.ref rf_o, .long (s1.2.2.2 58 (s1.2.2.1 51 x3.toNatClampNeg).toNatClampNeg)], [])) rp_74 rfl rfl (by decide) rp_68 rfl (Nat.le_of_ble_eq_true rfl) ⟨rfl, Nat.le_of_ble_eq_true rfl⟩ h (fun v s3 h => ?_)
          obtain ⟨rfl, h⟩ := h
          refine rf_R_wv rp_74 (rf_bk am_t74 58 1) 100 [(0, .ref rf_o), (1, .long x1), (3, .int x3)] [] s3 (by repeat (first | exact trivial | refine ⟨rfl, ?_⟩)) (by decide +kernel) ?_
          exact rf_R_ret (pc := 221) rp_74 rfl rfl rfl ⟨rfl, h⟩
      · replace h := h.2 (Decidable.not_not.mp (of_decide_eq_false hb))
        refine rf_R_wv rp_74 (rf_bk am_t74 39 2) 67 [(0, .ref rf_o), (1, .long x1), (3, .int x3)] [] s1 (by repeat (first | exact trivial | refine ⟨rfl, ?_⟩)) (by decide +kernel) ?_
        refine rf_R_call (pc := 69) (q := ([.ref rf_o, .int (Int32.ofInt 1)], [])) rp_74 rfl rfl (by decide) rp_58 rfl (Nat.le_of_ble_eq_true rfl) ⟨rfl, Nat.le_of_ble_eq_true rfl⟩ h (fun v s4 h => ?_)
        obtain ⟨rfl, h⟩ := h
        refine rf_R_wv rp_74 (rf_bk am_t74 42 1) 72 [(0, .ref rf_o), (1, .long x1), (3, .int x3)] [] s4 (by repeat (first | exact trivial | refine ⟨rfl, ?_⟩)) (by decide +kernel) ?_
        exact rf_R_ret (pc := 221) rp_74 rfl rfl rfl ⟨rfl, h⟩
    · replace h := h.2 (of_decide_eq_false hb)
      exact rf_R_le (l := [(0, .ref rf_o)]) rfl rfl (⟨rfl, trivial⟩) (wr_enters_49_ok h)
/-- enters ()V, from 0 on -/
def wr_enters (d : Nat) (s : rf_S) (Q : rf_S → Prop) : Prop := rf_I d 45 [(0, .long (s.2.1 77))] s (fun r1 s1 => ((¬ r1 = (Int32.ofInt 2) → wr_enters_31 d (s.2.1 77) ((s.2.1 77).toInt32) s1 Q) ∧ (r1 = (Int32.ofInt 2) → (rf_in ((s.2.1 77).toInt32) 700 ∧ ((¬ (s1.2.2.1 45 ((s.2.1 77).toInt32).toNatClampNeg) = 0 → wr_enters_31 d (s.2.1 77) ((s.2.1 77).toInt32) s1 Q) ∧ ((s1.2.2.1 45 ((s.2.1 77).toInt32).toNatClampNeg) = 0 → rf_V d 75 [(0, .ref rf_o), (1, .int ((s.2.1 77).toInt32))] s1 (fun s2 => Q s2)))))))
set_option maxRecDepth 20000 in
theorem wr_enters_ok {d : Nat} {s : rf_S} {Q : rf_S → Prop} (h : wr_enters d s Q) : rf_V (d + 1) 74 [(0, .ref rf_o)] s Q := by
  unfold wr_enters at h
  unfold rf_V
  refine rf_R_wv rp_74 (rf_bk am_t74 0 7) 0 [(0, .ref rf_o)] [] s (by repeat (first | exact trivial | refine ⟨rfl, ?_⟩)) (by decide +kernel) ?_
  refine rf_R_call (pc := 9) (q := ([.long (s.2.1 77)], [])) rp_74 rfl rfl (by decide) rp_45 rfl (Nat.le_of_ble_eq_true rfl) ⟨rfl, Nat.le_of_ble_eq_true rfl⟩ h (fun v s1 h => ?_)
  obtain ⟨r1, rfl, h⟩ := h
  refine rf_R_wv rp_74 (rf_bk am_t74 8 2) 12 [(3, .int ((s.2.1 77).toInt32)), (1, .long (s.2.1 77)), (0, .ref rf_o)] [.int r1] s1 (by repeat (first | exact trivial | refine ⟨rfl, ?_⟩)) (by decide +kernel) ?_
  refine rf_R_if (b := am_cnd .ne r1 (Int32.ofInt 2)) (p := 31) (q := 16) (fun hb => ?_) (fun hb => ?_)
  · replace h := h.1 (of_decide_eq_true hb)
    exact rf_R_le (l := [(0, .ref rf_o), (1, .long (s.2.1 77)), (3, .int ((s.2.1 77).toInt32))]) rfl rfl (⟨rfl, rfl, rfl, trivial⟩) (wr_enters_31_ok h)
  · replace h := h.2 (Decidable.not_not.mp (of_decide_eq_false hb))
    refine rf_R_wv rp_74 (rf_bk am_t74 10 5) 16 [(3, .int ((s.2.1 77).toInt32)), (1, .long (s.2.1 77)), (0, .ref rf_o)] [] s1 (by repeat (first | exact trivial | refine ⟨rfl, ?_⟩)) (by decide +kernel) ?_
    refine And.intro h.1 ?_
    replace h := h.2
    refine rf_R_if (b := am_cnd .ne (s1.2.2.1 45 ((s.2.1 77).toInt32).toNatClampNeg) 0) (p := 31) (q := 25) (fun hb => ?_) (fun hb => ?_)
    · replace h := h.1 (of_decide_eq_true hb)
      exact rf_R_le (l := [(0, .ref rf_o), (1, .long (s.2.1 77)), (3, .int ((s.2.1 77).toInt32))]) rfl rfl (⟨rfl, rfl, rfl, trivial⟩) (wr_enters_31_ok h)
    · replace h := h.2 (Decidable.not_not.mp (of_decide_eq_false hb))
      refine rf_R_wv rp_74 (rf_bk am_t74 15 2) 25 [(3, .int ((s.2.1 77).toInt32)), (1, .long (s.2.1 77)), (0, .ref rf_o)] [] s1 (by repeat (first | exact trivial | refine ⟨rfl, ?_⟩)) (by decide +kernel) ?_
      refine rf_R_call (pc := 27) (q := ([.ref rf_o, .int ((s.2.1 77).toInt32)], [])) rp_74 rfl rfl (by decide) rp_75 rfl (Nat.le_of_ble_eq_true rfl) ⟨rfl, Nat.le_of_ble_eq_true rfl⟩ h (fun v s2 h => ?_)
      obtain ⟨rfl, h⟩ := h
      exact rf_R_ret (pc := 30) rp_74 rfl rfl rfl ⟨rfl, h⟩
/-- entersDefinition (I)V, from 0 on -/
def wr_entersDefinition (d : Nat) (x1 : Int32) (s : rf_S) (Q : rf_S → Prop) : Prop := (rf_in x1 700 ∧ ((¬ (s.2.2.1 63 x1.toNatClampNeg) = (Int32.ofInt 1) → (rf_in x1 700 ∧ ((¬ (s.2.2.1 63 x1.toNatClampNeg) = (Int32.ofInt 2) → rf_I d 59 [(0, .ref rf_o), (1, .int (Int32.ofInt 3)), (2, .int (Int32.ofInt 0))] s (fun r1 s1 => ((r1 = 0 → Q s1) ∧ (¬ (r1 = 0) → (rf_in x1 700 ∧ rf_V d 53 [(0, .ref rf_o), (1, .int (Int32.ofInt 0)), (2, .int ((Int32.ofInt 1) + x1)), (3, .int (Int32.ofInt 0)), (4, .int (Int32.ofInt 0))] (rf_sb s1 63 x1.toNatClampNeg (Int32.ofInt 1)) (fun s2 => rf_V d 55 [(0, .ref rf_o)] s2 (fun s3 => (rf_in x1 700 ∧ rf_V d 69 [(0, .ref rf_o), (1, .int (s3.2.2.1 46 x1.toNatClampNeg))] (rf_si s3 80 ((s3.1 80) + (Int32.ofInt 1))) (fun s4 => Q s4))))))))) ∧ ((s.2.2.1 63 x1.toNatClampNeg) = (Int32.ofInt 2) → (rf_in x1 700 ∧ rf_V d 68 [(0, .ref rf_o), (1, .long (s.2.2.2 64 x1.toNatClampNeg))] s (fun s5 => Q s5)))))) ∧ ((s.2.2.1 63 x1.toNatClampNeg) = (Int32.ofInt 1) → rf_V d 58 [(0, .ref rf_o), (1, .int (Int32.ofInt 1))] s (fun s6 => Q s6))))
set_option maxRecDepth 20000 in
theorem wr_entersDefinition_ok {d : Nat} {x1 : Int32} {s : rf_S} {Q : rf_S → Prop} (h : wr_entersDefinition d x1 s Q) : rf_V (d + 1) 75 [(0, .ref rf_o), (1, .int x1)] s Q := by
  unfold wr_entersDefinition at h
  unfold rf_V
  refine rf_R_wv rp_75 (rf_bk am_t75 0 6) 0 [(0, .ref rf_o), (1, .int x1)] [] s (by repeat (first | exact trivial | refine ⟨rfl, ?_⟩)) (by decide +kernel) ?_
  refine And.intro h.1 ?_
  replace h := h.2
  refine rf_R_if (b := am_cnd .ne (s.2.2.1 63 x1.toNatClampNeg) (Int32.ofInt 1)) (p := 18) (q := 10) (fun hb => ?_) (fun hb => ?_)
  · replace h := h.1 (of_decide_eq_true hb)
    refine rf_R_wv rp_75 (rf_bk am_t75 10 6) 18 [(0, .ref rf_o), (1, .int x1)] [] s (by repeat (first | exact trivial | refine ⟨rfl, ?_⟩)) (by decide +kernel) ?_
    refine And.intro h.1 ?_
    replace h := h.2
    refine rf_R_if (b := am_cnd .ne (s.2.2.1 63 x1.toNatClampNeg) (Int32.ofInt 2)) (p := 41) (q := 28) (fun hb => ?_) (fun hb => ?_)
    · replace h := h.1 (of_decide_eq_true hb)
      refine rf_R_wv rp_75 (rf_bk am_t75 23 3) 41 [(0, .ref rf_o), (1, .int x1)] [] s (by repeat (first | exact trivial | refine ⟨rfl, ?_⟩)) (by decide +kernel) ?_
      refine rf_R_call (pc := 44) (q := ([.ref rf_o, .int (Int32.ofInt 3), .int (Int32.ofInt 0)], [])) rp_75 rfl rfl (by decide) rp_59 rfl (Nat.le_of_ble_eq_true rfl) ⟨rfl, Nat.le_of_ble_eq_true rfl⟩ h (fun v s1 h => ?_)
      obtain ⟨r1, rfl, h⟩ := h
      refine rf_R_wv rp_75 (rf_bk am_t75 27 1) 47 [(0, .ref rf_o), (1, .int x1)] [.int r1] s1 (by repeat (first | exact trivial | refine ⟨rfl, ?_⟩)) (by decide +kernel) ?_
      refine rf_R_if (b := am_cnd .eq r1 0) (p := 91) (q := 50) (fun hb => ?_) (fun hb => ?_)
      · replace h := h.1 (of_decide_eq_true hb)
        exact rf_R_ret (pc := 91) rp_75 rfl rfl rfl ⟨rfl, h⟩
      · replace h := h.2 (of_decide_eq_false hb)
        refine rf_R_wv rp_75 (rf_bk am_t75 28 5) 50 [(0, .ref rf_o), (1, .int x1)] [] s1 (by repeat (first | exact trivial | refine ⟨rfl, ?_⟩)) (by decide +kernel) ?_
        refine And.intro h.1 ?_
        replace h := h.2
        refine rf_R_wv rp_75 (rf_bk am_t75 33 7) 57 [(0, .ref rf_o), (1, .int x1)] [] (rf_sb s1 63 x1.toNatClampNeg (Int32.ofInt 1)) (by repeat (first | exact trivial | refine ⟨rfl, ?_⟩)) (by decide +kernel) ?_
        refine rf_R_call (pc := 64) (q := ([.ref rf_o, .int (Int32.ofInt 0), .int ((Int32.ofInt 1) + x1), .int (Int32.ofInt 0), .int (Int32.ofInt 0)], [])) rp_75 rfl rfl (by decide) rp_53 rfl (Nat.le_of_ble_eq_true rfl) ⟨rfl, Nat.le_of_ble_eq_true rfl⟩ h (fun v s2 h => ?_)
        obtain ⟨rfl, h⟩ := h
        refine rf_R_wv rp_75 (rf_bk am_t75 41 1) 67 [(0, .ref rf_o), (1, .int x1)] [] s2 (by repeat (first | exact trivial | refine ⟨rfl, ?_⟩)) (by decide +kernel) ?_
        refine rf_R_call (pc := 68) (q := ([.ref rf_o], [])) rp_75 rfl rfl (by decide) rp_55 rfl (Nat.le_of_ble_eq_true rfl) ⟨rfl, Nat.le_of_ble_eq_true rfl⟩ h (fun v s3 h => ?_)
        obtain ⟨rfl, h⟩ := h
        refine rf_R_wv rp_75 (rf_bk am_t75 43 6) 71 [(0, .ref rf_o), (1, .int x1)] [] s3 (by repeat (first | exact trivial | refine ⟨rfl, ?_⟩)) (by decide +kernel) ?_
        refine And.intro rfl ?_
        refine rf_R_wv rp_75 (rf_bk am_t75 49 5) 81 [(0, .ref rf_o), (1, .int x1)] [] (rf_si s3 80 ((s3.1 80) + (Int32.ofInt 1))) (by repeat (first | exact trivial | refine ⟨rfl, ?_⟩)) (by decide +kernel) ?_
        refine And.intro h.1 ?_
        replace h := h.2
        refine rf_R_call (pc := 88) (q := ([.ref rf_o, .int (s3.2.2.1 46 x1.toNatClampNeg)], [])) rp_75 rfl rfl (by decide) rp_69 rfl (Nat.le_of_ble_eq_true rfl) ⟨rfl, Nat.le_of_ble_eq_true rfl⟩ h (fun v s4 h => ?_)
        obtain ⟨rfl, h⟩ := h
        exact rf_R_ret (pc := 91) rp_75 rfl rfl rfl ⟨rfl, h⟩
    · replace h := h.2 (Decidable.not_not.mp (of_decide_eq_false hb))
      refine rf_R_wv rp_75 (rf_bk am_t75 16 5) 28 [(0, .ref rf_o), (1, .int x1)] [] s (by repeat (first | exact trivial | refine ⟨rfl, ?_⟩)) (by decide +kernel) ?_
      refine And.intro h.1 ?_
      replace h := h.2
      refine rf_R_call (pc := 35) (q := ([.ref rf_o, .long (s.2.2.2 64 x1.toNatClampNeg)], [])) rp_75 rfl rfl (by decide) rp_68 rfl (Nat.le_of_ble_eq_true rfl) ⟨rfl, Nat.le_of_ble_eq_true rfl⟩ h (fun v s5 h => ?_)
      obtain ⟨rfl, h⟩ := h
      refine rf_R_wv rp_75 (rf_bk am_t75 22 1) 38 [(0, .ref rf_o), (1, .int x1)] [] s5 (by repeat (first | exact trivial | refine ⟨rfl, ?_⟩)) (by decide +kernel) ?_
      exact rf_R_ret (pc := 91) rp_75 rfl rfl rfl ⟨rfl, h⟩
  · replace h := h.2 (Decidable.not_not.mp (of_decide_eq_false hb))
    refine rf_R_wv rp_75 (rf_bk am_t75 6 2) 10 [(0, .ref rf_o), (1, .int x1)] [] s (by repeat (first | exact trivial | refine ⟨rfl, ?_⟩)) (by decide +kernel) ?_
    refine rf_R_call (pc := 12) (q := ([.ref rf_o, .int (Int32.ofInt 1)], [])) rp_75 rfl rfl (by decide) rp_58 rfl (Nat.le_of_ble_eq_true rfl) ⟨rfl, Nat.le_of_ble_eq_true rfl⟩ h (fun v s6 h => ?_)
    obtain ⟨rfl, h⟩ := h
    refine rf_R_wv rp_75 (rf_bk am_t75 9 1) 15 [(0, .ref rf_o), (1, .int x1)] [] s6 (by repeat (first | exact trivial | refine ⟨rfl, ?_⟩)) (by decide +kernel) ?_
    exact rf_R_ret (pc := 91) rp_75 rfl rfl rfl ⟨rfl, h⟩
/-- update ()V, from 82 on -/
def wr_update_82 (d : Nat) (s : rf_S) (Q : rf_S → Prop) : Prop := rf_V d 57 [(0, .ref rf_o)] s (fun s1 => Q s1)
set_option maxRecDepth 20000 in
theorem wr_update_82_ok {d : Nat} {s : rf_S} {Q : rf_S → Prop} (h : wr_update_82 d s Q) : rf_R (d + 1) 76 (82, [(0, .ref rf_o)], [], s) (rf_qV Q) := by
  unfold wr_update_82 at h
  refine rf_R_wv rp_76 (rf_bk am_t76 54 1) 82 [(0, .ref rf_o)] [] s (by repeat (first | exact trivial | refine ⟨rfl, ?_⟩)) (by decide +kernel) ?_
  refine rf_R_call (pc := 83) (q := ([.ref rf_o], [])) rp_76 rfl rfl (by decide) rp_57 rfl (Nat.le_of_ble_eq_true rfl) ⟨rfl, Nat.le_of_ble_eq_true rfl⟩ h (fun v s1 h => ?_)
  obtain ⟨rfl, h⟩ := h
  exact rf_R_ret (pc := 86) rp_76 rfl rfl rfl ⟨rfl, h⟩
/-- update ()V, from 0 on -/
def wr_update (d : Nat) (s : rf_S) (Q : rf_S → Prop) : Prop := (rf_in ((s.1 65) - (Int32.ofInt 1)) 1600 ∧ ((((s.2.2.1 67 ((s.1 65) - (Int32.ofInt 1)).toNatClampNeg) - (Int32.ofInt 1)) < 0 → (rf_in ((s.1 65) - (Int32.ofInt 1)) 1601 ∧ rf_in (s.2.2.1 70 ((s.1 65) - (Int32.ofInt 1)).toNatClampNeg) 6000 ∧ rf_in ((s.2.2.2 71 (s.2.2.1 70 ((s.1 65) - (Int32.ofInt 1)).toNatClampNeg).toNatClampNeg).toInt32) 36000 ∧ (rf_in ((s.2.2.2 71 (s.2.2.1 70 ((s.1 65) - (Int32.ofInt 1)).toNatClampNeg).toNatClampNeg).toInt32) 36000 ∧ (rf_in ((s.2.2.2 71 (s.2.2.1 70 ((s.1 65) - (Int32.ofInt 1)).toNatClampNeg).toNatClampNeg).toInt32) 36001 ∧ rf_in (s.2.2.1 51 ((s.2.2.2 71 (s.2.2.1 70 ((s.1 65) - (Int32.ofInt 1)).toNatClampNeg).toNatClampNeg).toInt32).toNatClampNeg) 47000 ∧ wr_update_82 d (rf_sL (rf_sb (rf_sb s 49 ((s.2.2.2 71 (s.2.2.1 70 ((s.1 65) - (Int32.ofInt 1)).toNatClampNeg).toNatClampNeg).toInt32).toNatClampNeg (Int32.ofInt 2)) 52 ((s.2.2.2 71 (s.2.2.1 70 ((s.1 65) - (Int32.ofInt 1)).toNatClampNeg).toNatClampNeg).toInt32).toNatClampNeg (Int32.ofInt 1)) 58 (s.2.2.1 51 ((s.2.2.2 71 (s.2.2.1 70 ((s.1 65) - (Int32.ofInt 1)).toNatClampNeg).toNatClampNeg).toInt32).toNatClampNeg).toNatClampNeg (s.2.1 77)) Q)))) ∧ (¬ (((s.2.2.1 67 ((s.1 65) - (Int32.ofInt 1)).toNatClampNeg) - (Int32.ofInt 1)) < 0) → (rf_in ((s.2.2.1 67 ((s.1 65) - (Int32.ofInt 1)).toNatClampNeg) - (Int32.ofInt 1)) 700 ∧ (rf_in ((s.2.2.1 67 ((s.1 65) - (Int32.ofInt 1)).toNatClampNeg) - (Int32.ofInt 1)) 700 ∧ wr_update_82 d (rf_sL (rf_sb s 63 ((s.2.2.1 67 ((s.1 65) - (Int32.ofInt 1)).toNatClampNeg) - (Int32.ofInt 1)).toNatClampNeg (Int32.ofInt 2)) 64 ((s.2.2.1 67 ((s.1 65) - (Int32.ofInt 1)).toNatClampNeg) - (Int32.ofInt 1)).toNatClampNeg (s.2.1 77)) Q)))))
set_option maxRecDepth 20000 in
theorem wr_update_ok {d : Nat} {s : rf_S} {Q : rf_S → Prop} (h : wr_update d s Q) : rf_V (d + 1) 76 [(0, .ref rf_o)] s Q := by
  unfold wr_update at h
  unfold rf_V
  refine rf_R_wv rp_76 (rf_bk am_t76 0 14) 0 [(0, .ref rf_o)] [] s (by repeat (first | exact trivial | refine ⟨rfl, ?_⟩)) (by decide +kernel) ?_
  refine And.intro h.1 ?_
  replace h := h.2
  refine rf_R_if (b := am_cnd .lt ((s.2.2.1 67 ((s.1 65) - (Int32.ofInt 1)).toNatClampNeg) - (Int32.ofInt 1)) 0) (p := 40) (q := 20) (fun hb => ?_) (fun hb => ?_)
  · replace h := h.1 (of_decide_eq_true hb)
    refine rf_R_wv rp_76 (rf_bk am_t76 26 14) 40 [(2, .int ((s.2.2.1 67 ((s.1 65) - (Int32.ofInt 1)).toNatClampNeg) - (Int32.ofInt 1))), (1, .int ((s.1 65) - (Int32.ofInt 1))), (0, .ref rf_o)] [] s (by repeat (first | exact trivial | refine ⟨rfl, ?_⟩)) (by decide +kernel) ?_
    refine And.intro h.1 ?_
    replace h := h.2
    refine And.intro h.1 ?_
    replace h := h.2
    refine And.intro h.1 ?_
    replace h := h.2
    refine rf_R_wv rp_76 (rf_bk am_t76 40 5) 60 [(3, .int ((s.2.2.2 71 (s.2.2.1 70 ((s.1 65) - (Int32.ofInt 1)).toNatClampNeg).toNatClampNeg).toInt32)), (2, .int ((s.2.2.1 67 ((s.1 65) - (Int32.ofInt 1)).toNatClampNeg) - (Int32.ofInt 1))), (1, .int ((s.1 65) - (Int32.ofInt 1))), (0, .ref rf_o)] [] (rf_sb s 49 ((s.2.2.2 71 (s.2.2.1 70 ((s.1 65) - (Int32.ofInt 1)).toNatClampNeg).toNatClampNeg).toInt32).toNatClampNeg (Int32.ofInt 2)) (by repeat (first | exact trivial | refine ⟨rfl, ?_⟩)) (by decide +kernel) ?_
    refine And.intro h.1 ?_
    replace h := h.2
    refine rf_R_wv rp_76 (rf_bk am_t76 45 9) 67 [(3, .int ((s.2.2.2 71 (s.2.2.1 70 ((s.1 65) - (Int32.ofInt 1)).toNatClampNeg).toNatClampNeg).toInt32)), (2, .int ((s.2.2.1 67 ((s.1 65) - (Int32.ofInt 1)).toNatClampNeg) - (Int32.ofInt 1))), (1, .int ((s.1 65) - (Int32.ofInt 1))), (0, .ref rf_o)] [] (rf_sb (rf_sb s 49 ((s.2.2.2 71 (s.2.2.1 70 ((s.1 65) - (Int32.ofInt 1)).toNatClampNeg).toNatClampNeg).toInt32).toNatClampNeg (Int32.ofInt 2)) 52 ((s.2.2.2 71 (s.2.2.1 70 ((s.1 65) - (Int32.ofInt 1)).toNatClampNeg).toNatClampNeg).toInt32).toNatClampNeg (Int32.ofInt 1)) (by repeat (first | exact trivial | refine ⟨rfl, ?_⟩)) (by decide +kernel) ?_
    refine And.intro h.1 ?_
    replace h := h.2
    refine And.intro h.1 ?_
    replace h := h.2
    exact rf_R_le (l := [(0, .ref rf_o)]) rfl rfl (⟨rfl, trivial⟩) (wr_update_82_ok h)
  · replace h := h.2 (of_decide_eq_false hb)
    refine rf_R_wv rp_76 (rf_bk am_t76 14 5) 20 [(2, .int ((s.2.2.1 67 ((s.1 65) - (Int32.ofInt 1)).toNatClampNeg) - (Int32.ofInt 1))), (1, .int ((s.1 65) - (Int32.ofInt 1))), (0, .ref rf_o)] [] s (by repeat (first | exact trivial | refine ⟨rfl, ?_⟩)) (by decide +kernel) ?_
    refine And.intro h.1 ?_
    replace h := h.2
    refine rf_R_wv rp_76 (rf_bk am_t76 19 6) 27 [(2, .int ((s.2.2.1 67 ((s.1 65) - (Int32.ofInt 1)).toNatClampNeg) - (Int32.ofInt 1))), (1, .int ((s.1 65) - (Int32.ofInt 1))), (0, .ref rf_o)] [] (rf_sb s 63 ((s.2.2.1 67 ((s.1 65) - (Int32.ofInt 1)).toNatClampNeg) - (Int32.ofInt 1)).toNatClampNeg (Int32.ofInt 2)) (by repeat (first | exact trivial | refine ⟨rfl, ?_⟩)) (by decide +kernel) ?_
    refine And.intro h.1 ?_
    replace h := h.2
    refine rf_R_wv rp_76 (rf_bk am_t76 25 1) 37 [(2, .int ((s.2.2.1 67 ((s.1 65) - (Int32.ofInt 1)).toNatClampNeg) - (Int32.ofInt 1))), (1, .int ((s.1 65) - (Int32.ofInt 1))), (0, .ref rf_o)] [] (rf_sL (rf_sb s 63 ((s.2.2.1 67 ((s.1 65) - (Int32.ofInt 1)).toNatClampNeg) - (Int32.ofInt 1)).toNatClampNeg (Int32.ofInt 2)) 64 ((s.2.2.1 67 ((s.1 65) - (Int32.ofInt 1)).toNatClampNeg) - (Int32.ofInt 1)).toNatClampNeg (s.2.1 77)) (by repeat (first | exact trivial | refine ⟨rfl, ?_⟩)) (by decide +kernel) ?_
    exact rf_R_le (l := [(0, .ref rf_o)]) rfl rfl (⟨rfl, trivial⟩) (wr_update_82_ok h)
/-- isDatum (J)Z, from 0 on -/
def wr_isDatum (d : Nat) (x1 : Int64) (s : rf_S) (Q : Int32 → rf_S → Prop) : Prop := rf_I d 45 [(0, .long x1)] s (fun r1 s1 => ((¬ r1 = (Int32.ofInt 3) → Q (Int32.ofInt 0) s1) ∧ (r1 = (Int32.ofInt 3) → (rf_in (x1.toInt32) 36000 ∧ ((¬ (s1.2.2.1 49 (x1.toInt32).toNatClampNeg) = (Int32.ofInt 4) → Q (Int32.ofInt 0) s1) ∧ ((s1.2.2.1 49 (x1.toInt32).toNatClampNeg) = (Int32.ofInt 4) → Q (Int32.ofInt 1) s1))))))
set_option maxRecDepth 20000 in
theorem wr_isDatum_ok {d : Nat} {x1 : Int64} {s : rf_S} {Q : Int32 → rf_S → Prop} (h : wr_isDatum d x1 s Q) : rf_I (d + 1) 77 [(0, .ref rf_o), (1, .long x1)] s Q := by
  unfold wr_isDatum at h
  unfold rf_I
  refine rf_R_wv rp_77 (rf_bk am_t77 0 1) 0 [(0, .ref rf_o), (1, .long x1)] [] s (by repeat (first | exact trivial | refine ⟨rfl, ?_⟩)) (by decide +kernel) ?_
  refine rf_R_call (pc := 1) (q := ([.long x1], [])) rp_77 rfl rfl (by decide) rp_45 rfl (Nat.le_of_ble_eq_true rfl) ⟨rfl, Nat.le_of_ble_eq_true rfl⟩ h (fun v s1 h => ?_)
  obtain ⟨r1, rfl, h⟩ := h
  refine rf_R_wv rp_77 (rf_bk am_t77 2 2) 4 [(0, .ref rf_o), (1, .long x1)] [.int r1] s1 (by repeat (first | exact trivial | refine ⟨rfl, ?_⟩)) (by decide +kernel) ?_
  refine rf_R_if (b := am_cnd .ne r1 (Int32.ofInt 3)) (p := 23) (q := 8) (fun hb => ?_) (fun hb => ?_)
  · replace h := h.1 (of_decide_eq_true hb)
    refine rf_R_wv rp_77 (rf_bk am_t77 13 1) 23 [(0, .ref rf_o), (1, .long x1)] [] s1 (by repeat (first | exact trivial | refine ⟨rfl, ?_⟩)) (by decide +kernel) ?_
    exact rf_R_ret (pc := 24) (v := some (.int (Int32.ofInt 0))) rp_77 rfl rfl rfl ⟨_, rfl, h⟩
  · replace h := h.2 (Decidable.not_not.mp (of_decide_eq_false hb))
    refine rf_R_wv rp_77 (rf_bk am_t77 4 7) 8 [(0, .ref rf_o), (1, .long x1)] [] s1 (by repeat (first | exact trivial | refine ⟨rfl, ?_⟩)) (by decide +kernel) ?_
    refine And.intro h.1 ?_
    replace h := h.2
    refine rf_R_if (b := am_cnd .ne (s1.2.2.1 49 (x1.toInt32).toNatClampNeg) (Int32.ofInt 4)) (p := 23) (q := 19) (fun hb => ?_) (fun hb => ?_)
    · replace h := h.1 (of_decide_eq_true hb)
      refine rf_R_wv rp_77 (rf_bk am_t77 13 1) 23 [(0, .ref rf_o), (1, .long x1)] [] s1 (by repeat (first | exact trivial | refine ⟨rfl, ?_⟩)) (by decide +kernel) ?_
      exact rf_R_ret (pc := 24) (v := some (.int (Int32.ofInt 0))) rp_77 rfl rfl rfl ⟨_, rfl, h⟩
    · replace h := h.2 (Decidable.not_not.mp (of_decide_eq_false hb))
      refine rf_R_wv rp_77 (rf_bk am_t77 11 2) 19 [(0, .ref rf_o), (1, .long x1)] [] s1 (by repeat (first | exact trivial | refine ⟨rfl, ?_⟩)) (by decide +kernel) ?_
      exact rf_R_ret (pc := 24) (v := some (.int (Int32.ofInt 1))) rp_77 rfl rfl rfl ⟨_, rfl, h⟩
