/-! PART 41: the reference, decompiled: letters, addMaker, isIn, byteAt, isDigit, isLetter, isText, signOf, next, fails, isSign, passes, opens, node, keep, lists, isSame, scope, variableIn -/
/-- letters (IIIII)V, from 0 on -/
def wr_letters (d : Nat) (x1 : Int32) (x2 : Int32) (x3 : Int32) (x4 : Int32) (x5 : Int32) (s : rf_S) (Q : rf_S → Prop) : Prop := (rf_in (s.1 39) 2100 ∧ (rf_in ((s.1 39) + (Int32.ofInt 1)) 2100 ∧ (rf_in ((s.1 39) + (Int32.ofInt 2)) 2100 ∧ (rf_in ((s.1 39) + (Int32.ofInt 3)) 2100 ∧ (rf_in ((s.1 39) + (Int32.ofInt 4)) 2100 ∧ Q (rf_si (rf_sb (rf_sb (rf_sb (rf_sb (rf_sb s 38 (s.1 39).toNatClampNeg x1) 38 ((s.1 39) + (Int32.ofInt 1)).toNatClampNeg x2) 38 ((s.1 39) + (Int32.ofInt 2)).toNatClampNeg x3) 38 ((s.1 39) + (Int32.ofInt 3)).toNatClampNeg x4) 38 ((s.1 39) + (Int32.ofInt 4)).toNatClampNeg x5) 39 ((s.1 39) + (Int32.ofInt 5))))))))
set_option maxRecDepth 20000 in
theorem wr_letters_ok {d : Nat} {x1 : Int32} {x2 : Int32} {x3 : Int32} {x4 : Int32} {x5 : Int32} {s : rf_S} {Q : rf_S → Prop} (h : wr_letters d x1 x2 x3 x4 x5 s Q) : rf_V d 1 [(0, .ref rf_o), (1, .int x1), (2, .int x2), (3, .int x3), (4, .int x4), (5, .int x5)] s Q := by
  unfold wr_letters at h
  unfold rf_V
  refine rf_R_wv rp_1 (rf_bk am_t1 0 6) 0 [(0, .ref rf_o), (1, .int x1), (2, .int x2), (3, .int x3), (4, .int x4), (5, .int x5)] [] s (by repeat (first | exact trivial | refine ⟨rfl, ?_⟩)) (by decide +kernel) ?_
  refine And.intro h.1 ?_
  replace h := h.2
  refine rf_R_wv rp_1 (rf_bk am_t1 6 8) 10 [(0, .ref rf_o), (1, .int x1), (2, .int x2), (3, .int x3), (4, .int x4), (5, .int x5)] [] (rf_sb s 38 (s.1 39).toNatClampNeg x1) (by repeat (first | exact trivial | refine ⟨rfl, ?_⟩)) (by decide +kernel) ?_
  refine And.intro h.1 ?_
  replace h := h.2
  refine rf_R_wv rp_1 (rf_bk am_t1 14 8) 22 [(0, .ref rf_o), (1, .int x1), (2, .int x2), (3, .int x3), (4, .int x4), (5, .int x5)] [] (rf_sb (rf_sb s 38 (s.1 39).toNatClampNeg x1) 38 ((s.1 39) + (Int32.ofInt 1)).toNatClampNeg x2) (by repeat (first | exact trivial | refine ⟨rfl, ?_⟩)) (by decide +kernel) ?_
  refine And.intro h.1 ?_
  replace h := h.2
  refine rf_R_wv rp_1 (rf_bk am_t1 22 8) 34 [(0, .ref rf_o), (1, .int x1), (2, .int x2), (3, .int x3), (4, .int x4), (5, .int x5)] [] (rf_sb (rf_sb (rf_sb s 38 (s.1 39).toNatClampNeg x1) 38 ((s.1 39) + (Int32.ofInt 1)).toNatClampNeg x2) 38 ((s.1 39) + (Int32.ofInt 2)).toNatClampNeg x3) (by repeat (first | exact trivial | refine ⟨rfl, ?_⟩)) (by decide +kernel) ?_
  refine And.intro h.1 ?_
  replace h := h.2
  refine rf_R_wv rp_1 (rf_bk am_t1 30 8) 47 [(0, .ref rf_o), (1, .int x1), (2, .int x2), (3, .int x3), (4, .int x4), (5, .int x5)] [] (rf_sb (rf_sb (rf_sb (rf_sb s 38 (s.1 39).toNatClampNeg x1) 38 ((s.1 39) + (Int32.ofInt 1)).toNatClampNeg x2) 38 ((s.1 39) + (Int32.ofInt 2)).toNatClampNeg x3) 38 ((s.1 39) + (Int32.ofInt 3)).toNatClampNeg x4) (by repeat (first | exact trivial | refine ⟨rfl, ?_⟩)) (by decide +kernel) ?_
  refine And.intro h.1 ?_
  replace h := h.2
  refine rf_R_wv rp_1 (rf_bk am_t1 38 6) 60 [(0, .ref rf_o), (1, .int x1), (2, .int x2), (3, .int x3), (4, .int x4), (5, .int x5)] [] (rf_sb (rf_sb (rf_sb (rf_sb (rf_sb s 38 (s.1 39).toNatClampNeg x1) 38 ((s.1 39) + (Int32.ofInt 1)).toNatClampNeg x2) 38 ((s.1 39) + (Int32.ofInt 2)).toNatClampNeg x3) 38 ((s.1 39) + (Int32.ofInt 3)).toNatClampNeg x4) 38 ((s.1 39) + (Int32.ofInt 4)).toNatClampNeg x5) (by repeat (first | exact trivial | refine ⟨rfl, ?_⟩)) (by decide +kernel) ?_
  refine And.intro rfl ?_
  exact rf_R_ret (pc := 70) rp_1 rfl rfl rfl ⟨rfl, h⟩
/-- addMaker (II)V, from 0 on -/
def wr_addMaker (d : Nat) (x1 : Int32) (x2 : Int32) (s : rf_S) (Q : rf_S → Prop) : Prop := (rf_in (s.1 35) 1100 ∧ (rf_in (s.1 35) 1100 ∧ Q (rf_si (rf_sb (rf_sb s 36 (s.1 35).toNatClampNeg x1) 37 (s.1 35).toNatClampNeg x2) 35 ((s.1 35) + (Int32.ofInt 1)))))
set_option maxRecDepth 20000 in
theorem wr_addMaker_ok {d : Nat} {x1 : Int32} {x2 : Int32} {s : rf_S} {Q : rf_S → Prop} (h : wr_addMaker d x1 x2 s Q) : rf_V d 2 [(0, .ref rf_o), (1, .int x1), (2, .int x2)] s Q := by
  unfold wr_addMaker at h
  unfold rf_V
  refine rf_R_wv rp_2 (rf_bk am_t2 0 6) 0 [(0, .ref rf_o), (1, .int x1), (2, .int x2)] [] s (by repeat (first | exact trivial | refine ⟨rfl, ?_⟩)) (by decide +kernel) ?_
  refine And.intro h.1 ?_
  replace h := h.2
  refine rf_R_wv rp_2 (rf_bk am_t2 6 6) 10 [(0, .ref rf_o), (1, .int x1), (2, .int x2)] [] (rf_sb s 36 (s.1 35).toNatClampNeg x1) (by repeat (first | exact trivial | refine ⟨rfl, ?_⟩)) (by decide +kernel) ?_
  refine And.intro h.1 ?_
  replace h := h.2
  refine rf_R_wv rp_2 (rf_bk am_t2 12 6) 20 [(0, .ref rf_o), (1, .int x1), (2, .int x2)] [] (rf_sb (rf_sb s 36 (s.1 35).toNatClampNeg x1) 37 (s.1 35).toNatClampNeg x2) (by repeat (first | exact trivial | refine ⟨rfl, ?_⟩)) (by decide +kernel) ?_
  refine And.intro rfl ?_
  exact rf_R_ret (pc := 30) rp_2 rfl rfl rfl ⟨rfl, h⟩
/-- isIn (III)Z, from 0 on -/
def wr_isIn (d : Nat) (x0 : Int32) (x1 : Int32) (x2 : Int32) (s : rf_S) (Q : Int32 → rf_S → Prop) : Prop := ((x0 < x1 → Q (Int32.ofInt 0) s) ∧ (¬ (x0 < x1) → ((x2 < x0 → Q (Int32.ofInt 0) s) ∧ (¬ (x2 < x0) → Q (Int32.ofInt 1) s))))
set_option maxRecDepth 20000 in
theorem wr_isIn_ok {d : Nat} {x0 : Int32} {x1 : Int32} {x2 : Int32} {s : rf_S} {Q : Int32 → rf_S → Prop} (h : wr_isIn d x0 x1 x2 s Q) : rf_I d 3 [(0, .int x0), (1, .int x1), (2, .int x2)] s Q := by
  unfold wr_isIn at h
  unfold rf_I
  refine rf_R_wv rp_3 (rf_bk am_t3 0 3) 0 [(0, .int x0), (1, .int x1), (2, .int x2)] [] s (by repeat (first | exact trivial | refine ⟨rfl, ?_⟩)) (by decide +kernel) ?_
  refine rf_R_if (b := am_cnd .lt x0 x1) (p := 14) (q := 5) (fun hb => ?_) (fun hb => ?_)
  · replace h := h.1 (of_decide_eq_true hb)
    refine rf_R_wv rp_3 (rf_bk am_t3 8 1) 14 [(0, .int x0), (1, .int x1), (2, .int x2)] [] s (by repeat (first | exact trivial | refine ⟨rfl, ?_⟩)) (by decide +kernel) ?_
    exact rf_R_ret (pc := 15) (v := some (.int (Int32.ofInt 0))) rp_3 rfl rfl rfl ⟨_, rfl, h⟩
  · replace h := h.2 (of_decide_eq_false hb)
    refine rf_R_wv rp_3 (rf_bk am_t3 3 3) 5 [(0, .int x0), (1, .int x1), (2, .int x2)] [] s (by repeat (first | exact trivial | refine ⟨rfl, ?_⟩)) (by decide +kernel) ?_
    refine rf_R_if (b := am_cnd .gt x0 x2) (p := 14) (q := 10) (fun hb => ?_) (fun hb => ?_)
    · replace h := h.1 (of_decide_eq_true hb)
      refine rf_R_wv rp_3 (rf_bk am_t3 8 1) 14 [(0, .int x0), (1, .int x1), (2, .int x2)] [] s (by repeat (first | exact trivial | refine ⟨rfl, ?_⟩)) (by decide +kernel) ?_
      exact rf_R_ret (pc := 15) (v := some (.int (Int32.ofInt 0))) rp_3 rfl rfl rfl ⟨_, rfl, h⟩
    · replace h := h.2 (of_decide_eq_false hb)
      refine rf_R_wv rp_3 (rf_bk am_t3 6 2) 10 [(0, .int x0), (1, .int x1), (2, .int x2)] [] s (by repeat (first | exact trivial | refine ⟨rfl, ?_⟩)) (by decide +kernel) ?_
      exact rf_R_ret (pc := 15) (v := some (.int (Int32.ofInt 1))) rp_3 rfl rfl rfl ⟨_, rfl, h⟩
/-- byteAt (I)I, from 0 on -/
def wr_byteAt (d : Nat) (x1 : Int32) (s : rf_S) (Q : Int32 → rf_S → Prop) : Prop := (((s.1 3) ≤ x1 → Q (Int32.ofInt 0) s) ∧ (¬ ((s.1 3) ≤ x1) → (rf_in x1 2000 ∧ Q (s.2.2.1 2 x1.toNatClampNeg) s)))
set_option maxRecDepth 20000 in
theorem wr_byteAt_ok {d : Nat} {x1 : Int32} {s : rf_S} {Q : Int32 → rf_S → Prop} (h : wr_byteAt d x1 s Q) : rf_I d 4 [(0, .ref rf_o), (1, .int x1)] s Q := by
  unfold wr_byteAt at h
  unfold rf_I
  refine rf_R_wv rp_4 (rf_bk am_t4 0 4) 0 [(0, .ref rf_o), (1, .int x1)] [] s (by repeat (first | exact trivial | refine ⟨rfl, ?_⟩)) (by decide +kernel) ?_
  refine rf_R_if (b := am_cnd .ge x1 (s.1 3)) (p := 17) (q := 8) (fun hb => ?_) (fun hb => ?_)
  · replace h := h.1 (of_decide_eq_true hb)
    refine rf_R_wv rp_4 (rf_bk am_t4 9 1) 17 [(0, .ref rf_o), (1, .int x1)] [] s (by repeat (first | exact trivial | refine ⟨rfl, ?_⟩)) (by decide +kernel) ?_
    exact rf_R_ret (pc := 18) (v := some (.int (Int32.ofInt 0))) rp_4 rfl rfl rfl ⟨_, rfl, h⟩
  · replace h := h.2 (of_decide_eq_false hb)
    refine rf_R_wv rp_4 (rf_bk am_t4 4 5) 8 [(0, .ref rf_o), (1, .int x1)] [] s (by repeat (first | exact trivial | refine ⟨rfl, ?_⟩)) (by decide +kernel) ?_
    refine And.intro h.1 ?_
    replace h := h.2
    exact rf_R_ret (pc := 18) (v := some (.int (s.2.2.1 2 x1.toNatClampNeg))) rp_4 rfl rfl rfl ⟨_, rfl, h⟩
/-- isDigit (I)Z, from 0 on -/
def wr_isDigit (d : Nat) (x0 : Int32) (s : rf_S) (Q : Int32 → rf_S → Prop) : Prop := rf_I d 3 [(0, .int x0), (1, .int ((Int8.ofInt 48).toInt32)), (2, .int ((Int8.ofInt 57).toInt32))] s (fun r1 s1 => (am_fit .boolean (.int r1) = true ∧ Q r1 s1))
set_option maxRecDepth 20000 in
theorem wr_isDigit_ok {d : Nat} {x0 : Int32} {s : rf_S} {Q : Int32 → rf_S → Prop} (h : wr_isDigit d x0 s Q) : rf_I (d + 1) 5 [(0, .int x0)] s Q := by
  unfold wr_isDigit at h
  unfold rf_I
  refine rf_R_wv rp_5 (rf_bk am_t5 0 3) 0 [(0, .int x0)] [] s (by repeat (first | exact trivial | refine ⟨rfl, ?_⟩)) (by decide +kernel) ?_
  refine rf_R_call (pc := 5) (q := ([.int x0, .int ((Int8.ofInt 48).toInt32), .int ((Int8.ofInt 57).toInt32)], [])) rp_5 rfl rfl (by decide) rp_3 rfl (Nat.le_of_ble_eq_true rfl) ⟨rfl, Nat.le_of_ble_eq_true rfl⟩ h (fun v s1 h => ?_)
  obtain ⟨r1, rfl, h⟩ := h
  exact rf_R_retF (pc := 8) rp_5 rfl rfl h.1 ⟨_, rfl, h.2⟩
/-- isLetter (I)Z, from 22 on -/
def wr_isLetter_22 (d : Nat) (s : rf_S) (Q : Int32 → rf_S → Prop) : Prop := Q (Int32.ofInt 1) s
set_option maxRecDepth 20000 in
theorem wr_isLetter_22_ok {d : Nat} {s : rf_S} {Q : Int32 → rf_S → Prop} (h : wr_isLetter_22 d s Q) : rf_R (d + 1) 6 (22, [], [], s) (rf_qI Q) := by
  unfold wr_isLetter_22 at h
  refine rf_R_wv rp_6 (rf_bk am_t6 10 2) 22 [] [] s (by repeat (first | exact trivial | refine ⟨rfl, ?_⟩)) (by decide +kernel) ?_
  exact rf_R_ret (pc := 27) (v := some (.int (Int32.ofInt 1))) rp_6 rfl rfl rfl ⟨_, rfl, h⟩
/-- isLetter (I)Z, from 0 on -/
def wr_isLetter (d : Nat) (x0 : Int32) (s : rf_S) (Q : Int32 → rf_S → Prop) : Prop := rf_I d 3 [(0, .int x0), (1, .int ((Int8.ofInt 97).toInt32)), (2, .int ((Int8.ofInt 122).toInt32))] s (fun r1 s1 => ((¬ r1 = 0 → wr_isLetter_22 d s1 Q) ∧ (r1 = 0 → rf_I d 3 [(0, .int x0), (1, .int ((Int8.ofInt 65).toInt32)), (2, .int ((Int8.ofInt 90).toInt32))] s1 (fun r2 s2 => ((r2 = 0 → Q (Int32.ofInt 0) s2) ∧ (¬ (r2 = 0) → wr_isLetter_22 d s2 Q))))))
set_option maxRecDepth 20000 in
theorem wr_isLetter_ok {d : Nat} {x0 : Int32} {s : rf_S} {Q : Int32 → rf_S → Prop} (h : wr_isLetter d x0 s Q) : rf_I (d + 1) 6 [(0, .int x0)] s Q := by
  unfold wr_isLetter at h
  unfold rf_I
  refine rf_R_wv rp_6 (rf_bk am_t6 0 3) 0 [(0, .int x0)] [] s (by repeat (first | exact trivial | refine ⟨rfl, ?_⟩)) (by decide +kernel) ?_
  refine rf_R_call (pc := 5) (q := ([.int x0, .int ((Int8.ofInt 97).toInt32), .int ((Int8.ofInt 122).toInt32)], [])) rp_6 rfl rfl (by decide) rp_3 rfl (Nat.le_of_ble_eq_true rfl) ⟨rfl, Nat.le_of_ble_eq_true rfl⟩ h (fun v s1 h => ?_)
  obtain ⟨r1, rfl, h⟩ := h
  refine rf_R_wv rp_6 (rf_bk am_t6 4 1) 8 [(0, .int x0)] [.int r1] s1 (by repeat (first | exact trivial | refine ⟨rfl, ?_⟩)) (by decide +kernel) ?_
  refine rf_R_if (b := am_cnd .ne r1 0) (p := 22) (q := 11) (fun hb => ?_) (fun hb => ?_)
  · replace h := h.1 (of_decide_eq_true hb)
    exact rf_R_le (l := []) rfl rfl trivial (wr_isLetter_22_ok h)
  · replace h := h.2 (Decidable.not_not.mp (of_decide_eq_false hb))
    refine rf_R_wv rp_6 (rf_bk am_t6 5 3) 11 [(0, .int x0)] [] s1 (by repeat (first | exact trivial | refine ⟨rfl, ?_⟩)) (by decide +kernel) ?_
    refine rf_R_call (pc := 16) (q := ([.int x0, .int ((Int8.ofInt 65).toInt32), .int ((Int8.ofInt 90).toInt32)], [])) rp_6 rfl rfl (by decide) rp_3 rfl (Nat.le_of_ble_eq_true rfl) ⟨rfl, Nat.le_of_ble_eq_true rfl⟩ h (fun v s2 h => ?_)
    obtain ⟨r2, rfl, h⟩ := h
    refine rf_R_wv rp_6 (rf_bk am_t6 9 1) 19 [(0, .int x0)] [.int r2] s2 (by repeat (first | exact trivial | refine ⟨rfl, ?_⟩)) (by decide +kernel) ?_
    refine rf_R_if (b := am_cnd .eq r2 0) (p := 26) (q := 22) (fun hb => ?_) (fun hb => ?_)
    · replace h := h.1 (of_decide_eq_true hb)
      refine rf_R_wv rp_6 (rf_bk am_t6 12 1) 26 [(0, .int x0)] [] s2 (by repeat (first | exact trivial | refine ⟨rfl, ?_⟩)) (by decide +kernel) ?_
      exact rf_R_ret (pc := 27) (v := some (.int (Int32.ofInt 0))) rp_6 rfl rfl rfl ⟨_, rfl, h⟩
    · replace h := h.2 (of_decide_eq_false hb)
      exact rf_R_le (l := []) rfl rfl trivial (wr_isLetter_22_ok h)
/-- isText (IIII)Z, from 95 on -/
def wr_isText_95 (d : Nat) (s : rf_S) (Q : Int32 → rf_S → Prop) : Prop := Q (Int32.ofInt 1) s
set_option maxRecDepth 20000 in
theorem wr_isText_95_ok {d : Nat} {s : rf_S} {Q : Int32 → rf_S → Prop} (h : wr_isText_95 d s Q) : rf_R d 7 (95, [], [], s) (rf_qI Q) := by
  unfold wr_isText_95 at h
  refine rf_R_wv rp_7 (rf_bk am_t7 52 2) 95 [] [] s (by repeat (first | exact trivial | refine ⟨rfl, ?_⟩)) (by decide +kernel) ?_
  exact rf_R_ret (pc := 100) (v := some (.int (Int32.ofInt 1))) rp_7 rfl rfl rfl ⟨_, rfl, h⟩
/-- isText (IIII)Z, from 74 on -/
def wr_isText_74 (d : Nat) (x4 : Int32) (s : rf_S) (Q : Int32 → rf_S → Prop) : Prop := ((x4 = 0 → wr_isText_95 d s Q) ∧ (¬ (x4 = 0) → (rf_in ((s.1 6) + (Int32.ofInt 3)) 2000 ∧ ((¬ (s.2.2.1 2 ((s.1 6) + (Int32.ofInt 3)).toNatClampNeg) = x4 → Q (Int32.ofInt 0) s) ∧ ((s.2.2.1 2 ((s.1 6) + (Int32.ofInt 3)).toNatClampNeg) = x4 → wr_isText_95 d s Q)))))
set_option maxRecDepth 20000 in
theorem wr_isText_74_ok {d : Nat} {x4 : Int32} {s : rf_S} {Q : Int32 → rf_S → Prop} (h : wr_isText_74 d x4 s Q) : rf_R d 7 (74, [(0, .ref rf_o), (4, .int x4)], [], s) (rf_qI Q) := by
  unfold wr_isText_74 at h
  refine rf_R_wv rp_7 (rf_bk am_t7 41 2) 74 [(0, .ref rf_o), (4, .int x4)] [] s (by repeat (first | exact trivial | refine ⟨rfl, ?_⟩)) (by decide +kernel) ?_
  refine rf_R_if (b := am_cnd .eq x4 0) (p := 95) (q := 79) (fun hb => ?_) (fun hb => ?_)
  · replace h := h.1 (of_decide_eq_true hb)
    exact rf_R_le (l := []) rfl rfl trivial (wr_isText_95_ok h)
  · replace h := h.2 (of_decide_eq_false hb)
    refine rf_R_wv rp_7 (rf_bk am_t7 43 9) 79 [(0, .ref rf_o), (4, .int x4)] [] s (by repeat (first | exact trivial | refine ⟨rfl, ?_⟩)) (by decide +kernel) ?_
    refine And.intro h.1 ?_
    replace h := h.2
    refine rf_R_if (b := am_cnd .ne (s.2.2.1 2 ((s.1 6) + (Int32.ofInt 3)).toNatClampNeg) x4) (p := 99) (q := 95) (fun hb => ?_) (fun hb => ?_)
    · replace h := h.1 (of_decide_eq_true hb)
      refine rf_R_wv rp_7 (rf_bk am_t7 54 1) 99 [(0, .ref rf_o), (4, .int x4)] [] s (by repeat (first | exact trivial | refine ⟨rfl, ?_⟩)) (by decide +kernel) ?_
      exact rf_R_ret (pc := 100) (v := some (.int (Int32.ofInt 0))) rp_7 rfl rfl rfl ⟨_, rfl, h⟩
    · replace h := h.2 (Decidable.not_not.mp (of_decide_eq_false hb))
      exact rf_R_le (l := []) rfl rfl trivial (wr_isText_95_ok h)
/-- isText (IIII)Z, from 22 on -/
def wr_isText_22 (d : Nat) (x1 : Int32) (x2 : Int32) (x3 : Int32) (x4 : Int32) (y0 : Int32) (y1 : Int32) (s : rf_S) (Q : Int32 → rf_S → Prop) : Prop := ((y1 = y0 → (rf_in (s.1 6) 2000 ∧ ((¬ (s.2.2.1 2 (s.1 6).toNatClampNeg) = x1 → Q (Int32.ofInt 0) s) ∧ ((s.2.2.1 2 (s.1 6).toNatClampNeg) = x1 → (rf_in ((s.1 6) + (Int32.ofInt 1)) 2000 ∧ ((¬ (s.2.2.1 2 ((s.1 6) + (Int32.ofInt 1)).toNatClampNeg) = x2 → Q (Int32.ofInt 0) s) ∧ ((s.2.2.1 2 ((s.1 6) + (Int32.ofInt 1)).toNatClampNeg) = x2 → ((x3 = 0 → wr_isText_74 d x4 s Q) ∧ (¬ (x3 = 0) → (rf_in ((s.1 6) + (Int32.ofInt 2)) 2000 ∧ ((¬ (s.2.2.1 2 ((s.1 6) + (Int32.ofInt 2)).toNatClampNeg) = x3 → Q (Int32.ofInt 0) s) ∧ ((s.2.2.1 2 ((s.1 6) + (Int32.ofInt 2)).toNatClampNeg) = x3 → wr_isText_74 d x4 s Q)))))))))))) ∧ (¬ (y1 = y0) → Q (Int32.ofInt 0) s))
set_option maxRecDepth 20000 in
theorem wr_isText_22_ok {d : Nat} {x1 : Int32} {x2 : Int32} {x3 : Int32} {x4 : Int32} {y0 : Int32} {y1 : Int32} {s : rf_S} {Q : Int32 → rf_S → Prop} (h : wr_isText_22 d x1 x2 x3 x4 y0 y1 s Q) : rf_R d 7 (22, [(0, .ref rf_o), (1, .int x1), (2, .int x2), (3, .int x3), (4, .int x4)], [.int y0, .int y1], s) (rf_qI Q) := by
  unfold wr_isText_22 at h
  refine rf_R_wv rp_7 (rf_bk am_t7 11 1) 22 [(0, .ref rf_o), (1, .int x1), (2, .int x2), (3, .int x3), (4, .int x4)] [.int y0, .int y1] s (by repeat (first | exact trivial | refine ⟨rfl, ?_⟩)) (by decide +kernel) ?_
  refine rf_R_if (b := am_cnd .eq y1 y0) (p := 27) (q := 25) (fun hb => ?_) (fun hb => ?_)
  · replace h := h.1 (of_decide_eq_true hb)
    refine rf_R_wv rp_7 (rf_bk am_t7 14 7) 27 [(0, .ref rf_o), (1, .int x1), (2, .int x2), (3, .int x3), (4, .int x4)] [] s (by repeat (first | exact trivial | refine ⟨rfl, ?_⟩)) (by decide +kernel) ?_
    refine And.intro h.1 ?_
    replace h := h.2
    refine rf_R_if (b := am_cnd .ne (s.2.2.1 2 (s.1 6).toNatClampNeg) x1) (p := 99) (q := 40) (fun hb => ?_) (fun hb => ?_)
    · replace h := h.1 (of_decide_eq_true hb)
      refine rf_R_wv rp_7 (rf_bk am_t7 54 1) 99 [(0, .ref rf_o), (1, .int x1), (2, .int x2), (3, .int x3), (4, .int x4)] [] s (by repeat (first | exact trivial | refine ⟨rfl, ?_⟩)) (by decide +kernel) ?_
      exact rf_R_ret (pc := 100) (v := some (.int (Int32.ofInt 0))) rp_7 rfl rfl rfl ⟨_, rfl, h⟩
    · replace h := h.2 (Decidable.not_not.mp (of_decide_eq_false hb))
      refine rf_R_wv rp_7 (rf_bk am_t7 21 9) 40 [(0, .ref rf_o), (1, .int x1), (2, .int x2), (3, .int x3), (4, .int x4)] [] s (by repeat (first | exact trivial | refine ⟨rfl, ?_⟩)) (by decide +kernel) ?_
      refine And.intro h.1 ?_
      replace h := h.2
      refine rf_R_if (b := am_cnd .ne (s.2.2.1 2 ((s.1 6) + (Int32.ofInt 1)).toNatClampNeg) x2) (p := 99) (q := 55) (fun hb => ?_) (fun hb => ?_)
      · replace h := h.1 (of_decide_eq_true hb)
        refine rf_R_wv rp_7 (rf_bk am_t7 54 1) 99 [(0, .ref rf_o), (1, .int x1), (2, .int x2), (3, .int x3), (4, .int x4)] [] s (by repeat (first | exact trivial | refine ⟨rfl, ?_⟩)) (by decide +kernel) ?_
        exact rf_R_ret (pc := 100) (v := some (.int (Int32.ofInt 0))) rp_7 rfl rfl rfl ⟨_, rfl, h⟩
      · replace h := h.2 (Decidable.not_not.mp (of_decide_eq_false hb))
        refine rf_R_wv rp_7 (rf_bk am_t7 30 2) 55 [(0, .ref rf_o), (1, .int x1), (2, .int x2), (3, .int x3), (4, .int x4)] [] s (by repeat (first | exact trivial | refine ⟨rfl, ?_⟩)) (by decide +kernel) ?_
        refine rf_R_if (b := am_cnd .eq x3 0) (p := 74) (q := 59) (fun hb => ?_) (fun hb => ?_)
        · replace h := h.1 (of_decide_eq_true hb)
          exact rf_R_le (l := [(0, .ref rf_o), (4, .int x4)]) rfl rfl (⟨rfl, rfl, trivial⟩) (wr_isText_74_ok h)
        · replace h := h.2 (of_decide_eq_false hb)
          refine rf_R_wv rp_7 (rf_bk am_t7 32 9) 59 [(0, .ref rf_o), (1, .int x1), (2, .int x2), (3, .int x3), (4, .int x4)] [] s (by repeat (first | exact trivial | refine ⟨rfl, ?_⟩)) (by decide +kernel) ?_
          refine And.intro h.1 ?_
          replace h := h.2
          refine rf_R_if (b := am_cnd .ne (s.2.2.1 2 ((s.1 6) + (Int32.ofInt 2)).toNatClampNeg) x3) (p := 99) (q := 74) (fun hb => ?_) (fun hb => ?_)
          · replace h := h.1 (of_decide_eq_true hb)
            refine rf_R_wv rp_7 (rf_bk am_t7 54 1) 99 [(0, .ref rf_o), (1, .int x1), (2, .int x2), (3, .int x3), (4, .int x4)] [] s (by repeat (first | exact trivial | refine ⟨rfl, ?_⟩)) (by decide +kernel) ?_
            exact rf_R_ret (pc := 100) (v := some (.int (Int32.ofInt 0))) rp_7 rfl rfl rfl ⟨_, rfl, h⟩
          · replace h := h.2 (Decidable.not_not.mp (of_decide_eq_false hb))
            exact rf_R_le (l := [(0, .ref rf_o), (4, .int x4)]) rfl rfl (⟨rfl, rfl, trivial⟩) (wr_isText_74_ok h)
  · replace h := h.2 (of_decide_eq_false hb)
    refine rf_R_wv rp_7 (rf_bk am_t7 12 1) 25 [(0, .ref rf_o), (1, .int x1), (2, .int x2), (3, .int x3), (4, .int x4)] [] s (by repeat (first | exact trivial | refine ⟨rfl, ?_⟩)) (by decide +kernel) ?_
    exact rf_R_ret (pc := 26) (v := some (.int (Int32.ofInt 0))) rp_7 rfl rfl rfl ⟨_, rfl, h⟩
/-- isText (IIII)Z, from 0 on -/
def wr_isText (d : Nat) (x1 : Int32) (x2 : Int32) (x3 : Int32) (x4 : Int32) (s : rf_S) (Q : Int32 → rf_S → Prop) : Prop := ((¬ x3 = 0 → ((¬ x4 = 0 → wr_isText_22 d x1 x2 x3 x4 (Int32.ofInt 4) (s.1 7) s Q) ∧ (x4 = 0 → wr_isText_22 d x1 x2 x3 x4 (Int32.ofInt 3) (s.1 7) s Q))) ∧ (x3 = 0 → wr_isText_22 d x1 x2 x3 x4 (Int32.ofInt 2) (s.1 7) s Q))
set_option maxRecDepth 20000 in
theorem wr_isText_ok {d : Nat} {x1 : Int32} {x2 : Int32} {x3 : Int32} {x4 : Int32} {s : rf_S} {Q : Int32 → rf_S → Prop} (h : wr_isText d x1 x2 x3 x4 s Q) : rf_I d 7 [(0, .ref rf_o), (1, .int x1), (2, .int x2), (3, .int x3), (4, .int x4)] s Q := by
  unfold wr_isText at h
  unfold rf_I
  refine rf_R_wv rp_7 (rf_bk am_t7 0 4) 0 [(0, .ref rf_o), (1, .int x1), (2, .int x2), (3, .int x3), (4, .int x4)] [] s (by repeat (first | exact trivial | refine ⟨rfl, ?_⟩)) (by decide +kernel) ?_
  refine rf_R_if (b := am_cnd .ne x3 0) (p := 12) (q := 8) (fun hb => ?_) (fun hb => ?_)
  · replace h := h.1 (of_decide_eq_true hb)
    refine rf_R_wv rp_7 (rf_bk am_t7 6 2) 12 [(0, .ref rf_o), (1, .int x1), (2, .int x2), (3, .int x3), (4, .int x4)] [.int (s.1 7)] s (by repeat (first | exact trivial | refine ⟨rfl, ?_⟩)) (by decide +kernel) ?_
    refine rf_R_if (b := am_cnd .ne x4 0) (p := 21) (q := 17) (fun hb => ?_) (fun hb => ?_)
    · replace h := h.1 (of_decide_eq_true hb)
      refine rf_R_wv rp_7 (rf_bk am_t7 10 1) 21 [(0, .ref rf_o), (1, .int x1), (2, .int x2), (3, .int x3), (4, .int x4)] [.int (s.1 7)] s (by repeat (first | exact trivial | refine ⟨rfl, ?_⟩)) (by decide +kernel) ?_
      exact rf_R_le (l := [(0, .ref rf_o), (1, .int x1), (2, .int x2), (3, .int x3), (4, .int x4)]) rfl rfl (⟨rfl, rfl, rfl, rfl, rfl, trivial⟩) (wr_isText_22_ok h)
    · replace h := h.2 (Decidable.not_not.mp (of_decide_eq_false hb))
      refine rf_R_wv rp_7 (rf_bk am_t7 8 2) 17 [(0, .ref rf_o), (1, .int x1), (2, .int x2), (3, .int x3), (4, .int x4)] [.int (s.1 7)] s (by repeat (first | exact trivial | refine ⟨rfl, ?_⟩)) (by decide +kernel) ?_
      exact rf_R_le (l := [(0, .ref rf_o), (1, .int x1), (2, .int x2), (3, .int x3), (4, .int x4)]) rfl rfl (⟨rfl, rfl, rfl, rfl, rfl, trivial⟩) (wr_isText_22_ok h)
  · replace h := h.2 (Decidable.not_not.mp (of_decide_eq_false hb))
    refine rf_R_wv rp_7 (rf_bk am_t7 4 2) 8 [(0, .ref rf_o), (1, .int x1), (2, .int x2), (3, .int x3), (4, .int x4)] [.int (s.1 7)] s (by repeat (first | exact trivial | refine ⟨rfl, ?_⟩)) (by decide +kernel) ?_
    exact rf_R_le (l := [(0, .ref rf_o), (1, .int x1), (2, .int x2), (3, .int x3), (4, .int x4)]) rfl rfl (⟨rfl, rfl, rfl, rfl, rfl, trivial⟩) (wr_isText_22_ok h)
/-- signOf ()I, from 86 on -/
def wr_signOf_86 (d : Nat) (x1 : Int32) (s : rf_S) (Q : Int32 → rf_S → Prop) : Prop := ((x1 = 37 → Q ((Int8.ofInt 11).toInt32) (rf_si s 7 (Int32.ofInt 1))) ∧ (¬ (x1 = 37) → ((x1 = 40 → Q ((Int8.ofInt 11).toInt32) (rf_si s 7 (Int32.ofInt 1))) ∧ (¬ (x1 = 40) → ((x1 = 41 → Q ((Int8.ofInt 11).toInt32) (rf_si s 7 (Int32.ofInt 1))) ∧ (¬ (x1 = 41) → ((x1 = 42 → Q ((Int8.ofInt 11).toInt32) (rf_si s 7 (Int32.ofInt 1))) ∧ (¬ (x1 = 42) → ((x1 = 43 → Q ((Int8.ofInt 11).toInt32) (rf_si s 7 (Int32.ofInt 1))) ∧ (¬ (x1 = 43) → ((x1 = 45 → Q ((Int8.ofInt 11).toInt32) (rf_si s 7 (Int32.ofInt 1))) ∧ (¬ (x1 = 45) → ((x1 = 47 → Q ((Int8.ofInt 11).toInt32) (rf_si s 7 (Int32.ofInt 1))) ∧ (¬ (x1 = 47) → ((x1 = 59 → Q ((Int8.ofInt 11).toInt32) (rf_si s 7 (Int32.ofInt 1))) ∧ (¬ (x1 = 59) → ((x1 = 60 → Q ((Int8.ofInt 11).toInt32) (rf_si s 7 (Int32.ofInt 1))) ∧ (¬ (x1 = 60) → ((x1 = 61 → Q ((Int8.ofInt 10).toInt32) (rf_si s 7 (Int32.ofInt 1))) ∧ (¬ (x1 = 61) → ((x1 = 92 → Q ((Int8.ofInt 11).toInt32) (rf_si s 7 (Int32.ofInt 1))) ∧ (¬ (x1 = 92) → ((x1 = 123 → Q ((Int8.ofInt 11).toInt32) (rf_si s 7 (Int32.ofInt 1))) ∧ (¬ (x1 = 123) → ((x1 = 125 → Q ((Int8.ofInt 11).toInt32) (rf_si s 7 (Int32.ofInt 1))) ∧ (¬ (x1 = 125) → Q (Int32.ofInt 1) (rf_si s 7 (Int32.ofInt 1))))))))))))))))))))))))))))
set_option maxRecDepth 20000 in
theorem wr_signOf_86_ok {d : Nat} {x1 : Int32} {s : rf_S} {Q : Int32 → rf_S → Prop} (h : wr_signOf_86 d x1 s Q) : rf_R (d + 1) 8 (86, [(0, .ref rf_o), (1, .int x1)], [], s) (rf_qI Q) := by
  unfold wr_signOf_86 at h
  refine rf_R_wv rp_8 (rf_bk am_t8 46 3) 86 [(0, .ref rf_o), (1, .int x1)] [] s (by repeat (first | exact trivial | refine ⟨rfl, ?_⟩)) (by decide +kernel) ?_
  refine And.intro rfl ?_
  refine rf_R_wv rp_8 (rf_bk am_t8 49 2) 91 [(0, .ref rf_o), (1, .int x1)] [] (rf_si s 7 (Int32.ofInt 1)) (by repeat (first | exact trivial | refine ⟨rfl, ?_⟩)) (by decide +kernel) ?_
  refine rf_R_sw (fun hb => ?_) (fun hb => ?_)
  · replace h := h.1 hb
    refine rf_R_wv rp_8 (rf_bk am_t8 51 1) 208 [(0, .ref rf_o), (1, .int x1)] [] (rf_si s 7 (Int32.ofInt 1)) (by repeat (first | exact trivial | refine ⟨rfl, ?_⟩)) (by decide +kernel) ?_
    exact rf_R_ret (pc := 210) (v := some (.int ((Int8.ofInt 11).toInt32))) rp_8 rfl rfl rfl ⟨_, rfl, h⟩
  replace h := h.2 hb
  refine rf_R_sw (fun hb => ?_) (fun hb => ?_)
  · replace h := h.1 hb
    refine rf_R_wv rp_8 (rf_bk am_t8 51 1) 208 [(0, .ref rf_o), (1, .int x1)] [] (rf_si s 7 (Int32.ofInt 1)) (by repeat (first | exact trivial | refine ⟨rfl, ?_⟩)) (by decide +kernel) ?_
    exact rf_R_ret (pc := 210) (v := some (.int ((Int8.ofInt 11).toInt32))) rp_8 rfl rfl rfl ⟨_, rfl, h⟩
  replace h := h.2 hb
  refine rf_R_sw (fun hb => ?_) (fun hb => ?_)
  · replace h := h.1 hb
    refine rf_R_wv rp_8 (rf_bk am_t8 51 1) 208 [(0, .ref rf_o), (1, .int x1)] [] (rf_si s 7 (Int32.ofInt 1)) (by repeat (first | exact trivial | refine ⟨rfl, ?_⟩)) (by decide +kernel) ?_
    exact rf_R_ret (pc := 210) (v := some (.int ((Int8.ofInt 11).toInt32))) rp_8 rfl rfl rfl ⟨_, rfl, h⟩
  replace h := h.2 hb
  refine rf_R_sw (fun hb => ?_) (fun hb => ?_)
  · replace h := h.1 hb
    refine rf_R_wv rp_8 (rf_bk am_t8 51 1) 208 [(0, .ref rf_o), (1, .int x1)] [] (rf_si s 7 (Int32.ofInt 1)) (by repeat (first | exact trivial | refine ⟨rfl, ?_⟩)) (by decide +kernel) ?_
    exact rf_R_ret (pc := 210) (v := some (.int ((Int8.ofInt 11).toInt32))) rp_8 rfl rfl rfl ⟨_, rfl, h⟩
  replace h := h.2 hb
  refine rf_R_sw (fun hb => ?_) (fun hb => ?_)
  · replace h := h.1 hb
    refine rf_R_wv rp_8 (rf_bk am_t8 51 1) 208 [(0, .ref rf_o), (1, .int x1)] [] (rf_si s 7 (Int32.ofInt 1)) (by repeat (first | exact trivial | refine ⟨rfl, ?_⟩)) (by decide +kernel) ?_
    exact rf_R_ret (pc := 210) (v := some (.int ((Int8.ofInt 11).toInt32))) rp_8 rfl rfl rfl ⟨_, rfl, h⟩
  replace h := h.2 hb
  refine rf_R_sw (fun hb => ?_) (fun hb => ?_)
  · replace h := h.1 hb
    refine rf_R_wv rp_8 (rf_bk am_t8 51 1) 208 [(0, .ref rf_o), (1, .int x1)] [] (rf_si s 7 (Int32.ofInt 1)) (by repeat (first | exact trivial | refine ⟨rfl, ?_⟩)) (by decide +kernel) ?_
    exact rf_R_ret (pc := 210) (v := some (.int ((Int8.ofInt 11).toInt32))) rp_8 rfl rfl rfl ⟨_, rfl, h⟩
  replace h := h.2 hb
  refine rf_R_sw (fun hb => ?_) (fun hb => ?_)
  · replace h := h.1 hb
    refine rf_R_wv rp_8 (rf_bk am_t8 51 1) 208 [(0, .ref rf_o), (1, .int x1)] [] (rf_si s 7 (Int32.ofInt 1)) (by repeat (first | exact trivial | refine ⟨rfl, ?_⟩)) (by decide +kernel) ?_
    exact rf_R_ret (pc := 210) (v := some (.int ((Int8.ofInt 11).toInt32))) rp_8 rfl rfl rfl ⟨_, rfl, h⟩
  replace h := h.2 hb
  refine rf_R_sw (fun hb => ?_) (fun hb => ?_)
  · replace h := h.1 hb
    refine rf_R_wv rp_8 (rf_bk am_t8 51 1) 208 [(0, .ref rf_o), (1, .int x1)] [] (rf_si s 7 (Int32.ofInt 1)) (by repeat (first | exact trivial | refine ⟨rfl, ?_⟩)) (by decide +kernel) ?_
    exact rf_R_ret (pc := 210) (v := some (.int ((Int8.ofInt 11).toInt32))) rp_8 rfl rfl rfl ⟨_, rfl, h⟩
  replace h := h.2 hb
  refine rf_R_sw (fun hb => ?_) (fun hb => ?_)
  · replace h := h.1 hb
    refine rf_R_wv rp_8 (rf_bk am_t8 51 1) 208 [(0, .ref rf_o), (1, .int x1)] [] (rf_si s 7 (Int32.ofInt 1)) (by repeat (first | exact trivial | refine ⟨rfl, ?_⟩)) (by decide +kernel) ?_
    exact rf_R_ret (pc := 210) (v := some (.int ((Int8.ofInt 11).toInt32))) rp_8 rfl rfl rfl ⟨_, rfl, h⟩
  replace h := h.2 hb
  refine rf_R_sw (fun hb => ?_) (fun hb => ?_)
  · replace h := h.1 hb
    refine rf_R_wv rp_8 (rf_bk am_t8 53 1) 211 [(0, .ref rf_o), (1, .int x1)] [] (rf_si s 7 (Int32.ofInt 1)) (by repeat (first | exact trivial | refine ⟨rfl, ?_⟩)) (by decide +kernel) ?_
    exact rf_R_ret (pc := 213) (v := some (.int ((Int8.ofInt 10).toInt32))) rp_8 rfl rfl rfl ⟨_, rfl, h⟩
  replace h := h.2 hb
  refine rf_R_sw (fun hb => ?_) (fun hb => ?_)
  · replace h := h.1 hb
    refine rf_R_wv rp_8 (rf_bk am_t8 51 1) 208 [(0, .ref rf_o), (1, .int x1)] [] (rf_si s 7 (Int32.ofInt 1)) (by repeat (first | exact trivial | refine ⟨rfl, ?_⟩)) (by decide +kernel) ?_
    exact rf_R_ret (pc := 210) (v := some (.int ((Int8.ofInt 11).toInt32))) rp_8 rfl rfl rfl ⟨_, rfl, h⟩
  replace h := h.2 hb
  refine rf_R_sw (fun hb => ?_) (fun hb => ?_)
  · replace h := h.1 hb
    refine rf_R_wv rp_8 (rf_bk am_t8 51 1) 208 [(0, .ref rf_o), (1, .int x1)] [] (rf_si s 7 (Int32.ofInt 1)) (by repeat (first | exact trivial | refine ⟨rfl, ?_⟩)) (by decide +kernel) ?_
    exact rf_R_ret (pc := 210) (v := some (.int ((Int8.ofInt 11).toInt32))) rp_8 rfl rfl rfl ⟨_, rfl, h⟩
  replace h := h.2 hb
  refine rf_R_sw (fun hb => ?_) (fun hb => ?_)
  · replace h := h.1 hb
    refine rf_R_wv rp_8 (rf_bk am_t8 51 1) 208 [(0, .ref rf_o), (1, .int x1)] [] (rf_si s 7 (Int32.ofInt 1)) (by repeat (first | exact trivial | refine ⟨rfl, ?_⟩)) (by decide +kernel) ?_
    exact rf_R_ret (pc := 210) (v := some (.int ((Int8.ofInt 11).toInt32))) rp_8 rfl rfl rfl ⟨_, rfl, h⟩
  replace h := h.2 hb
  show rf_R (d + 1) 8 (214, _, _, _) _
  refine rf_R_wv rp_8 (rf_bk am_t8 55 1) 214 [(0, .ref rf_o), (1, .int x1)] [] (rf_si s 7 (Int32.ofInt 1)) (by repeat (first | exact trivial | refine ⟨rfl, ?_⟩)) (by decide +kernel) ?_
  exact rf_R_ret (pc := 215) (v := some (.int (Int32.ofInt 1))) rp_8 rfl rfl rfl ⟨_, rfl, h⟩
/-- signOf ()I, from 69 on -/
def wr_signOf_69 (d : Nat) (x1 : Int32) (y0 : Int32) (s : rf_S) (Q : Int32 → rf_S → Prop) : Prop := ((¬ x1 = ((Int8.ofInt 61).toInt32) → Q ((Int8.ofInt 9).toInt32) (rf_si s 8 y0)) ∧ (x1 = ((Int8.ofInt 61).toInt32) → Q ((Int8.ofInt 11).toInt32) (rf_si s 8 y0)))
set_option maxRecDepth 20000 in
theorem wr_signOf_69_ok {d : Nat} {x1 : Int32} {y0 : Int32} {s : rf_S} {Q : Int32 → rf_S → Prop} (h : wr_signOf_69 d x1 y0 s Q) : rf_R (d + 1) 8 (69, [(1, .int x1)], [.int y0, .ref rf_o], s) (rf_qI Q) := by
  unfold wr_signOf_69 at h
  refine rf_R_wv rp_8 (rf_bk am_t8 38 1) 69 [(1, .int x1)] [.int y0, .ref rf_o] s (by repeat (first | exact trivial | refine ⟨rfl, ?_⟩)) (by decide +kernel) ?_
  refine And.intro rfl ?_
  refine rf_R_wv rp_8 (rf_bk am_t8 39 3) 72 [(1, .int x1)] [] (rf_si s 8 y0) (by repeat (first | exact trivial | refine ⟨rfl, ?_⟩)) (by decide +kernel) ?_
  refine rf_R_if (b := am_cnd .ne x1 ((Int8.ofInt 61).toInt32)) (p := 83) (q := 78) (fun hb => ?_) (fun hb => ?_)
  · replace h := h.1 (of_decide_eq_true hb)
    refine rf_R_wv rp_8 (rf_bk am_t8 44 1) 83 [(1, .int x1)] [] (rf_si s 8 y0) (by repeat (first | exact trivial | refine ⟨rfl, ?_⟩)) (by decide +kernel) ?_
    exact rf_R_ret (pc := 85) (v := some (.int ((Int8.ofInt 9).toInt32))) rp_8 rfl rfl rfl ⟨_, rfl, h⟩
  · replace h := h.2 (Decidable.not_not.mp (of_decide_eq_false hb))
    refine rf_R_wv rp_8 (rf_bk am_t8 42 2) 78 [(1, .int x1)] [] (rf_si s 8 y0) (by repeat (first | exact trivial | refine ⟨rfl, ?_⟩)) (by decide +kernel) ?_
    exact rf_R_ret (pc := 85) (v := some (.int ((Int8.ofInt 11).toInt32))) rp_8 rfl rfl rfl ⟨_, rfl, h⟩
/-- signOf ()I, from 50 on -/
def wr_signOf_50 (d : Nat) (x1 : Int32) (s : rf_S) (Q : Int32 → rf_S → Prop) : Prop := ((¬ x1 = ((Int8.ofInt 61).toInt32) → wr_signOf_69 d x1 ((Int8.ofInt 62).toInt32) (rf_si s 7 (Int32.ofInt 2)) Q) ∧ (x1 = ((Int8.ofInt 61).toInt32) → wr_signOf_69 d x1 ((Int8.ofInt 69).toInt32) (rf_si s 7 (Int32.ofInt 2)) Q))
set_option maxRecDepth 20000 in
theorem wr_signOf_50_ok {d : Nat} {x1 : Int32} {s : rf_S} {Q : Int32 → rf_S → Prop} (h : wr_signOf_50 d x1 s Q) : rf_R (d + 1) 8 (50, [(0, .ref rf_o), (1, .int x1)], [], s) (rf_qI Q) := by
  unfold wr_signOf_50 at h
  refine rf_R_wv rp_8 (rf_bk am_t8 28 3) 50 [(0, .ref rf_o), (1, .int x1)] [] s (by repeat (first | exact trivial | refine ⟨rfl, ?_⟩)) (by decide +kernel) ?_
  refine And.intro rfl ?_
  refine rf_R_wv rp_8 (rf_bk am_t8 31 4) 55 [(0, .ref rf_o), (1, .int x1)] [] (rf_si s 7 (Int32.ofInt 2)) (by repeat (first | exact trivial | refine ⟨rfl, ?_⟩)) (by decide +kernel) ?_
  refine rf_R_if (b := am_cnd .ne x1 ((Int8.ofInt 61).toInt32)) (p := 67) (q := 62) (fun hb => ?_) (fun hb => ?_)
  · replace h := h.1 (of_decide_eq_true hb)
    refine rf_R_wv rp_8 (rf_bk am_t8 37 1) 67 [(0, .ref rf_o), (1, .int x1)] [.ref rf_o] (rf_si s 7 (Int32.ofInt 2)) (by repeat (first | exact trivial | refine ⟨rfl, ?_⟩)) (by decide +kernel) ?_
    exact rf_R_le (l := [(1, .int x1)]) rfl rfl (⟨rfl, trivial⟩) (wr_signOf_69_ok h)
  · replace h := h.2 (Decidable.not_not.mp (of_decide_eq_false hb))
    refine rf_R_wv rp_8 (rf_bk am_t8 35 2) 62 [(0, .ref rf_o), (1, .int x1)] [.ref rf_o] (rf_si s 7 (Int32.ofInt 2)) (by repeat (first | exact trivial | refine ⟨rfl, ?_⟩)) (by decide +kernel) ?_
    exact rf_R_le (l := [(1, .int x1)]) rfl rfl (⟨rfl, trivial⟩) (wr_signOf_69_ok h)
/-- signOf ()I, from 38 on -/
def wr_signOf_38 (d : Nat) (x1 : Int32) (x2 : Int32) (s : rf_S) (Q : Int32 → rf_S → Prop) : Prop := ((¬ x1 = ((Int8.ofInt 61).toInt32) → wr_signOf_86 d x1 s Q) ∧ (x1 = ((Int8.ofInt 61).toInt32) → ((¬ x2 = ((Int8.ofInt 61).toInt32) → wr_signOf_86 d x1 s Q) ∧ (x2 = ((Int8.ofInt 61).toInt32) → wr_signOf_50 d x1 s Q))))
set_option maxRecDepth 20000 in
theorem wr_signOf_38_ok {d : Nat} {x1 : Int32} {x2 : Int32} {s : rf_S} {Q : Int32 → rf_S → Prop} (h : wr_signOf_38 d x1 x2 s Q) : rf_R (d + 1) 8 (38, [(0, .ref rf_o), (1, .int x1), (2, .int x2)], [], s) (rf_qI Q) := by
  unfold wr_signOf_38 at h
  refine rf_R_wv rp_8 (rf_bk am_t8 22 3) 38 [(0, .ref rf_o), (1, .int x1), (2, .int x2)] [] s (by repeat (first | exact trivial | refine ⟨rfl, ?_⟩)) (by decide +kernel) ?_
  refine rf_R_if (b := am_cnd .ne x1 ((Int8.ofInt 61).toInt32)) (p := 86) (q := 44) (fun hb => ?_) (fun hb => ?_)
  · replace h := h.1 (of_decide_eq_true hb)
    exact rf_R_le (l := [(0, .ref rf_o), (1, .int x1)]) rfl rfl (⟨rfl, rfl, trivial⟩) (wr_signOf_86_ok h)
  · replace h := h.2 (Decidable.not_not.mp (of_decide_eq_false hb))
    refine rf_R_wv rp_8 (rf_bk am_t8 25 3) 44 [(0, .ref rf_o), (1, .int x1), (2, .int x2)] [] s (by repeat (first | exact trivial | refine ⟨rfl, ?_⟩)) (by decide +kernel) ?_
    refine rf_R_if (b := am_cnd .ne x2 ((Int8.ofInt 61).toInt32)) (p := 86) (q := 50) (fun hb => ?_) (fun hb => ?_)
    · replace h := h.1 (of_decide_eq_true hb)
      exact rf_R_le (l := [(0, .ref rf_o), (1, .int x1)]) rfl rfl (⟨rfl, rfl, trivial⟩) (wr_signOf_86_ok h)
    · replace h := h.2 (Decidable.not_not.mp (of_decide_eq_false hb))
      exact rf_R_le (l := [(0, .ref rf_o), (1, .int x1)]) rfl rfl (⟨rfl, rfl, trivial⟩) (wr_signOf_50_ok h)
/-- signOf ()I, from 0 on -/
def wr_signOf (d : Nat) (s : rf_S) (Q : Int32 → rf_S → Prop) : Prop := (rf_in (s.1 6) 2000 ∧ rf_I d 4 [(0, .ref rf_o), (1, .int ((s.1 6) + (Int32.ofInt 1)))] s (fun r1 s1 => ((¬ (s.2.2.1 2 (s.1 6).toNatClampNeg) = ((Int8.ofInt 45).toInt32) → wr_signOf_38 d (s.2.2.1 2 (s.1 6).toNatClampNeg) r1 (rf_si s1 8 (s.2.2.1 2 (s.1 6).toNatClampNeg)) Q) ∧ ((s.2.2.1 2 (s.1 6).toNatClampNeg) = ((Int8.ofInt 45).toInt32) → ((r1 = ((Int8.ofInt 62).toInt32) → wr_signOf_50 d (s.2.2.1 2 (s.1 6).toNatClampNeg) (rf_si s1 8 (s.2.2.1 2 (s.1 6).toNatClampNeg)) Q) ∧ (¬ (r1 = ((Int8.ofInt 62).toInt32)) → wr_signOf_38 d (s.2.2.1 2 (s.1 6).toNatClampNeg) r1 (rf_si s1 8 (s.2.2.1 2 (s.1 6).toNatClampNeg)) Q))))))
set_option maxRecDepth 20000 in
theorem wr_signOf_ok {d : Nat} {s : rf_S} {Q : Int32 → rf_S → Prop} (h : wr_signOf d s Q) : rf_I (d + 1) 8 [(0, .ref rf_o)] s Q := by
  unfold wr_signOf at h
  unfold rf_I
  refine rf_R_wv rp_8 (rf_bk am_t8 0 11) 0 [(0, .ref rf_o)] [] s (by repeat (first | exact trivial | refine ⟨rfl, ?_⟩)) (by decide +kernel) ?_
  refine And.intro h.1 ?_
  replace h := h.2
  refine rf_R_call (pc := 17) (q := ([.ref rf_o, .int ((s.1 6) + (Int32.ofInt 1))], [])) rp_8 rfl rfl (by decide) rp_4 rfl (Nat.le_of_ble_eq_true rfl) ⟨rfl, Nat.le_of_ble_eq_true rfl⟩ h (fun v s1 h => ?_)
  obtain ⟨r1, rfl, h⟩ := h
  refine rf_R_wv rp_8 (rf_bk am_t8 12 4) 20 [(1, .int (s.2.2.1 2 (s.1 6).toNatClampNeg)), (0, .ref rf_o)] [.int r1] s1 (by repeat (first | exact trivial | refine ⟨rfl, ?_⟩)) (by decide +kernel) ?_
  refine And.intro rfl ?_
  refine rf_R_wv rp_8 (rf_bk am_t8 16 3) 26 [(2, .int r1), (1, .int (s.2.2.1 2 (s.1 6).toNatClampNeg)), (0, .ref rf_o)] [] (rf_si s1 8 (s.2.2.1 2 (s.1 6).toNatClampNeg)) (by repeat (first | exact trivial | refine ⟨rfl, ?_⟩)) (by decide +kernel) ?_
  refine rf_R_if (b := am_cnd .ne (s.2.2.1 2 (s.1 6).toNatClampNeg) ((Int8.ofInt 45).toInt32)) (p := 38) (q := 32) (fun hb => ?_) (fun hb => ?_)
  · replace h := h.1 (of_decide_eq_true hb)
    exact rf_R_le (l := [(0, .ref rf_o), (1, .int (s.2.2.1 2 (s.1 6).toNatClampNeg)), (2, .int r1)]) rfl rfl (⟨rfl, rfl, rfl, trivial⟩) (wr_signOf_38_ok h)
  · replace h := h.2 (Decidable.not_not.mp (of_decide_eq_false hb))
    refine rf_R_wv rp_8 (rf_bk am_t8 19 3) 32 [(2, .int r1), (1, .int (s.2.2.1 2 (s.1 6).toNatClampNeg)), (0, .ref rf_o)] [] (rf_si s1 8 (s.2.2.1 2 (s.1 6).toNatClampNeg)) (by repeat (first | exact trivial | refine ⟨rfl, ?_⟩)) (by decide +kernel) ?_
    refine rf_R_if (b := am_cnd .eq r1 ((Int8.ofInt 62).toInt32)) (p := 50) (q := 38) (fun hb => ?_) (fun hb => ?_)
    · replace h := h.1 (of_decide_eq_true hb)
      exact rf_R_le (l := [(0, .ref rf_o), (1, .int (s.2.2.1 2 (s.1 6).toNatClampNeg))]) rfl rfl (⟨rfl, rfl, trivial⟩) (wr_signOf_50_ok h)
    · replace h := h.2 (of_decide_eq_false hb)
      exact rf_R_le (l := [(0, .ref rf_o), (1, .int (s.2.2.1 2 (s.1 6).toNatClampNeg)), (2, .int r1)]) rfl rfl (⟨rfl, rfl, rfl, trivial⟩) (wr_signOf_38_ok h)
/-- next ()V, from 383 on -/
def wr_next_383 (d : Nat) (s : rf_S) (Q : rf_S → Prop) : Prop := Q (rf_si s 4 ((s.1 6) + (s.1 7)))
set_option maxRecDepth 20000 in
theorem wr_next_383_ok {d : Nat} {s : rf_S} {Q : rf_S → Prop} (h : wr_next_383 d s Q) : rf_R (d + 1) 9 (383, [(0, .ref rf_o)], [], s) (rf_qV Q) := by
  unfold wr_next_383 at h
  refine rf_R_wv rp_9 (rf_bk am_t9 195 7) 383 [(0, .ref rf_o)] [] s (by repeat (first | exact trivial | refine ⟨rfl, ?_⟩)) (by decide +kernel) ?_
  refine And.intro rfl ?_
  exact rf_R_ret (pc := 396) rp_9 rfl rfl rfl ⟨rfl, h⟩
/-- next ()V, from 372 on -/
def wr_next_372 (d : Nat) (s : rf_S) (Q : rf_S → Prop) : Prop := wr_next_383 d s Q
set_option maxRecDepth 20000 in
theorem wr_next_372_ok {d : Nat} {s : rf_S} {Q : rf_S → Prop} (h : wr_next_372 d s Q) : rf_R (d + 1) 9 (372, [(0, .ref rf_o)], [], s) (rf_qV Q) := by
  unfold wr_next_372 at h
  refine rf_R_wv rp_9 (rf_bk am_t9 190 1) 372 [(0, .ref rf_o)] [] s (by repeat (first | exact trivial | refine ⟨rfl, ?_⟩)) (by decide +kernel) ?_
  exact rf_R_le (l := [(0, .ref rf_o)]) rfl rfl (⟨rfl, trivial⟩) (wr_next_383_ok h)
/-- next ()V, from 324 on -/
def wr_next_324 (d : Nat) (x2 : Int32) (s : rf_S) (Q : rf_S → Prop) : Prop := (((s.1 7) ≤ x2 → wr_next_372 d s Q) ∧ (¬ ((s.1 7) ≤ x2) → ((¬ (s.1 5) = (Int32.ofInt 4) → wr_next_372 d s Q) ∧ ((s.1 5) = (Int32.ofInt 4) → (rf_in ((s.1 6) + x2) 2000 ∧ rf_R (d + 1) 9 (324, [(0, .ref rf_o), (2, .int (x2 + Int32.ofInt 1))], [], (rf_si s 8 (((((Int8.ofInt 10).toInt32) * (s.1 8)) + (s.2.2.1 2 ((s.1 6) + x2).toNatClampNeg)) - ((Int8.ofInt 48).toInt32)))) (rf_qV Q))))))
set_option maxRecDepth 20000 in
theorem wr_next_324_ok {d : Nat} {x2 : Int32} {s : rf_S} {Q : rf_S → Prop} (h : wr_next_324 d x2 s Q) : rf_R (d + 1) 9 (324, [(0, .ref rf_o), (2, .int x2)], [], s) (rf_qV Q) := by
  unfold wr_next_324 at h
  refine rf_R_wv rp_9 (rf_bk am_t9 164 4) 324 [(0, .ref rf_o), (2, .int x2)] [] s (by repeat (first | exact trivial | refine ⟨rfl, ?_⟩)) (by decide +kernel) ?_
  refine rf_R_if (b := am_cnd .ge x2 (s.1 7)) (p := 372) (q := 332) (fun hb => ?_) (fun hb => ?_)
  · replace h := h.1 (of_decide_eq_true hb)
    exact rf_R_le (l := [(0, .ref rf_o)]) rfl rfl (⟨rfl, trivial⟩) (wr_next_372_ok h)
  · replace h := h.2 (of_decide_eq_false hb)
    refine rf_R_wv rp_9 (rf_bk am_t9 168 4) 332 [(0, .ref rf_o), (2, .int x2)] [] s (by repeat (first | exact trivial | refine ⟨rfl, ?_⟩)) (by decide +kernel) ?_
    refine rf_R_if (b := am_cnd .ne (s.1 5) (Int32.ofInt 4)) (p := 372) (q := 340) (fun hb => ?_) (fun hb => ?_)
    · replace h := h.1 (of_decide_eq_true hb)
      exact rf_R_le (l := [(0, .ref rf_o)]) rfl rfl (⟨rfl, trivial⟩) (wr_next_372_ok h)
    · replace h := h.2 (Decidable.not_not.mp (of_decide_eq_false hb))
      refine rf_R_wv rp_9 (rf_bk am_t9 172 14) 340 [(0, .ref rf_o), (2, .int x2)] [] s (by repeat (first | exact trivial | refine ⟨rfl, ?_⟩)) (by decide +kernel) ?_
      refine And.intro h.1 ?_
      replace h := h.2
      refine rf_R_wv rp_9 (rf_bk am_t9 186 2) 362 [(0, .ref rf_o), (2, .int x2)] [.int ((Int8.ofInt 48).toInt32), .int ((((Int8.ofInt 10).toInt32) * (s.1 8)) + (s.2.2.1 2 ((s.1 6) + x2).toNatClampNeg)), .ref rf_o] s (by repeat (first | exact trivial | refine ⟨rfl, ?_⟩)) (by decide +kernel) ?_
      refine And.intro rfl ?_
      refine rf_R_wv rp_9 (rf_bk am_t9 188 2) 366 [(0, .ref rf_o), (2, .int x2)] [] (rf_si s 8 (((((Int8.ofInt 10).toInt32) * (s.1 8)) + (s.2.2.1 2 ((s.1 6) + x2).toNatClampNeg)) - ((Int8.ofInt 48).toInt32))) (by repeat (first | exact trivial | refine ⟨rfl, ?_⟩)) (by decide +kernel) ?_
      exact rf_R_le (l := [(0, .ref rf_o), (2, .int (x2 + Int32.ofInt 1))]) rfl rfl (⟨rfl, rfl, trivial⟩) h
/-- next ()V, from 319 on -/
def wr_next_319 (d : Nat) (y0 : Int32) (s : rf_S) (Q : rf_S → Prop) : Prop := rf_R (d + 1) 9 (324, [(0, .ref rf_o), (2, .int (Int32.ofInt 0))], [], (rf_si s 5 y0)) (rf_qV Q)
set_option maxRecDepth 20000 in
theorem wr_next_319_ok {d : Nat} {y0 : Int32} {s : rf_S} {Q : rf_S → Prop} (h : wr_next_319 d y0 s Q) : rf_R (d + 1) 9 (319, [(0, .ref rf_o)], [.int y0, .ref rf_o], s) (rf_qV Q) := by
  unfold wr_next_319 at h
  refine rf_R_wv rp_9 (rf_bk am_t9 161 1) 319 [(0, .ref rf_o)] [.int y0, .ref rf_o] s (by repeat (first | exact trivial | refine ⟨rfl, ?_⟩)) (by decide +kernel) ?_
  refine And.intro rfl ?_
  refine rf_R_wv rp_9 (rf_bk am_t9 162 2) 322 [(0, .ref rf_o)] [] (rf_si s 5 y0) (by repeat (first | exact trivial | refine ⟨rfl, ?_⟩)) (by decide +kernel) ?_
  exact rf_R_le (l := [(0, .ref rf_o), (2, .int (Int32.ofInt 0))]) rfl rfl (⟨rfl, rfl, trivial⟩) h
/-- next ()V, from 272 on -/
def wr_next_272 (d : Nat) (s : rf_S) (Q : rf_S → Prop) : Prop := rf_I d 4 [(0, .ref rf_o), (1, .int ((s.1 6) + (s.1 7)))] s (fun r1 s1 => rf_I d 5 [(0, .int r1)] s1 (fun r2 s2 => ((r2 = 0 → (((s2.1 7) ≤ ((Int8.ofInt 9).toInt32) → wr_next_319 d (Int32.ofInt 4) s2 Q) ∧ (¬ ((s2.1 7) ≤ ((Int8.ofInt 9).toInt32)) → wr_next_319 d (Int32.ofInt 1) s2 Q))) ∧ (¬ (r2 = 0) → rf_R (d + 1) 9 (272, [(0, .ref rf_o)], [], (rf_si s2 7 ((s2.1 7) + (Int32.ofInt 1)))) (rf_qV Q)))))
set_option maxRecDepth 20000 in
theorem wr_next_272_ok {d : Nat} {s : rf_S} {Q : rf_S → Prop} (h : wr_next_272 d s Q) : rf_R (d + 1) 9 (272, [(0, .ref rf_o)], [], s) (rf_qV Q) := by
  unfold wr_next_272 at h
  refine rf_R_wv rp_9 (rf_bk am_t9 137 6) 272 [(0, .ref rf_o)] [] s (by repeat (first | exact trivial | refine ⟨rfl, ?_⟩)) (by decide +kernel) ?_
  refine rf_R_call (pc := 282) (q := ([.ref rf_o, .int ((s.1 6) + (s.1 7))], [])) rp_9 rfl rfl (by decide) rp_4 rfl (Nat.le_of_ble_eq_true rfl) ⟨rfl, Nat.le_of_ble_eq_true rfl⟩ h (fun v s1 h => ?_)
  obtain ⟨r1, rfl, h⟩ := h
  refine rf_R_call (pc := 285) (q := ([.int r1], [])) rp_9 rfl rfl (by decide) rp_5 rfl (Nat.le_of_ble_eq_true rfl) ⟨rfl, Nat.le_of_ble_eq_true rfl⟩ h (fun v s2 h => ?_)
  obtain ⟨r2, rfl, h⟩ := h
  refine rf_R_wv rp_9 (rf_bk am_t9 145 1) 288 [(0, .ref rf_o)] [.int r2] s2 (by repeat (first | exact trivial | refine ⟨rfl, ?_⟩)) (by decide +kernel) ?_
  refine rf_R_if (b := am_cnd .eq r2 0) (p := 304) (q := 291) (fun hb => ?_) (fun hb => ?_)
  · replace h := h.1 (of_decide_eq_true hb)
    refine rf_R_wv rp_9 (rf_bk am_t9 153 5) 304 [(0, .ref rf_o)] [] s2 (by repeat (first | exact trivial | refine ⟨rfl, ?_⟩)) (by decide +kernel) ?_
    refine rf_R_if (b := am_cnd .le (s2.1 7) ((Int8.ofInt 9).toInt32)) (p := 318) (q := 314) (fun hb => ?_) (fun hb => ?_)
    · replace h := h.1 (of_decide_eq_true hb)
      refine rf_R_wv rp_9 (rf_bk am_t9 160 1) 318 [(0, .ref rf_o)] [.ref rf_o] s2 (by repeat (first | exact trivial | refine ⟨rfl, ?_⟩)) (by decide +kernel) ?_
      exact rf_R_le (l := [(0, .ref rf_o)]) rfl rfl (⟨rfl, trivial⟩) (wr_next_319_ok h)
    · replace h := h.2 (of_decide_eq_false hb)
      refine rf_R_wv rp_9 (rf_bk am_t9 158 2) 314 [(0, .ref rf_o)] [.ref rf_o] s2 (by repeat (first | exact trivial | refine ⟨rfl, ?_⟩)) (by decide +kernel) ?_
      exact rf_R_le (l := [(0, .ref rf_o)]) rfl rfl (⟨rfl, trivial⟩) (wr_next_319_ok h)
  · replace h := h.2 (of_decide_eq_false hb)
    refine rf_R_wv rp_9 (rf_bk am_t9 146 6) 291 [(0, .ref rf_o)] [] s2 (by repeat (first | exact trivial | refine ⟨rfl, ?_⟩)) (by decide +kernel) ?_
    refine And.intro rfl ?_
    refine rf_R_wv rp_9 (rf_bk am_t9 152 1) 301 [(0, .ref rf_o)] [] (rf_si s2 7 ((s2.1 7) + (Int32.ofInt 1))) (by repeat (first | exact trivial | refine ⟨rfl, ?_⟩)) (by decide +kernel) ?_
    exact rf_R_le (l := [(0, .ref rf_o)]) rfl rfl (⟨rfl, trivial⟩) h
/-- next ()V, from 259 on -/
def wr_next_259 (d : Nat) (y0 : Int32) (s : rf_S) (Q : rf_S → Prop) : Prop := wr_next_383 d (rf_si s 5 y0) Q
set_option maxRecDepth 20000 in
theorem wr_next_259_ok {d : Nat} {y0 : Int32} {s : rf_S} {Q : rf_S → Prop} (h : wr_next_259 d y0 s Q) : rf_R (d + 1) 9 (259, [(0, .ref rf_o)], [.int y0, .ref rf_o], s) (rf_qV Q) := by
  unfold wr_next_259 at h
  refine rf_R_wv rp_9 (rf_bk am_t9 132 1) 259 [(0, .ref rf_o)] [.int y0, .ref rf_o] s (by repeat (first | exact trivial | refine ⟨rfl, ?_⟩)) (by decide +kernel) ?_
  refine And.intro rfl ?_
  refine rf_R_wv rp_9 (rf_bk am_t9 133 1) 262 [(0, .ref rf_o)] [] (rf_si s 5 y0) (by repeat (first | exact trivial | refine ⟨rfl, ?_⟩)) (by decide +kernel) ?_
  exact rf_R_le (l := [(0, .ref rf_o)]) rfl rfl (⟨rfl, trivial⟩) (wr_next_383_ok h)
/-- next ()V, from 173 on -/
def wr_next_173 (d : Nat) (x1 : Int32) (s : rf_S) (Q : rf_S → Prop) : Prop := ((((Int8.ofInt 97).toInt32) ≤ x1 → rf_I d 7 [(0, .ref rf_o), (1, .int ((Int8.ofInt 108).toInt32)), (2, .int ((Int8.ofInt 101).toInt32)), (3, .int ((Int8.ofInt 116).toInt32)), (4, .int (Int32.ofInt 0))] s (fun r1 s1 => ((r1 = 0 → rf_I d 7 [(0, .ref rf_o), (1, .int ((Int8.ofInt 105).toInt32)), (2, .int ((Int8.ofInt 110).toInt32)), (3, .int (Int32.ofInt 0)), (4, .int (Int32.ofInt 0))] s1 (fun r2 s2 => ((r2 = 0 → rf_I d 7 [(0, .ref rf_o), (1, .int ((Int8.ofInt 99).toInt32)), (2, .int ((Int8.ofInt 97).toInt32)), (3, .int ((Int8.ofInt 115).toInt32)), (4, .int ((Int8.ofInt 101).toInt32))] s2 (fun r3 s3 => ((r3 = 0 → rf_I d 7 [(0, .ref rf_o), (1, .int ((Int8.ofInt 111).toInt32)), (2, .int ((Int8.ofInt 102).toInt32)), (3, .int (Int32.ofInt 0)), (4, .int (Int32.ofInt 0))] s3 (fun r4 s4 => ((r4 = 0 → wr_next_259 d (Int32.ofInt 2) s4 Q) ∧ (¬ (r4 = 0) → wr_next_259 d ((Int8.ofInt 8).toInt32) s4 Q)))) ∧ (¬ (r3 = 0) → wr_next_259 d ((Int8.ofInt 7).toInt32) s3 Q)))) ∧ (¬ (r2 = 0) → wr_next_259 d ((Int8.ofInt 6).toInt32) s2 Q)))) ∧ (¬ (r1 = 0) → wr_next_259 d (Int32.ofInt 5) s1 Q)))) ∧ (¬ (((Int8.ofInt 97).toInt32) ≤ x1) → wr_next_259 d (Int32.ofInt 3) s Q))
set_option maxRecDepth 20000 in
theorem wr_next_173_ok {d : Nat} {x1 : Int32} {s : rf_S} {Q : rf_S → Prop} (h : wr_next_173 d x1 s Q) : rf_R (d + 1) 9 (173, [(0, .ref rf_o), (1, .int x1)], [], s) (rf_qV Q) := by
  unfold wr_next_173 at h
  refine rf_R_wv rp_9 (rf_bk am_t9 89 4) 173 [(0, .ref rf_o), (1, .int x1)] [] s (by repeat (first | exact trivial | refine ⟨rfl, ?_⟩)) (by decide +kernel) ?_
  refine rf_R_if (b := am_cnd .ge x1 ((Int8.ofInt 97).toInt32)) (p := 184) (q := 180) (fun hb => ?_) (fun hb => ?_)
  · replace h := h.1 (of_decide_eq_true hb)
    refine rf_R_wv rp_9 (rf_bk am_t9 95 5) 184 [(0, .ref rf_o), (1, .int x1)] [.ref rf_o] s (by repeat (first | exact trivial | refine ⟨rfl, ?_⟩)) (by decide +kernel) ?_
    refine rf_R_call (pc := 192) (q := ([.ref rf_o, .int ((Int8.ofInt 108).toInt32), .int ((Int8.ofInt 101).toInt32), .int ((Int8.ofInt 116).toInt32), .int (Int32.ofInt 0)], [.ref rf_o])) rp_9 rfl rfl (by decide) rp_7 rfl (Nat.le_of_ble_eq_true rfl) ⟨rfl, Nat.le_of_ble_eq_true rfl⟩ h (fun v s1 h => ?_)
    obtain ⟨r1, rfl, h⟩ := h
    refine rf_R_wv rp_9 (rf_bk am_t9 101 1) 195 [(0, .ref rf_o), (1, .int x1)] [.int r1, .ref rf_o] s1 (by repeat (first | exact trivial | refine ⟨rfl, ?_⟩)) (by decide +kernel) ?_
    refine rf_R_if (b := am_cnd .eq r1 0) (p := 202) (q := 198) (fun hb => ?_) (fun hb => ?_)
    · replace h := h.1 (of_decide_eq_true hb)
      refine rf_R_wv rp_9 (rf_bk am_t9 104 5) 202 [(0, .ref rf_o), (1, .int x1)] [.ref rf_o] s1 (by repeat (first | exact trivial | refine ⟨rfl, ?_⟩)) (by decide +kernel) ?_
      refine rf_R_call (pc := 209) (q := ([.ref rf_o, .int ((Int8.ofInt 105).toInt32), .int ((Int8.ofInt 110).toInt32), .int (Int32.ofInt 0), .int (Int32.ofInt 0)], [.ref rf_o])) rp_9 rfl rfl (by decide) rp_7 rfl (Nat.le_of_ble_eq_true rfl) ⟨rfl, Nat.le_of_ble_eq_true rfl⟩ h (fun v s2 h => ?_)
      obtain ⟨r2, rfl, h⟩ := h
      refine rf_R_wv rp_9 (rf_bk am_t9 110 1) 212 [(0, .ref rf_o), (1, .int x1)] [.int r2, .ref rf_o] s2 (by repeat (first | exact trivial | refine ⟨rfl, ?_⟩)) (by decide +kernel) ?_
      refine rf_R_if (b := am_cnd .eq r2 0) (p := 220) (q := 215) (fun hb => ?_) (fun hb => ?_)
      · replace h := h.1 (of_decide_eq_true hb)
        refine rf_R_wv rp_9 (rf_bk am_t9 113 5) 220 [(0, .ref rf_o), (1, .int x1)] [.ref rf_o] s2 (by repeat (first | exact trivial | refine ⟨rfl, ?_⟩)) (by decide +kernel) ?_
        refine rf_R_call (pc := 229) (q := ([.ref rf_o, .int ((Int8.ofInt 99).toInt32), .int ((Int8.ofInt 97).toInt32), .int ((Int8.ofInt 115).toInt32), .int ((Int8.ofInt 101).toInt32)], [.ref rf_o])) rp_9 rfl rfl (by decide) rp_7 rfl (Nat.le_of_ble_eq_true rfl) ⟨rfl, Nat.le_of_ble_eq_true rfl⟩ h (fun v s3 h => ?_)
        obtain ⟨r3, rfl, h⟩ := h
        refine rf_R_wv rp_9 (rf_bk am_t9 119 1) 232 [(0, .ref rf_o), (1, .int x1)] [.int r3, .ref rf_o] s3 (by repeat (first | exact trivial | refine ⟨rfl, ?_⟩)) (by decide +kernel) ?_
        refine rf_R_if (b := am_cnd .eq r3 0) (p := 240) (q := 235) (fun hb => ?_) (fun hb => ?_)
        · replace h := h.1 (of_decide_eq_true hb)
          refine rf_R_wv rp_9 (rf_bk am_t9 122 5) 240 [(0, .ref rf_o), (1, .int x1)] [.ref rf_o] s3 (by repeat (first | exact trivial | refine ⟨rfl, ?_⟩)) (by decide +kernel) ?_
          refine rf_R_call (pc := 247) (q := ([.ref rf_o, .int ((Int8.ofInt 111).toInt32), .int ((Int8.ofInt 102).toInt32), .int (Int32.ofInt 0), .int (Int32.ofInt 0)], [.ref rf_o])) rp_9 rfl rfl (by decide) rp_7 rfl (Nat.le_of_ble_eq_true rfl) ⟨rfl, Nat.le_of_ble_eq_true rfl⟩ h (fun v s4 h => ?_)
          obtain ⟨r4, rfl, h⟩ := h
          refine rf_R_wv rp_9 (rf_bk am_t9 128 1) 250 [(0, .ref rf_o), (1, .int x1)] [.int r4, .ref rf_o] s4 (by repeat (first | exact trivial | refine ⟨rfl, ?_⟩)) (by decide +kernel) ?_
          refine rf_R_if (b := am_cnd .eq r4 0) (p := 258) (q := 253) (fun hb => ?_) (fun hb => ?_)
          · replace h := h.1 (of_decide_eq_true hb)
            refine rf_R_wv rp_9 (rf_bk am_t9 131 1) 258 [(0, .ref rf_o), (1, .int x1)] [.ref rf_o] s4 (by repeat (first | exact trivial | refine ⟨rfl, ?_⟩)) (by decide +kernel) ?_
            exact rf_R_le (l := [(0, .ref rf_o)]) rfl rfl (⟨rfl, trivial⟩) (wr_next_259_ok h)
          · replace h := h.2 (of_decide_eq_false hb)
            refine rf_R_wv rp_9 (rf_bk am_t9 129 2) 253 [(0, .ref rf_o), (1, .int x1)] [.ref rf_o] s4 (by repeat (first | exact trivial | refine ⟨rfl, ?_⟩)) (by decide +kernel) ?_
            exact rf_R_le (l := [(0, .ref rf_o)]) rfl rfl (⟨rfl, trivial⟩) (wr_next_259_ok h)
        · replace h := h.2 (of_decide_eq_false hb)
          refine rf_R_wv rp_9 (rf_bk am_t9 120 2) 235 [(0, .ref rf_o), (1, .int x1)] [.ref rf_o] s3 (by repeat (first | exact trivial | refine ⟨rfl, ?_⟩)) (by decide +kernel) ?_
          exact rf_R_le (l := [(0, .ref rf_o)]) rfl rfl (⟨rfl, trivial⟩) (wr_next_259_ok h)
      · replace h := h.2 (of_decide_eq_false hb)
        refine rf_R_wv rp_9 (rf_bk am_t9 111 2) 215 [(0, .ref rf_o), (1, .int x1)] [.ref rf_o] s2 (by repeat (first | exact trivial | refine ⟨rfl, ?_⟩)) (by decide +kernel) ?_
        exact rf_R_le (l := [(0, .ref rf_o)]) rfl rfl (⟨rfl, trivial⟩) (wr_next_259_ok h)
    · replace h := h.2 (of_decide_eq_false hb)
      refine rf_R_wv rp_9 (rf_bk am_t9 102 2) 198 [(0, .ref rf_o), (1, .int x1)] [.ref rf_o] s1 (by repeat (first | exact trivial | refine ⟨rfl, ?_⟩)) (by decide +kernel) ?_
      exact rf_R_le (l := [(0, .ref rf_o)]) rfl rfl (⟨rfl, trivial⟩) (wr_next_259_ok h)
  · replace h := h.2 (of_decide_eq_false hb)
    refine rf_R_wv rp_9 (rf_bk am_t9 93 2) 180 [(0, .ref rf_o), (1, .int x1)] [.ref rf_o] s (by repeat (first | exact trivial | refine ⟨rfl, ?_⟩)) (by decide +kernel) ?_
    exact rf_R_le (l := [(0, .ref rf_o)]) rfl rfl (⟨rfl, trivial⟩) (wr_next_259_ok h)
/-- next ()V, from 160 on -/
def wr_next_160 (d : Nat) (x1 : Int32) (s : rf_S) (Q : rf_S → Prop) : Prop := rf_R (d + 1) 9 (104, [(0, .ref rf_o), (1, .int x1)], [], (rf_si s 7 ((s.1 7) + (Int32.ofInt 1)))) (rf_qV Q)
set_option maxRecDepth 20000 in
theorem wr_next_160_ok {d : Nat} {x1 : Int32} {s : rf_S} {Q : rf_S → Prop} (h : wr_next_160 d x1 s Q) : rf_R (d + 1) 9 (160, [(0, .ref rf_o), (1, .int x1)], [], s) (rf_qV Q) := by
  unfold wr_next_160 at h
  refine rf_R_wv rp_9 (rf_bk am_t9 82 6) 160 [(0, .ref rf_o), (1, .int x1)] [] s (by repeat (first | exact trivial | refine ⟨rfl, ?_⟩)) (by decide +kernel) ?_
  refine And.intro rfl ?_
  refine rf_R_wv rp_9 (rf_bk am_t9 88 1) 170 [(0, .ref rf_o), (1, .int x1)] [] (rf_si s 7 ((s.1 7) + (Int32.ofInt 1))) (by repeat (first | exact trivial | refine ⟨rfl, ?_⟩)) (by decide +kernel) ?_
  exact rf_R_le (l := [(0, .ref rf_o), (1, .int x1)]) rfl rfl (⟨rfl, rfl, trivial⟩) h
/-- next ()V, from 104 on -/
def wr_next_104 (d : Nat) (x1 : Int32) (s : rf_S) (Q : rf_S → Prop) : Prop := (((s.1 3) ≤ ((s.1 6) + (s.1 7)) → wr_next_173 d x1 s Q) ∧ (¬ ((s.1 3) ≤ ((s.1 6) + (s.1 7))) → (rf_in ((s.1 6) + (s.1 7)) 2000 ∧ rf_I d 6 [(0, .int (s.2.2.1 2 ((s.1 6) + (s.1 7)).toNatClampNeg))] s (fun r1 s1 => ((¬ r1 = 0 → wr_next_160 d x1 s1 Q) ∧ (r1 = 0 → (rf_in ((s1.1 6) + (s1.1 7)) 2000 ∧ rf_I d 5 [(0, .int (s1.2.2.1 2 ((s1.1 6) + (s1.1 7)).toNatClampNeg))] s1 (fun r2 s2 => ((r2 = 0 → wr_next_173 d x1 s2 Q) ∧ (¬ (r2 = 0) → wr_next_160 d x1 s2 Q))))))))))
set_option maxRecDepth 20000 in
theorem wr_next_104_ok {d : Nat} {x1 : Int32} {s : rf_S} {Q : rf_S → Prop} (h : wr_next_104 d x1 s Q) : rf_R (d + 1) 9 (104, [(0, .ref rf_o), (1, .int x1)], [], s) (rf_qV Q) := by
  unfold wr_next_104 at h
  refine rf_R_wv rp_9 (rf_bk am_t9 54 8) 104 [(0, .ref rf_o), (1, .int x1)] [] s (by repeat (first | exact trivial | refine ⟨rfl, ?_⟩)) (by decide +kernel) ?_
  refine rf_R_if (b := am_cnd .ge ((s.1 6) + (s.1 7)) (s.1 3)) (p := 173) (q := 120) (fun hb => ?_) (fun hb => ?_)
  · replace h := h.1 (of_decide_eq_true hb)
    exact rf_R_le (l := [(0, .ref rf_o), (1, .int x1)]) rfl rfl (⟨rfl, rfl, trivial⟩) (wr_next_173_ok h)
  · replace h := h.2 (of_decide_eq_false hb)
    refine rf_R_wv rp_9 (rf_bk am_t9 62 8) 120 [(0, .ref rf_o), (1, .int x1)] [] s (by repeat (first | exact trivial | refine ⟨rfl, ?_⟩)) (by decide +kernel) ?_
    refine And.intro h.1 ?_
    replace h := h.2
    refine rf_R_call (pc := 134) (q := ([.int (s.2.2.1 2 ((s.1 6) + (s.1 7)).toNatClampNeg)], [])) rp_9 rfl rfl (by decide) rp_6 rfl (Nat.le_of_ble_eq_true rfl) ⟨rfl, Nat.le_of_ble_eq_true rfl⟩ h (fun v s1 h => ?_)
    obtain ⟨r1, rfl, h⟩ := h
    refine rf_R_wv rp_9 (rf_bk am_t9 71 1) 137 [(0, .ref rf_o), (1, .int x1)] [.int r1] s1 (by repeat (first | exact trivial | refine ⟨rfl, ?_⟩)) (by decide +kernel) ?_
    refine rf_R_if (b := am_cnd .ne r1 0) (p := 160) (q := 140) (fun hb => ?_) (fun hb => ?_)
    · replace h := h.1 (of_decide_eq_true hb)
      exact rf_R_le (l := [(0, .ref rf_o), (1, .int x1)]) rfl rfl (⟨rfl, rfl, trivial⟩) (wr_next_160_ok h)
    · replace h := h.2 (Decidable.not_not.mp (of_decide_eq_false hb))
      refine rf_R_wv rp_9 (rf_bk am_t9 72 8) 140 [(0, .ref rf_o), (1, .int x1)] [] s1 (by repeat (first | exact trivial | refine ⟨rfl, ?_⟩)) (by decide +kernel) ?_
      refine And.intro h.1 ?_
      replace h := h.2
      refine rf_R_call (pc := 154) (q := ([.int (s1.2.2.1 2 ((s1.1 6) + (s1.1 7)).toNatClampNeg)], [])) rp_9 rfl rfl (by decide) rp_5 rfl (Nat.le_of_ble_eq_true rfl) ⟨rfl, Nat.le_of_ble_eq_true rfl⟩ h (fun v s2 h => ?_)
      obtain ⟨r2, rfl, h⟩ := h
      refine rf_R_wv rp_9 (rf_bk am_t9 81 1) 157 [(0, .ref rf_o), (1, .int x1)] [.int r2] s2 (by repeat (first | exact trivial | refine ⟨rfl, ?_⟩)) (by decide +kernel) ?_
      refine rf_R_if (b := am_cnd .eq r2 0) (p := 173) (q := 160) (fun hb => ?_) (fun hb => ?_)
      · replace h := h.1 (of_decide_eq_true hb)
        exact rf_R_le (l := [(0, .ref rf_o), (1, .int x1)]) rfl rfl (⟨rfl, rfl, trivial⟩) (wr_next_173_ok h)
      · replace h := h.2 (of_decide_eq_false hb)
        exact rf_R_le (l := [(0, .ref rf_o), (1, .int x1)]) rfl rfl (⟨rfl, rfl, trivial⟩) (wr_next_160_ok h)
/-- next ()V, from 52 on -/
def wr_next_52 (d : Nat) (s : rf_S) (Q : rf_S → Prop) : Prop := ((¬ (s.1 4) = (s.1 3) → (rf_in (s.1 4) 2000 ∧ rf_I d 6 [(0, .int (s.2.2.1 2 (s.1 4).toNatClampNeg))] (rf_si (rf_si (rf_si s 6 (s.1 4)) 7 (Int32.ofInt 0)) 8 (Int32.ofInt 0)) (fun r1 s1 => ((r1 = 0 → rf_I d 5 [(0, .int (s.2.2.1 2 (s.1 4).toNatClampNeg))] s1 (fun r2 s2 => ((r2 = 0 → rf_I d 8 [(0, .ref rf_o)] s2 (fun r3 s3 => wr_next_383 d (rf_si s3 5 r3) Q)) ∧ (¬ (r2 = 0) → rf_R (d + 1) 9 (272, [(0, .ref rf_o)], [], s2) (rf_qV Q))))) ∧ (¬ (r1 = 0) → rf_R (d + 1) 9 (104, [(0, .ref rf_o), (1, .int (s.2.2.1 2 (s.1 4).toNatClampNeg))], [], s1) (rf_qV Q)))))) ∧ ((s.1 4) = (s.1 3) → Q (rf_si (rf_si (rf_si (rf_si s 6 (s.1 4)) 7 (Int32.ofInt 0)) 8 (Int32.ofInt 0)) 5 (Int32.ofInt 0))))
set_option maxRecDepth 20000 in
theorem wr_next_52_ok {d : Nat} {s : rf_S} {Q : rf_S → Prop} (h : wr_next_52 d s Q) : rf_R (d + 1) 9 (52, [(0, .ref rf_o)], [], s) (rf_qV Q) := by
  unfold wr_next_52 at h
  refine rf_R_wv rp_9 (rf_bk am_t9 26 4) 52 [(0, .ref rf_o)] [] s (by repeat (first | exact trivial | refine ⟨rfl, ?_⟩)) (by decide +kernel) ?_
  refine And.intro rfl ?_
  refine rf_R_wv rp_9 (rf_bk am_t9 30 3) 60 [(0, .ref rf_o)] [] (rf_si s 6 (s.1 4)) (by repeat (first | exact trivial | refine ⟨rfl, ?_⟩)) (by decide +kernel) ?_
  refine And.intro rfl ?_
  refine rf_R_wv rp_9 (rf_bk am_t9 33 3) 65 [(0, .ref rf_o)] [] (rf_si (rf_si s 6 (s.1 4)) 7 (Int32.ofInt 0)) (by repeat (first | exact trivial | refine ⟨rfl, ?_⟩)) (by decide +kernel) ?_
  refine And.intro rfl ?_
  refine rf_R_wv rp_9 (rf_bk am_t9 36 5) 70 [(0, .ref rf_o)] [] (rf_si (rf_si (rf_si s 6 (s.1 4)) 7 (Int32.ofInt 0)) 8 (Int32.ofInt 0)) (by repeat (first | exact trivial | refine ⟨rfl, ?_⟩)) (by decide +kernel) ?_
  refine rf_R_if (b := am_cnd .ne (s.1 4) (s.1 3)) (p := 87) (q := 81) (fun hb => ?_) (fun hb => ?_)
  · replace h := h.1 (of_decide_eq_true hb)
    refine rf_R_wv rp_9 (rf_bk am_t9 45 7) 87 [(0, .ref rf_o)] [] (rf_si (rf_si (rf_si s 6 (s.1 4)) 7 (Int32.ofInt 0)) 8 (Int32.ofInt 0)) (by repeat (first | exact trivial | refine ⟨rfl, ?_⟩)) (by decide +kernel) ?_
    refine And.intro h.1 ?_
    replace h := h.2
    refine rf_R_call (pc := 98) (q := ([.int (s.2.2.1 2 (s.1 4).toNatClampNeg)], [])) rp_9 rfl rfl (by decide) rp_6 rfl (Nat.le_of_ble_eq_true rfl) ⟨rfl, Nat.le_of_ble_eq_true rfl⟩ h (fun v s1 h => ?_)
    obtain ⟨r1, rfl, h⟩ := h
    refine rf_R_wv rp_9 (rf_bk am_t9 53 1) 101 [(1, .int (s.2.2.1 2 (s.1 4).toNatClampNeg)), (0, .ref rf_o)] [.int r1] s1 (by repeat (first | exact trivial | refine ⟨rfl, ?_⟩)) (by decide +kernel) ?_
    refine rf_R_if (b := am_cnd .eq r1 0) (p := 265) (q := 104) (fun hb => ?_) (fun hb => ?_)
    · replace h := h.1 (of_decide_eq_true hb)
      refine rf_R_wv rp_9 (rf_bk am_t9 134 1) 265 [(1, .int (s.2.2.1 2 (s.1 4).toNatClampNeg)), (0, .ref rf_o)] [] s1 (by repeat (first | exact trivial | refine ⟨rfl, ?_⟩)) (by decide +kernel) ?_
      refine rf_R_call (pc := 266) (q := ([.int (s.2.2.1 2 (s.1 4).toNatClampNeg)], [])) rp_9 rfl rfl (by decide) rp_5 rfl (Nat.le_of_ble_eq_true rfl) ⟨rfl, Nat.le_of_ble_eq_true rfl⟩ h (fun v s2 h => ?_)
      obtain ⟨r2, rfl, h⟩ := h
      refine rf_R_wv rp_9 (rf_bk am_t9 136 1) 269 [(1, .int (s.2.2.1 2 (s.1 4).toNatClampNeg)), (0, .ref rf_o)] [.int r2] s2 (by repeat (first | exact trivial | refine ⟨rfl, ?_⟩)) (by decide +kernel) ?_
      refine rf_R_if (b := am_cnd .eq r2 0) (p := 375) (q := 272) (fun hb => ?_) (fun hb => ?_)
      · replace h := h.1 (of_decide_eq_true hb)
        refine rf_R_wv rp_9 (rf_bk am_t9 191 2) 375 [(1, .int (s.2.2.1 2 (s.1 4).toNatClampNeg)), (0, .ref rf_o)] [] s2 (by repeat (first | exact trivial | refine ⟨rfl, ?_⟩)) (by decide +kernel) ?_
        refine rf_R_call (pc := 377) (q := ([.ref rf_o], [.ref rf_o])) rp_9 rfl rfl (by decide) rp_8 rfl (Nat.le_of_ble_eq_true rfl) ⟨rfl, Nat.le_of_ble_eq_true rfl⟩ h (fun v s3 h => ?_)
        obtain ⟨r3, rfl, h⟩ := h
        refine rf_R_wv rp_9 (rf_bk am_t9 194 1) 380 [(1, .int (s.2.2.1 2 (s.1 4).toNatClampNeg)), (0, .ref rf_o)] [.int r3, .ref rf_o] s3 (by repeat (first | exact trivial | refine ⟨rfl, ?_⟩)) (by decide +kernel) ?_
        refine And.intro rfl ?_
        exact rf_R_le (l := [(0, .ref rf_o)]) rfl rfl (⟨rfl, trivial⟩) (wr_next_383_ok h)
      · replace h := h.2 (of_decide_eq_false hb)
        exact rf_R_le (l := [(0, .ref rf_o)]) rfl rfl (⟨rfl, trivial⟩) h
    · replace h := h.2 (of_decide_eq_false hb)
      exact rf_R_le (l := [(0, .ref rf_o), (1, .int (s.2.2.1 2 (s.1 4).toNatClampNeg))]) rfl rfl (⟨rfl, rfl, trivial⟩) h
  · replace h := h.2 (Decidable.not_not.mp (of_decide_eq_false hb))
    refine rf_R_wv rp_9 (rf_bk am_t9 41 3) 81 [(0, .ref rf_o)] [] (rf_si (rf_si (rf_si s 6 (s.1 4)) 7 (Int32.ofInt 0)) 8 (Int32.ofInt 0)) (by repeat (first | exact trivial | refine ⟨rfl, ?_⟩)) (by decide +kernel) ?_
    refine And.intro rfl ?_
    exact rf_R_ret (pc := 86) rp_9 rfl rfl rfl ⟨rfl, h⟩
/-- next ()V, from 39 on -/
def wr_next_39 (d : Nat) (s : rf_S) (Q : rf_S → Prop) : Prop := rf_R (d + 1) 9 (0, [(0, .ref rf_o)], [], (rf_si s 4 ((s.1 4) + (Int32.ofInt 1)))) (rf_qV Q)
set_option maxRecDepth 20000 in
theorem wr_next_39_ok {d : Nat} {s : rf_S} {Q : rf_S → Prop} (h : wr_next_39 d s Q) : rf_R (d + 1) 9 (39, [(0, .ref rf_o)], [], s) (rf_qV Q) := by
  unfold wr_next_39 at h
  refine rf_R_wv rp_9 (rf_bk am_t9 19 6) 39 [(0, .ref rf_o)] [] s (by repeat (first | exact trivial | refine ⟨rfl, ?_⟩)) (by decide +kernel) ?_
  refine And.intro rfl ?_
  refine rf_R_wv rp_9 (rf_bk am_t9 25 1) 49 [(0, .ref rf_o)] [] (rf_si s 4 ((s.1 4) + (Int32.ofInt 1))) (by repeat (first | exact trivial | refine ⟨rfl, ?_⟩)) (by decide +kernel) ?_
  exact rf_R_le (l := [(0, .ref rf_o)]) rfl rfl (⟨rfl, trivial⟩) h
/-- next ()V, from 0 on -/
def wr_next_0 (d : Nat) (s : rf_S) (Q : rf_S → Prop) : Prop := (((s.1 3) ≤ (s.1 4) → wr_next_52 d s Q) ∧ (¬ ((s.1 3) ≤ (s.1 4)) → (rf_in (s.1 4) 2000 ∧ (((s.2.2.1 2 (s.1 4).toNatClampNeg) = ((Int8.ofInt 32).toInt32) → wr_next_39 d s Q) ∧ (¬ ((s.2.2.1 2 (s.1 4).toNatClampNeg) = ((Int8.ofInt 32).toInt32)) → (rf_in (s.1 4) 2000 ∧ ((¬ (s.2.2.1 2 (s.1 4).toNatClampNeg) = ((Int8.ofInt 10).toInt32) → wr_next_52 d s Q) ∧ ((s.2.2.1 2 (s.1 4).toNatClampNeg) = ((Int8.ofInt 10).toInt32) → wr_next_39 d s Q))))))))
set_option maxRecDepth 20000 in
theorem wr_next_0_ok {d : Nat} {s : rf_S} {Q : rf_S → Prop} (h : wr_next_0 d s Q) : rf_R (d + 1) 9 (0, [(0, .ref rf_o)], [], s) (rf_qV Q) := by
  unfold wr_next_0 at h
  refine rf_R_wv rp_9 (rf_bk am_t9 0 5) 0 [(0, .ref rf_o)] [] s (by repeat (first | exact trivial | refine ⟨rfl, ?_⟩)) (by decide +kernel) ?_
  refine rf_R_if (b := am_cnd .ge (s.1 4) (s.1 3)) (p := 52) (q := 11) (fun hb => ?_) (fun hb => ?_)
  · replace h := h.1 (of_decide_eq_true hb)
    exact rf_R_le (l := [(0, .ref rf_o)]) rfl rfl (⟨rfl, trivial⟩) (wr_next_52_ok h)
  · replace h := h.2 (of_decide_eq_false hb)
    refine rf_R_wv rp_9 (rf_bk am_t9 5 7) 11 [(0, .ref rf_o)] [] s (by repeat (first | exact trivial | refine ⟨rfl, ?_⟩)) (by decide +kernel) ?_
    refine And.intro h.1 ?_
    replace h := h.2
    refine rf_R_if (b := am_cnd .eq (s.2.2.1 2 (s.1 4).toNatClampNeg) ((Int8.ofInt 32).toInt32)) (p := 39) (q := 25) (fun hb => ?_) (fun hb => ?_)
    · replace h := h.1 (of_decide_eq_true hb)
      exact rf_R_le (l := [(0, .ref rf_o)]) rfl rfl (⟨rfl, trivial⟩) (wr_next_39_ok h)
    · replace h := h.2 (of_decide_eq_false hb)
      refine rf_R_wv rp_9 (rf_bk am_t9 12 7) 25 [(0, .ref rf_o)] [] s (by repeat (first | exact trivial | refine ⟨rfl, ?_⟩)) (by decide +kernel) ?_
      refine And.intro h.1 ?_
      replace h := h.2
      refine rf_R_if (b := am_cnd .ne (s.2.2.1 2 (s.1 4).toNatClampNeg) ((Int8.ofInt 10).toInt32)) (p := 52) (q := 39) (fun hb => ?_) (fun hb => ?_)
      · replace h := h.1 (of_decide_eq_true hb)
        exact rf_R_le (l := [(0, .ref rf_o)]) rfl rfl (⟨rfl, trivial⟩) (wr_next_52_ok h)
      · replace h := h.2 (Decidable.not_not.mp (of_decide_eq_false hb))
        exact rf_R_le (l := [(0, .ref rf_o)]) rfl rfl (⟨rfl, trivial⟩) (wr_next_39_ok h)
/-- next ()V, from 0 on -/
def wr_next (d : Nat) (s : rf_S) (Q : rf_S → Prop) : Prop := rf_R (d + 1) 9 (0, [(0, .ref rf_o)], [], s) (rf_qV Q)
set_option maxRecDepth 20000 in
theorem wr_next_ok {d : Nat} {s : rf_S} {Q : rf_S → Prop} (h : wr_next d s Q) : rf_V (d + 1) 9 [(0, .ref rf_o)] s Q := by
  unfold wr_next at h
  unfold rf_V
  exact rf_R_le (l := [(0, .ref rf_o)]) rfl rfl (⟨rfl, trivial⟩) h
/-- fails (I)Z, from 0 on -/
def wr_fails (d : Nat) (x1 : Int32) (s : rf_S) (Q : Int32 → rf_S → Prop) : Prop := ((0 ≤ (s.1 9) → Q (Int32.ofInt 0) (rf_si s 5 (Int32.ofInt 0))) ∧ (¬ (0 ≤ (s.1 9)) → Q (Int32.ofInt 0) (rf_si (rf_si s 9 x1) 5 (Int32.ofInt 0))))
set_option maxRecDepth 20000 in
theorem wr_fails_ok {d : Nat} {x1 : Int32} {s : rf_S} {Q : Int32 → rf_S → Prop} (h : wr_fails d x1 s Q) : rf_I d 10 [(0, .ref rf_o), (1, .int x1)] s Q := by
  unfold wr_fails at h
  unfold rf_I
  refine rf_R_wv rp_10 (rf_bk am_t10 0 3) 0 [(0, .ref rf_o), (1, .int x1)] [] s (by repeat (first | exact trivial | refine ⟨rfl, ?_⟩)) (by decide +kernel) ?_
  refine rf_R_if (b := am_cnd .ge (s.1 9) 0) (p := 12) (q := 7) (fun hb => ?_) (fun hb => ?_)
  · replace h := h.1 (of_decide_eq_true hb)
    refine rf_R_wv rp_10 (rf_bk am_t10 6 3) 12 [(0, .ref rf_o), (1, .int x1)] [] s (by repeat (first | exact trivial | refine ⟨rfl, ?_⟩)) (by decide +kernel) ?_
    refine And.intro rfl ?_
    refine rf_R_wv rp_10 (rf_bk am_t10 9 1) 17 [(0, .ref rf_o), (1, .int x1)] [] (rf_si s 5 (Int32.ofInt 0)) (by repeat (first | exact trivial | refine ⟨rfl, ?_⟩)) (by decide +kernel) ?_
    exact rf_R_ret (pc := 18) (v := some (.int (Int32.ofInt 0))) rp_10 rfl rfl rfl ⟨_, rfl, h⟩
  · replace h := h.2 (of_decide_eq_false hb)
    refine rf_R_wv rp_10 (rf_bk am_t10 3 3) 7 [(0, .ref rf_o), (1, .int x1)] [] s (by repeat (first | exact trivial | refine ⟨rfl, ?_⟩)) (by decide +kernel) ?_
    refine And.intro rfl ?_
    refine rf_R_wv rp_10 (rf_bk am_t10 6 3) 12 [(0, .ref rf_o), (1, .int x1)] [] (rf_si s 9 x1) (by repeat (first | exact trivial | refine ⟨rfl, ?_⟩)) (by decide +kernel) ?_
    refine And.intro rfl ?_
    refine rf_R_wv rp_10 (rf_bk am_t10 9 1) 17 [(0, .ref rf_o), (1, .int x1)] [] (rf_si (rf_si s 9 x1) 5 (Int32.ofInt 0)) (by repeat (first | exact trivial | refine ⟨rfl, ?_⟩)) (by decide +kernel) ?_
    exact rf_R_ret (pc := 18) (v := some (.int (Int32.ofInt 0))) rp_10 rfl rfl rfl ⟨_, rfl, h⟩
/-- isSign (I)Z, from 0 on -/
def wr_isSign (d : Nat) (x1 : Int32) (s : rf_S) (Q : Int32 → rf_S → Prop) : Prop := ((¬ (s.1 5) = ((Int8.ofInt 11).toInt32) → Q (Int32.ofInt 0) s) ∧ ((s.1 5) = ((Int8.ofInt 11).toInt32) → ((¬ (s.1 8) = x1 → Q (Int32.ofInt 0) s) ∧ ((s.1 8) = x1 → ((0 ≤ (s.1 9) → Q (Int32.ofInt 0) s) ∧ (¬ (0 ≤ (s.1 9)) → Q (Int32.ofInt 1) s))))))
set_option maxRecDepth 20000 in
theorem wr_isSign_ok {d : Nat} {x1 : Int32} {s : rf_S} {Q : Int32 → rf_S → Prop} (h : wr_isSign d x1 s Q) : rf_I d 11 [(0, .ref rf_o), (1, .int x1)] s Q := by
  unfold wr_isSign at h
  unfold rf_I
  refine rf_R_wv rp_11 (rf_bk am_t11 0 4) 0 [(0, .ref rf_o), (1, .int x1)] [] s (by repeat (first | exact trivial | refine ⟨rfl, ?_⟩)) (by decide +kernel) ?_
  refine rf_R_if (b := am_cnd .ne (s.1 5) ((Int8.ofInt 11).toInt32)) (p := 28) (q := 9) (fun hb => ?_) (fun hb => ?_)
  · replace h := h.1 (of_decide_eq_true hb)
    refine rf_R_wv rp_11 (rf_bk am_t11 13 1) 28 [(0, .ref rf_o), (1, .int x1)] [] s (by repeat (first | exact trivial | refine ⟨rfl, ?_⟩)) (by decide +kernel) ?_
    exact rf_R_ret (pc := 29) (v := some (.int (Int32.ofInt 0))) rp_11 rfl rfl rfl ⟨_, rfl, h⟩
  · replace h := h.2 (Decidable.not_not.mp (of_decide_eq_false hb))
    refine rf_R_wv rp_11 (rf_bk am_t11 4 4) 9 [(0, .ref rf_o), (1, .int x1)] [] s (by repeat (first | exact trivial | refine ⟨rfl, ?_⟩)) (by decide +kernel) ?_
    refine rf_R_if (b := am_cnd .ne (s.1 8) x1) (p := 28) (q := 17) (fun hb => ?_) (fun hb => ?_)
    · replace h := h.1 (of_decide_eq_true hb)
      refine rf_R_wv rp_11 (rf_bk am_t11 13 1) 28 [(0, .ref rf_o), (1, .int x1)] [] s (by repeat (first | exact trivial | refine ⟨rfl, ?_⟩)) (by decide +kernel) ?_
      exact rf_R_ret (pc := 29) (v := some (.int (Int32.ofInt 0))) rp_11 rfl rfl rfl ⟨_, rfl, h⟩
    · replace h := h.2 (Decidable.not_not.mp (of_decide_eq_false hb))
      refine rf_R_wv rp_11 (rf_bk am_t11 8 3) 17 [(0, .ref rf_o), (1, .int x1)] [] s (by repeat (first | exact trivial | refine ⟨rfl, ?_⟩)) (by decide +kernel) ?_
      refine rf_R_if (b := am_cnd .ge (s.1 9) 0) (p := 28) (q := 24) (fun hb => ?_) (fun hb => ?_)
      · replace h := h.1 (of_decide_eq_true hb)
        refine rf_R_wv rp_11 (rf_bk am_t11 13 1) 28 [(0, .ref rf_o), (1, .int x1)] [] s (by repeat (first | exact trivial | refine ⟨rfl, ?_⟩)) (by decide +kernel) ?_
        exact rf_R_ret (pc := 29) (v := some (.int (Int32.ofInt 0))) rp_11 rfl rfl rfl ⟨_, rfl, h⟩
      · replace h := h.2 (of_decide_eq_false hb)
        refine rf_R_wv rp_11 (rf_bk am_t11 11 2) 24 [(0, .ref rf_o), (1, .int x1)] [] s (by repeat (first | exact trivial | refine ⟨rfl, ?_⟩)) (by decide +kernel) ?_
        exact rf_R_ret (pc := 29) (v := some (.int (Int32.ofInt 1))) rp_11 rfl rfl rfl ⟨_, rfl, h⟩
/-- passes (Z)Z, from 11 on -/
def wr_passes_11 (d : Nat) (s : rf_S) (Q : Int32 → rf_S → Prop) : Prop := rf_I d 10 [(0, .ref rf_o), (1, .int (s.1 6))] s (fun r1 s1 => (am_fit .boolean (.int r1) = true ∧ Q r1 s1))
set_option maxRecDepth 20000 in
theorem wr_passes_11_ok {d : Nat} {s : rf_S} {Q : Int32 → rf_S → Prop} (h : wr_passes_11 d s Q) : rf_R (d + 1) 12 (11, [(0, .ref rf_o)], [], s) (rf_qI Q) := by
  unfold wr_passes_11 at h
  refine rf_R_wv rp_12 (rf_bk am_t12 5 3) 11 [(0, .ref rf_o)] [] s (by repeat (first | exact trivial | refine ⟨rfl, ?_⟩)) (by decide +kernel) ?_
  refine rf_R_call (pc := 16) (q := ([.ref rf_o, .int (s.1 6)], [])) rp_12 rfl rfl (by decide) rp_10 rfl (Nat.le_of_ble_eq_true rfl) ⟨rfl, Nat.le_of_ble_eq_true rfl⟩ h (fun v s1 h => ?_)
  obtain ⟨r1, rfl, h⟩ := h
  exact rf_R_retF (pc := 19) rp_12 rfl rfl h.1 ⟨_, rfl, h.2⟩
/-- passes (Z)Z, from 0 on -/
def wr_passes (d : Nat) (x1 : Int32) (s : rf_S) (Q : Int32 → rf_S → Prop) : Prop := ((0 ≤ (s.1 9) → wr_passes_11 d s Q) ∧ (¬ (0 ≤ (s.1 9)) → ((¬ x1 = 0 → rf_V d 9 [(0, .ref rf_o)] s (fun s1 => Q (Int32.ofInt 1) s1)) ∧ (x1 = 0 → wr_passes_11 d s Q))))
set_option maxRecDepth 20000 in
theorem wr_passes_ok {d : Nat} {x1 : Int32} {s : rf_S} {Q : Int32 → rf_S → Prop} (h : wr_passes d x1 s Q) : rf_I (d + 1) 12 [(0, .ref rf_o), (1, .int x1)] s Q := by
  unfold wr_passes at h
  unfold rf_I
  refine rf_R_wv rp_12 (rf_bk am_t12 0 3) 0 [(0, .ref rf_o), (1, .int x1)] [] s (by repeat (first | exact trivial | refine ⟨rfl, ?_⟩)) (by decide +kernel) ?_
  refine rf_R_if (b := am_cnd .ge (s.1 9) 0) (p := 11) (q := 7) (fun hb => ?_) (fun hb => ?_)
  · replace h := h.1 (of_decide_eq_true hb)
    exact rf_R_le (l := [(0, .ref rf_o)]) rfl rfl (⟨rfl, trivial⟩) (wr_passes_11_ok h)
  · replace h := h.2 (of_decide_eq_false hb)
    refine rf_R_wv rp_12 (rf_bk am_t12 3 2) 7 [(0, .ref rf_o), (1, .int x1)] [] s (by repeat (first | exact trivial | refine ⟨rfl, ?_⟩)) (by decide +kernel) ?_
    refine rf_R_if (b := am_cnd .ne x1 0) (p := 20) (q := 11) (fun hb => ?_) (fun hb => ?_)
    · replace h := h.1 (of_decide_eq_true hb)
      refine rf_R_wv rp_12 (rf_bk am_t12 10 1) 20 [(0, .ref rf_o), (1, .int x1)] [] s (by repeat (first | exact trivial | refine ⟨rfl, ?_⟩)) (by decide +kernel) ?_
      refine rf_R_call (pc := 21) (q := ([.ref rf_o], [])) rp_12 rfl rfl (by decide) rp_9 rfl (Nat.le_of_ble_eq_true rfl) ⟨rfl, Nat.le_of_ble_eq_true rfl⟩ h (fun v s1 h => ?_)
      obtain ⟨rfl, h⟩ := h
      refine rf_R_wv rp_12 (rf_bk am_t12 12 1) 24 [(0, .ref rf_o), (1, .int x1)] [] s1 (by repeat (first | exact trivial | refine ⟨rfl, ?_⟩)) (by decide +kernel) ?_
      exact rf_R_ret (pc := 25) (v := some (.int (Int32.ofInt 1))) rp_12 rfl rfl rfl ⟨_, rfl, h⟩
    · replace h := h.2 (Decidable.not_not.mp (of_decide_eq_false hb))
      exact rf_R_le (l := [(0, .ref rf_o)]) rfl rfl (⟨rfl, trivial⟩) (wr_passes_11_ok h)
/-- opens ()Z, from 0 on -/
def wr_opens (d : Nat) (s : rf_S) (Q : Int32 → rf_S → Prop) : Prop := ((¬ (s.1 10) = ((Int8.ofInt 60).toInt32) → rf_V d 9 [(0, .ref rf_o)] (rf_si s 10 ((s.1 10) + (Int32.ofInt 1))) (fun s1 => Q (Int32.ofInt 1) s1)) ∧ ((s.1 10) = ((Int8.ofInt 60).toInt32) → rf_I d 10 [(0, .ref rf_o), (1, .int (s.1 6))] s (fun r2 s2 => (am_fit .boolean (.int r2) = true ∧ Q r2 s2))))
set_option maxRecDepth 20000 in
theorem wr_opens_ok {d : Nat} {s : rf_S} {Q : Int32 → rf_S → Prop} (h : wr_opens d s Q) : rf_I (d + 1) 13 [(0, .ref rf_o)] s Q := by
  unfold wr_opens at h
  unfold rf_I
  refine rf_R_wv rp_13 (rf_bk am_t13 0 4) 0 [(0, .ref rf_o)] [] s (by repeat (first | exact trivial | refine ⟨rfl, ?_⟩)) (by decide +kernel) ?_
  refine rf_R_if (b := am_cnd .ne (s.1 10) ((Int8.ofInt 60).toInt32)) (p := 18) (q := 9) (fun hb => ?_) (fun hb => ?_)
  · replace h := h.1 (of_decide_eq_true hb)
    refine rf_R_wv rp_13 (rf_bk am_t13 9 6) 18 [(0, .ref rf_o)] [] s (by repeat (first | exact trivial | refine ⟨rfl, ?_⟩)) (by decide +kernel) ?_
    refine And.intro rfl ?_
    refine rf_R_wv rp_13 (rf_bk am_t13 15 1) 28 [(0, .ref rf_o)] [] (rf_si s 10 ((s.1 10) + (Int32.ofInt 1))) (by repeat (first | exact trivial | refine ⟨rfl, ?_⟩)) (by decide +kernel) ?_
    refine rf_R_call (pc := 29) (q := ([.ref rf_o], [])) rp_13 rfl rfl (by decide) rp_9 rfl (Nat.le_of_ble_eq_true rfl) ⟨rfl, Nat.le_of_ble_eq_true rfl⟩ h (fun v s1 h => ?_)
    obtain ⟨rfl, h⟩ := h
    refine rf_R_wv rp_13 (rf_bk am_t13 17 1) 32 [(0, .ref rf_o)] [] s1 (by repeat (first | exact trivial | refine ⟨rfl, ?_⟩)) (by decide +kernel) ?_
    exact rf_R_ret (pc := 33) (v := some (.int (Int32.ofInt 1))) rp_13 rfl rfl rfl ⟨_, rfl, h⟩
  · replace h := h.2 (Decidable.not_not.mp (of_decide_eq_false hb))
    refine rf_R_wv rp_13 (rf_bk am_t13 4 3) 9 [(0, .ref rf_o)] [] s (by repeat (first | exact trivial | refine ⟨rfl, ?_⟩)) (by decide +kernel) ?_
    refine rf_R_call (pc := 14) (q := ([.ref rf_o, .int (s.1 6)], [])) rp_13 rfl rfl (by decide) rp_10 rfl (Nat.le_of_ble_eq_true rfl) ⟨rfl, Nat.le_of_ble_eq_true rfl⟩ h (fun v s2 h => ?_)
    obtain ⟨r2, rfl, h⟩ := h
    exact rf_R_retF (pc := 17) rp_13 rfl rfl h.1 ⟨_, rfl, h.2⟩
/-- node (IIII)I, from 0 on -/
def wr_node (d : Nat) (x1 : Int32) (x2 : Int32) (x3 : Int32) (x4 : Int32) (s : rf_S) (Q : Int32 → rf_S → Prop) : Prop := (rf_in (s.1 11) 2100 ∧ (rf_in (s.1 11) 2100 ∧ (rf_in (s.1 11) 2100 ∧ (rf_in (s.1 11) 2100 ∧ Q (((s.1 11) + (Int32.ofInt 1)) - (Int32.ofInt 1)) (rf_si (rf_sb (rf_sb (rf_sb (rf_sb s 12 (s.1 11).toNatClampNeg x1) 13 (s.1 11).toNatClampNeg x2) 14 (s.1 11).toNatClampNeg x3) 15 (s.1 11).toNatClampNeg x4) 11 ((s.1 11) + (Int32.ofInt 1)))))))
set_option maxRecDepth 20000 in
theorem wr_node_ok {d : Nat} {x1 : Int32} {x2 : Int32} {x3 : Int32} {x4 : Int32} {s : rf_S} {Q : Int32 → rf_S → Prop} (h : wr_node d x1 x2 x3 x4 s Q) : rf_I d 14 [(0, .ref rf_o), (1, .int x1), (2, .int x2), (3, .int x3), (4, .int x4)] s Q := by
  unfold wr_node at h
  unfold rf_I
  refine rf_R_wv rp_14 (rf_bk am_t14 0 6) 0 [(0, .ref rf_o), (1, .int x1), (2, .int x2), (3, .int x3), (4, .int x4)] [] s (by repeat (first | exact trivial | refine ⟨rfl, ?_⟩)) (by decide +kernel) ?_
  refine And.intro h.1 ?_
  replace h := h.2
  refine rf_R_wv rp_14 (rf_bk am_t14 6 6) 10 [(0, .ref rf_o), (1, .int x1), (2, .int x2), (3, .int x3), (4, .int x4)] [] (rf_sb s 12 (s.1 11).toNatClampNeg x1) (by repeat (first | exact trivial | refine ⟨rfl, ?_⟩)) (by decide +kernel) ?_
  refine And.intro h.1 ?_
  replace h := h.2
  refine rf_R_wv rp_14 (rf_bk am_t14 12 6) 20 [(0, .ref rf_o), (1, .int x1), (2, .int x2), (3, .int x3), (4, .int x4)] [] (rf_sb (rf_sb s 12 (s.1 11).toNatClampNeg x1) 13 (s.1 11).toNatClampNeg x2) (by repeat (first | exact trivial | refine ⟨rfl, ?_⟩)) (by decide +kernel) ?_
  refine And.intro h.1 ?_
  replace h := h.2
  refine rf_R_wv rp_14 (rf_bk am_t14 18 6) 30 [(0, .ref rf_o), (1, .int x1), (2, .int x2), (3, .int x3), (4, .int x4)] [] (rf_sb (rf_sb (rf_sb s 12 (s.1 11).toNatClampNeg x1) 13 (s.1 11).toNatClampNeg x2) 14 (s.1 11).toNatClampNeg x3) (by repeat (first | exact trivial | refine ⟨rfl, ?_⟩)) (by decide +kernel) ?_
  refine And.intro h.1 ?_
  replace h := h.2
  refine rf_R_wv rp_14 (rf_bk am_t14 24 6) 41 [(0, .ref rf_o), (1, .int x1), (2, .int x2), (3, .int x3), (4, .int x4)] [] (rf_sb (rf_sb (rf_sb (rf_sb s 12 (s.1 11).toNatClampNeg x1) 13 (s.1 11).toNatClampNeg x2) 14 (s.1 11).toNatClampNeg x3) 15 (s.1 11).toNatClampNeg x4) (by repeat (first | exact trivial | refine ⟨rfl, ?_⟩)) (by decide +kernel) ?_
  refine And.intro rfl ?_
  refine rf_R_wv rp_14 (rf_bk am_t14 30 4) 51 [(0, .ref rf_o), (1, .int x1), (2, .int x2), (3, .int x3), (4, .int x4)] [] (rf_si (rf_sb (rf_sb (rf_sb (rf_sb s 12 (s.1 11).toNatClampNeg x1) 13 (s.1 11).toNatClampNeg x2) 14 (s.1 11).toNatClampNeg x3) 15 (s.1 11).toNatClampNeg x4) 11 ((s.1 11) + (Int32.ofInt 1))) (by repeat (first | exact trivial | refine ⟨rfl, ?_⟩)) (by decide +kernel) ?_
  exact rf_R_ret (pc := 57) (v := some (.int (((s.1 11) + (Int32.ofInt 1)) - (Int32.ofInt 1)))) rp_14 rfl rfl rfl ⟨_, rfl, h⟩
/-- keep (I)V, from 0 on -/
def wr_keep (d : Nat) (x1 : Int32) (s : rf_S) (Q : rf_S → Prop) : Prop := (rf_in (s.1 18) 9000 ∧ Q (rf_si (rf_sb s 19 (s.1 18).toNatClampNeg x1) 18 ((s.1 18) + (Int32.ofInt 1))))
set_option maxRecDepth 20000 in
theorem wr_keep_ok {d : Nat} {x1 : Int32} {s : rf_S} {Q : rf_S → Prop} (h : wr_keep d x1 s Q) : rf_V d 15 [(0, .ref rf_o), (1, .int x1)] s Q := by
  unfold wr_keep at h
  unfold rf_V
  refine rf_R_wv rp_15 (rf_bk am_t15 0 6) 0 [(0, .ref rf_o), (1, .int x1)] [] s (by repeat (first | exact trivial | refine ⟨rfl, ?_⟩)) (by decide +kernel) ?_
  refine And.intro h.1 ?_
  replace h := h.2
  refine rf_R_wv rp_15 (rf_bk am_t15 6 6) 10 [(0, .ref rf_o), (1, .int x1)] [] (rf_sb s 19 (s.1 18).toNatClampNeg x1) (by repeat (first | exact trivial | refine ⟨rfl, ?_⟩)) (by decide +kernel) ?_
  refine And.intro rfl ?_
  exact rf_R_ret (pc := 20) rp_15 rfl rfl rfl ⟨rfl, h⟩
/-- lists (I)I, from 7 on -/
def wr_lists_7 (d : Nat) (x1 : Int32) (x2 : Int32) (x3 : Int32) (s : rf_S) (Q : Int32 → rf_S → Prop) : Prop := (((s.1 18) ≤ x3 → Q x2 (rf_si s 18 x1)) ∧ (¬ ((s.1 18) ≤ x3) → (rf_in x3 9000 ∧ rf_in (s.1 16) 9000 ∧ rf_R d 16 (7, [(0, .ref rf_o), (1, .int x1), (2, .int x2), (3, .int (x3 + Int32.ofInt 1))], [], (rf_si (rf_sb s 17 (s.1 16).toNatClampNeg (s.2.2.1 19 x3.toNatClampNeg)) 16 ((s.1 16) + (Int32.ofInt 1)))) (rf_qI Q))))
set_option maxRecDepth 20000 in
theorem wr_lists_7_ok {d : Nat} {x1 : Int32} {x2 : Int32} {x3 : Int32} {s : rf_S} {Q : Int32 → rf_S → Prop} (h : wr_lists_7 d x1 x2 x3 s Q) : rf_R d 16 (7, [(0, .ref rf_o), (1, .int x1), (2, .int x2), (3, .int x3)], [], s) (rf_qI Q) := by
  unfold wr_lists_7 at h
  refine rf_R_wv rp_16 (rf_bk am_t16 5 4) 7 [(0, .ref rf_o), (1, .int x1), (2, .int x2), (3, .int x3)] [] s (by repeat (first | exact trivial | refine ⟨rfl, ?_⟩)) (by decide +kernel) ?_
  refine rf_R_if (b := am_cnd .ge x3 (s.1 18)) (p := 46) (q := 15) (fun hb => ?_) (fun hb => ?_)
  · replace h := h.1 (of_decide_eq_true hb)
    refine rf_R_wv rp_16 (rf_bk am_t16 26 3) 46 [(0, .ref rf_o), (1, .int x1), (2, .int x2), (3, .int x3)] [] s (by repeat (first | exact trivial | refine ⟨rfl, ?_⟩)) (by decide +kernel) ?_
    refine And.intro rfl ?_
    refine rf_R_wv rp_16 (rf_bk am_t16 29 1) 51 [(0, .ref rf_o), (1, .int x1), (2, .int x2), (3, .int x3)] [] (rf_si s 18 x1) (by repeat (first | exact trivial | refine ⟨rfl, ?_⟩)) (by decide +kernel) ?_
    exact rf_R_ret (pc := 52) (v := some (.int x2)) rp_16 rfl rfl rfl ⟨_, rfl, h⟩
  · replace h := h.2 (of_decide_eq_false hb)
    refine rf_R_wv rp_16 (rf_bk am_t16 9 9) 15 [(0, .ref rf_o), (1, .int x1), (2, .int x2), (3, .int x3)] [] s (by repeat (first | exact trivial | refine ⟨rfl, ?_⟩)) (by decide +kernel) ?_
    refine And.intro h.1 ?_
    replace h := h.2
    refine And.intro h.1 ?_
    replace h := h.2
    refine rf_R_wv rp_16 (rf_bk am_t16 18 6) 30 [(0, .ref rf_o), (1, .int x1), (2, .int x2), (3, .int x3)] [] (rf_sb s 17 (s.1 16).toNatClampNeg (s.2.2.1 19 x3.toNatClampNeg)) (by repeat (first | exact trivial | refine ⟨rfl, ?_⟩)) (by decide +kernel) ?_
    refine And.intro rfl ?_
    refine rf_R_wv rp_16 (rf_bk am_t16 24 2) 40 [(0, .ref rf_o), (1, .int x1), (2, .int x2), (3, .int x3)] [] (rf_si (rf_sb s 17 (s.1 16).toNatClampNeg (s.2.2.1 19 x3.toNatClampNeg)) 16 ((s.1 16) + (Int32.ofInt 1))) (by repeat (first | exact trivial | refine ⟨rfl, ?_⟩)) (by decide +kernel) ?_
    exact rf_R_le (l := [(0, .ref rf_o), (1, .int x1), (2, .int x2), (3, .int (x3 + Int32.ofInt 1))]) rfl rfl (⟨rfl, rfl, rfl, rfl, trivial⟩) h
/-- lists (I)I, from 0 on -/
def wr_lists (d : Nat) (x1 : Int32) (s : rf_S) (Q : Int32 → rf_S → Prop) : Prop := rf_R d 16 (7, [(0, .ref rf_o), (1, .int x1), (2, .int (s.1 16)), (3, .int x1)], [], s) (rf_qI Q)
set_option maxRecDepth 20000 in
theorem wr_lists_ok {d : Nat} {x1 : Int32} {s : rf_S} {Q : Int32 → rf_S → Prop} (h : wr_lists d x1 s Q) : rf_I d 16 [(0, .ref rf_o), (1, .int x1)] s Q := by
  unfold wr_lists at h
  unfold rf_I
  refine rf_R_wv rp_16 (rf_bk am_t16 0 5) 0 [(0, .ref rf_o), (1, .int x1)] [] s (by repeat (first | exact trivial | refine ⟨rfl, ?_⟩)) (by decide +kernel) ?_
  exact rf_R_le (l := [(0, .ref rf_o), (1, .int x1), (2, .int (s.1 16)), (3, .int x1)]) rfl rfl (⟨rfl, rfl, rfl, rfl, trivial⟩) h
/-- isSame (IIII)Z, from 53 on -/
def wr_isSame_53 (d : Nat) (x1 : Int32) (x2 : Int32) (x3 : Int32) (x6 : Int32) (y0 : Int32) (s : rf_S) (Q : Int32 → rf_S → Prop) : Prop := rf_R d 17 (16, [(0, .ref rf_o), (1, .int x1), (2, .int x2), (3, .int x3), (5, .int y0), (6, .int (x6 + Int32.ofInt 1))], [], s) (rf_qI Q)
set_option maxRecDepth 20000 in
theorem wr_isSame_53_ok {d : Nat} {x1 : Int32} {x2 : Int32} {x3 : Int32} {x6 : Int32} {y0 : Int32} {s : rf_S} {Q : Int32 → rf_S → Prop} (h : wr_isSame_53 d x1 x2 x3 x6 y0 s Q) : rf_R d 17 (53, [(0, .ref rf_o), (1, .int x1), (2, .int x2), (3, .int x3), (6, .int x6)], [.int y0], s) (rf_qI Q) := by
  unfold wr_isSame_53 at h
  refine rf_R_wv rp_17 (rf_bk am_t17 30 3) 53 [(0, .ref rf_o), (1, .int x1), (2, .int x2), (3, .int x3), (6, .int x6)] [.int y0] s (by repeat (first | exact trivial | refine ⟨rfl, ?_⟩)) (by decide +kernel) ?_
  exact rf_R_le (l := [(0, .ref rf_o), (1, .int x1), (2, .int x2), (3, .int x3), (5, .int y0), (6, .int (x6 + Int32.ofInt 1))]) rfl rfl (⟨rfl, rfl, rfl, rfl, rfl, rfl, trivial⟩) h
/-- isSame (IIII)Z, from 16 on -/
def wr_isSame_16 (d : Nat) (x1 : Int32) (x2 : Int32) (x3 : Int32) (x5 : Int32) (x6 : Int32) (s : rf_S) (Q : Int32 → rf_S → Prop) : Prop := ((x2 ≤ x6 → (am_fit .boolean (.int x5) = true ∧ Q x5 s)) ∧ (¬ (x2 ≤ x6) → ((x5 = 0 → (am_fit .boolean (.int x5) = true ∧ Q x5 s)) ∧ (¬ (x5 = 0) → (rf_in (x1 + x6) 2000 ∧ rf_in (x3 + x6) 2000 ∧ ((¬ (s.2.2.1 2 (x1 + x6).toNatClampNeg) = (s.2.2.1 2 (x3 + x6).toNatClampNeg) → wr_isSame_53 d x1 x2 x3 x6 (Int32.ofInt 0) s Q) ∧ ((s.2.2.1 2 (x1 + x6).toNatClampNeg) = (s.2.2.1 2 (x3 + x6).toNatClampNeg) → wr_isSame_53 d x1 x2 x3 x6 (Int32.ofInt 1) s Q)))))))
set_option maxRecDepth 20000 in
theorem wr_isSame_16_ok {d : Nat} {x1 : Int32} {x2 : Int32} {x3 : Int32} {x5 : Int32} {x6 : Int32} {s : rf_S} {Q : Int32 → rf_S → Prop} (h : wr_isSame_16 d x1 x2 x3 x5 x6 s Q) : rf_R d 17 (16, [(0, .ref rf_o), (1, .int x1), (2, .int x2), (3, .int x3), (5, .int x5), (6, .int x6)], [], s) (rf_qI Q) := by
  unfold wr_isSame_16 at h
  refine rf_R_wv rp_17 (rf_bk am_t17 9 3) 16 [(0, .ref rf_o), (1, .int x1), (2, .int x2), (3, .int x3), (5, .int x5), (6, .int x6)] [] s (by repeat (first | exact trivial | refine ⟨rfl, ?_⟩)) (by decide +kernel) ?_
  refine rf_R_if (b := am_cnd .ge x6 x2) (p := 61) (q := 22) (fun hb => ?_) (fun hb => ?_)
  · replace h := h.1 (of_decide_eq_true hb)
    refine rf_R_wv rp_17 (rf_bk am_t17 33 1) 61 [(0, .ref rf_o), (1, .int x1), (2, .int x2), (3, .int x3), (5, .int x5), (6, .int x6)] [] s (by repeat (first | exact trivial | refine ⟨rfl, ?_⟩)) (by decide +kernel) ?_
    exact rf_R_retF (pc := 63) rp_17 rfl rfl h.1 ⟨_, rfl, h.2⟩
  · replace h := h.2 (of_decide_eq_false hb)
    refine rf_R_wv rp_17 (rf_bk am_t17 12 2) 22 [(0, .ref rf_o), (1, .int x1), (2, .int x2), (3, .int x3), (5, .int x5), (6, .int x6)] [] s (by repeat (first | exact trivial | refine ⟨rfl, ?_⟩)) (by decide +kernel) ?_
    refine rf_R_if (b := am_cnd .eq x5 0) (p := 61) (q := 27) (fun hb => ?_) (fun hb => ?_)
    · replace h := h.1 (of_decide_eq_true hb)
      refine rf_R_wv rp_17 (rf_bk am_t17 33 1) 61 [(0, .ref rf_o), (1, .int x1), (2, .int x2), (3, .int x3), (5, .int x5), (6, .int x6)] [] s (by repeat (first | exact trivial | refine ⟨rfl, ?_⟩)) (by decide +kernel) ?_
      exact rf_R_retF (pc := 63) rp_17 rfl rfl h.1 ⟨_, rfl, h.2⟩
    · replace h := h.2 (of_decide_eq_false hb)
      refine rf_R_wv rp_17 (rf_bk am_t17 14 13) 27 [(0, .ref rf_o), (1, .int x1), (2, .int x2), (3, .int x3), (5, .int x5), (6, .int x6)] [] s (by repeat (first | exact trivial | refine ⟨rfl, ?_⟩)) (by decide +kernel) ?_
      refine And.intro h.1 ?_
      replace h := h.2
      refine And.intro h.1 ?_
      replace h := h.2
      refine rf_R_if (b := am_cnd .ne (s.2.2.1 2 (x1 + x6).toNatClampNeg) (s.2.2.1 2 (x3 + x6).toNatClampNeg)) (p := 52) (q := 48) (fun hb => ?_) (fun hb => ?_)
      · replace h := h.1 (of_decide_eq_true hb)
        refine rf_R_wv rp_17 (rf_bk am_t17 29 1) 52 [(0, .ref rf_o), (1, .int x1), (2, .int x2), (3, .int x3), (5, .int x5), (6, .int x6)] [] s (by repeat (first | exact trivial | refine ⟨rfl, ?_⟩)) (by decide +kernel) ?_
        exact rf_R_le (l := [(0, .ref rf_o), (1, .int x1), (2, .int x2), (3, .int x3), (6, .int x6)]) rfl rfl (⟨rfl, rfl, rfl, rfl, rfl, trivial⟩) (wr_isSame_53_ok h)
      · replace h := h.2 (Decidable.not_not.mp (of_decide_eq_false hb))
        refine rf_R_wv rp_17 (rf_bk am_t17 27 2) 48 [(0, .ref rf_o), (1, .int x1), (2, .int x2), (3, .int x3), (5, .int x5), (6, .int x6)] [] s (by repeat (first | exact trivial | refine ⟨rfl, ?_⟩)) (by decide +kernel) ?_
        exact rf_R_le (l := [(0, .ref rf_o), (1, .int x1), (2, .int x2), (3, .int x3), (6, .int x6)]) rfl rfl (⟨rfl, rfl, rfl, rfl, rfl, trivial⟩) (wr_isSame_53_ok h)
/-- isSame (IIII)Z, from 11 on -/
def wr_isSame_11 (d : Nat) (x1 : Int32) (x2 : Int32) (x3 : Int32) (y0 : Int32) (s : rf_S) (Q : Int32 → rf_S → Prop) : Prop := rf_R d 17 (16, [(0, .ref rf_o), (1, .int x1), (2, .int x2), (3, .int x3), (5, .int y0), (6, .int (Int32.ofInt 0))], [], s) (rf_qI Q)
set_option maxRecDepth 20000 in
theorem wr_isSame_11_ok {d : Nat} {x1 : Int32} {x2 : Int32} {x3 : Int32} {y0 : Int32} {s : rf_S} {Q : Int32 → rf_S → Prop} (h : wr_isSame_11 d x1 x2 x3 y0 s Q) : rf_R d 17 (11, [(0, .ref rf_o), (1, .int x1), (2, .int x2), (3, .int x3)], [.int y0], s) (rf_qI Q) := by
  unfold wr_isSame_11 at h
  refine rf_R_wv rp_17 (rf_bk am_t17 6 3) 11 [(0, .ref rf_o), (1, .int x1), (2, .int x2), (3, .int x3)] [.int y0] s (by repeat (first | exact trivial | refine ⟨rfl, ?_⟩)) (by decide +kernel) ?_
  exact rf_R_le (l := [(0, .ref rf_o), (1, .int x1), (2, .int x2), (3, .int x3), (5, .int y0), (6, .int (Int32.ofInt 0))]) rfl rfl (⟨rfl, rfl, rfl, rfl, rfl, rfl, trivial⟩) h
/-- isSame (IIII)Z, from 0 on -/
def wr_isSame (d : Nat) (x1 : Int32) (x2 : Int32) (x3 : Int32) (x4 : Int32) (s : rf_S) (Q : Int32 → rf_S → Prop) : Prop := ((¬ x2 = x4 → wr_isSame_11 d x1 x2 x3 (Int32.ofInt 0) s Q) ∧ (x2 = x4 → wr_isSame_11 d x1 x2 x3 (Int32.ofInt 1) s Q))
set_option maxRecDepth 20000 in
theorem wr_isSame_ok {d : Nat} {x1 : Int32} {x2 : Int32} {x3 : Int32} {x4 : Int32} {s : rf_S} {Q : Int32 → rf_S → Prop} (h : wr_isSame d x1 x2 x3 x4 s Q) : rf_I d 17 [(0, .ref rf_o), (1, .int x1), (2, .int x2), (3, .int x3), (4, .int x4)] s Q := by
  unfold wr_isSame at h
  unfold rf_I
  refine rf_R_wv rp_17 (rf_bk am_t17 0 3) 0 [(0, .ref rf_o), (1, .int x1), (2, .int x2), (3, .int x3), (4, .int x4)] [] s (by repeat (first | exact trivial | refine ⟨rfl, ?_⟩)) (by decide +kernel) ?_
  refine rf_R_if (b := am_cnd .ne x2 x4) (p := 10) (q := 6) (fun hb => ?_) (fun hb => ?_)
  · replace h := h.1 (of_decide_eq_true hb)
    refine rf_R_wv rp_17 (rf_bk am_t17 5 1) 10 [(0, .ref rf_o), (1, .int x1), (2, .int x2), (3, .int x3), (4, .int x4)] [] s (by repeat (first | exact trivial | refine ⟨rfl, ?_⟩)) (by decide +kernel) ?_
    exact rf_R_le (l := [(0, .ref rf_o), (1, .int x1), (2, .int x2), (3, .int x3)]) rfl rfl (⟨rfl, rfl, rfl, rfl, trivial⟩) (wr_isSame_11_ok h)
  · replace h := h.2 (Decidable.not_not.mp (of_decide_eq_false hb))
    refine rf_R_wv rp_17 (rf_bk am_t17 3 2) 6 [(0, .ref rf_o), (1, .int x1), (2, .int x2), (3, .int x3), (4, .int x4)] [] s (by repeat (first | exact trivial | refine ⟨rfl, ?_⟩)) (by decide +kernel) ?_
    exact rf_R_le (l := [(0, .ref rf_o), (1, .int x1), (2, .int x2), (3, .int x3)]) rfl rfl (⟨rfl, rfl, rfl, rfl, trivial⟩) (wr_isSame_11_ok h)
/-- scope (I)I, from 0 on -/
def wr_scope (d : Nat) (x1 : Int32) (s : rf_S) (Q : Int32 → rf_S → Prop) : Prop := (rf_in (s.1 23) 1100 ∧ (rf_in (s.1 23) 1100 ∧ Q (((s.1 23) + (Int32.ofInt 1)) - (Int32.ofInt 1)) (rf_si (rf_sb (rf_sb s 24 (s.1 23).toNatClampNeg x1) 25 (s.1 23).toNatClampNeg (Int32.ofInt (-1))) 23 ((s.1 23) + (Int32.ofInt 1)))))
set_option maxRecDepth 20000 in
theorem wr_scope_ok {d : Nat} {x1 : Int32} {s : rf_S} {Q : Int32 → rf_S → Prop} (h : wr_scope d x1 s Q) : rf_I d 18 [(0, .ref rf_o), (1, .int x1)] s Q := by
  unfold wr_scope at h
  unfold rf_I
  refine rf_R_wv rp_18 (rf_bk am_t18 0 6) 0 [(0, .ref rf_o), (1, .int x1)] [] s (by repeat (first | exact trivial | refine ⟨rfl, ?_⟩)) (by decide +kernel) ?_
  refine And.intro h.1 ?_
  replace h := h.2
  refine rf_R_wv rp_18 (rf_bk am_t18 6 6) 10 [(0, .ref rf_o), (1, .int x1)] [] (rf_sb s 24 (s.1 23).toNatClampNeg x1) (by repeat (first | exact trivial | refine ⟨rfl, ?_⟩)) (by decide +kernel) ?_
  refine And.intro h.1 ?_
  replace h := h.2
  refine rf_R_wv rp_18 (rf_bk am_t18 12 6) 20 [(0, .ref rf_o), (1, .int x1)] [] (rf_sb (rf_sb s 24 (s.1 23).toNatClampNeg x1) 25 (s.1 23).toNatClampNeg (Int32.ofInt (-1))) (by repeat (first | exact trivial | refine ⟨rfl, ?_⟩)) (by decide +kernel) ?_
  refine And.intro rfl ?_
  refine rf_R_wv rp_18 (rf_bk am_t18 18 4) 30 [(0, .ref rf_o), (1, .int x1)] [] (rf_si (rf_sb (rf_sb s 24 (s.1 23).toNatClampNeg x1) 25 (s.1 23).toNatClampNeg (Int32.ofInt (-1))) 23 ((s.1 23) + (Int32.ofInt 1))) (by repeat (first | exact trivial | refine ⟨rfl, ?_⟩)) (by decide +kernel) ?_
  exact rf_R_ret (pc := 36) (v := some (.int (((s.1 23) + (Int32.ofInt 1)) - (Int32.ofInt 1)))) rp_18 rfl rfl rfl ⟨_, rfl, h⟩
/-- variableIn (III)I, from 8 on -/
def wr_variableIn_8 (d : Nat) (x2 : Int32) (x3 : Int32) (x4 : Int32) (s : rf_S) (Q : Int32 → rf_S → Prop) : Prop := ((x4 < 0 → Q x4 s) ∧ (¬ (x4 < 0) → (rf_in x4 1100 ∧ rf_in x4 1100 ∧ rf_I d 17 [(0, .ref rf_o), (1, .int (s.2.2.1 27 x4.toNatClampNeg)), (2, .int (s.2.2.1 28 x4.toNatClampNeg)), (3, .int x2), (4, .int x3)] s (fun r1 s1 => ((¬ r1 = 0 → Q x4 s1) ∧ (r1 = 0 → (rf_in x4 1100 ∧ rf_R (d + 1) 19 (8, [(0, .ref rf_o), (2, .int x2), (3, .int x3), (4, .int (s1.2.2.1 29 x4.toNatClampNeg))], [], s1) (rf_qI Q))))))))
set_option maxRecDepth 20000 in
theorem wr_variableIn_8_ok {d : Nat} {x2 : Int32} {x3 : Int32} {x4 : Int32} {s : rf_S} {Q : Int32 → rf_S → Prop} (h : wr_variableIn_8 d x2 x3 x4 s Q) : rf_R (d + 1) 19 (8, [(0, .ref rf_o), (2, .int x2), (3, .int x3), (4, .int x4)], [], s) (rf_qI Q) := by
  unfold wr_variableIn_8 at h
  refine rf_R_wv rp_19 (rf_bk am_t19 5 2) 8 [(0, .ref rf_o), (2, .int x2), (3, .int x3), (4, .int x4)] [] s (by repeat (first | exact trivial | refine ⟨rfl, ?_⟩)) (by decide +kernel) ?_
  refine rf_R_if (b := am_cnd .lt x4 0) (p := 48) (q := 13) (fun hb => ?_) (fun hb => ?_)
  · replace h := h.1 (of_decide_eq_true hb)
    refine rf_R_wv rp_19 (rf_bk am_t19 26 1) 48 [(0, .ref rf_o), (2, .int x2), (3, .int x3), (4, .int x4)] [] s (by repeat (first | exact trivial | refine ⟨rfl, ?_⟩)) (by decide +kernel) ?_
    exact rf_R_ret (pc := 50) (v := some (.int x4)) rp_19 rfl rfl rfl ⟨_, rfl, h⟩
  · replace h := h.2 (of_decide_eq_false hb)
    refine rf_R_wv rp_19 (rf_bk am_t19 7 11) 13 [(0, .ref rf_o), (2, .int x2), (3, .int x3), (4, .int x4)] [] s (by repeat (first | exact trivial | refine ⟨rfl, ?_⟩)) (by decide +kernel) ?_
    refine And.intro h.1 ?_
    replace h := h.2
    refine And.intro h.1 ?_
    replace h := h.2
    refine rf_R_call (pc := 30) (q := ([.ref rf_o, .int (s.2.2.1 27 x4.toNatClampNeg), .int (s.2.2.1 28 x4.toNatClampNeg), .int x2, .int x3], [])) rp_19 rfl rfl (by decide) rp_17 rfl (Nat.le_of_ble_eq_true rfl) ⟨rfl, Nat.le_of_ble_eq_true rfl⟩ h (fun v s1 h => ?_)
    obtain ⟨r1, rfl, h⟩ := h
    refine rf_R_wv rp_19 (rf_bk am_t19 19 1) 33 [(0, .ref rf_o), (2, .int x2), (3, .int x3), (4, .int x4)] [.int r1] s1 (by repeat (first | exact trivial | refine ⟨rfl, ?_⟩)) (by decide +kernel) ?_
    refine rf_R_if (b := am_cnd .ne r1 0) (p := 48) (q := 36) (fun hb => ?_) (fun hb => ?_)
    · replace h := h.1 (of_decide_eq_true hb)
      refine rf_R_wv rp_19 (rf_bk am_t19 26 1) 48 [(0, .ref rf_o), (2, .int x2), (3, .int x3), (4, .int x4)] [] s1 (by repeat (first | exact trivial | refine ⟨rfl, ?_⟩)) (by decide +kernel) ?_
      exact rf_R_ret (pc := 50) (v := some (.int x4)) rp_19 rfl rfl rfl ⟨_, rfl, h⟩
    · replace h := h.2 (Decidable.not_not.mp (of_decide_eq_false hb))
      refine rf_R_wv rp_19 (rf_bk am_t19 20 6) 36 [(0, .ref rf_o), (2, .int x2), (3, .int x3), (4, .int x4)] [] s1 (by repeat (first | exact trivial | refine ⟨rfl, ?_⟩)) (by decide +kernel) ?_
      refine And.intro h.1 ?_
      replace h := h.2
      exact rf_R_le (l := [(0, .ref rf_o), (2, .int x2), (3, .int x3), (4, .int (s1.2.2.1 29 x4.toNatClampNeg))]) rfl rfl (⟨rfl, rfl, rfl, rfl, trivial⟩) h
/-- variableIn (III)I, from 0 on -/
def wr_variableIn (d : Nat) (x1 : Int32) (x2 : Int32) (x3 : Int32) (s : rf_S) (Q : Int32 → rf_S → Prop) : Prop := (rf_in x1 1100 ∧ rf_R (d + 1) 19 (8, [(0, .ref rf_o), (2, .int x2), (3, .int x3), (4, .int (s.2.2.1 25 x1.toNatClampNeg))], [], s) (rf_qI Q))
set_option maxRecDepth 20000 in
theorem wr_variableIn_ok {d : Nat} {x1 : Int32} {x2 : Int32} {x3 : Int32} {s : rf_S} {Q : Int32 → rf_S → Prop} (h : wr_variableIn d x1 x2 x3 s Q) : rf_I (d + 1) 19 [(0, .ref rf_o), (1, .int x1), (2, .int x2), (3, .int x3)] s Q := by
  unfold wr_variableIn at h
  unfold rf_I
  refine rf_R_wv rp_19 (rf_bk am_t19 0 5) 0 [(0, .ref rf_o), (1, .int x1), (2, .int x2), (3, .int x3)] [] s (by repeat (first | exact trivial | refine ⟨rfl, ?_⟩)) (by decide +kernel) ?_
  refine And.intro h.1 ?_
  replace h := h.2
  exact rf_R_le (l := [(0, .ref rf_o), (2, .int x2), (3, .int x3), (4, .int (s.2.2.1 25 x1.toNatClampNeg))]) rfl rfl (⟨rfl, rfl, rfl, rfl, trivial⟩) h
