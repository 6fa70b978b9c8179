/-! PART 47: the reference, decompiled: tellsMaker, show, goesOn, gives, feed, end, heap, start, step, size, text, count -/
/-- tellsMaker (I)Z, from 43 on -/
def wr_tellsMaker_43 (d : Nat) (x1 : Int32) (x3 : Int32) (y0 : Int32) (s : rf_S) (Q : Int32 → rf_S → Prop) : Prop := rf_R (d + 1) 84 (4, [(0, .ref rf_o), (1, .int x1), (2, .int y0), (3, .int (x3 + Int32.ofInt 1))], [], s) (rf_qI Q)
set_option maxRecDepth 20000 in
theorem wr_tellsMaker_43_ok {d : Nat} {x1 : Int32} {x3 : Int32} {y0 : Int32} {s : rf_S} {Q : Int32 → rf_S → Prop} (h : wr_tellsMaker_43 d x1 x3 y0 s Q) : rf_R (d + 1) 84 (43, [(0, .ref rf_o), (1, .int x1), (3, .int x3)], [.int y0], s) (rf_qI Q) := by
  unfold wr_tellsMaker_43 at h
  refine rf_R_wv rp_84 (rf_bk am_t84 27 3) 43 [(0, .ref rf_o), (1, .int x1), (3, .int x3)] [.int y0] s (by repeat (first | exact trivial | refine ⟨rfl, ?_⟩)) (by decide +kernel) ?_
  exact rf_R_le (l := [(0, .ref rf_o), (1, .int x1), (2, .int y0), (3, .int (x3 + Int32.ofInt 1))]) rfl rfl (⟨rfl, rfl, rfl, rfl, trivial⟩) h
/-- tellsMaker (I)Z, from 42 on -/
def wr_tellsMaker_42 (d : Nat) (x1 : Int32) (x3 : Int32) (s : rf_S) (Q : Int32 → rf_S → Prop) : Prop := wr_tellsMaker_43 d x1 x3 (Int32.ofInt 0) s Q
set_option maxRecDepth 20000 in
theorem wr_tellsMaker_42_ok {d : Nat} {x1 : Int32} {x3 : Int32} {s : rf_S} {Q : Int32 → rf_S → Prop} (h : wr_tellsMaker_42 d x1 x3 s Q) : rf_R (d + 1) 84 (42, [(0, .ref rf_o), (1, .int x1), (3, .int x3)], [], s) (rf_qI Q) := by
  unfold wr_tellsMaker_42 at h
  refine rf_R_wv rp_84 (rf_bk am_t84 26 1) 42 [(0, .ref rf_o), (1, .int x1), (3, .int x3)] [] s (by repeat (first | exact trivial | refine ⟨rfl, ?_⟩)) (by decide +kernel) ?_
  exact rf_R_le (l := [(0, .ref rf_o), (1, .int x1), (3, .int x3)]) rfl rfl (⟨rfl, rfl, rfl, trivial⟩) (wr_tellsMaker_43_ok h)
/-- tellsMaker (I)Z, from 4 on -/
def wr_tellsMaker_4 (d : Nat) (x1 : Int32) (x2 : Int32) (x3 : Int32) (s : rf_S) (Q : Int32 → rf_S → Prop) : Prop := (rf_in x1 1100 ∧ (((s.2.2.1 37 x1.toNatClampNeg) ≤ x3 → (am_fit .boolean (.int x2) = true ∧ Q x2 s)) ∧ (¬ ((s.2.2.1 37 x1.toNatClampNeg) ≤ x3) → ((x2 = 0 → wr_tellsMaker_42 d x1 x3 s Q) ∧ (¬ (x2 = 0) → (rf_in x1 1100 ∧ rf_in ((s.2.2.1 36 x1.toNatClampNeg) + x3) 2100 ∧ rf_I d 82 [(0, .ref rf_o), (1, .int (s.2.2.1 38 ((s.2.2.1 36 x1.toNatClampNeg) + x3).toNatClampNeg))] s (fun r1 s1 => ((r1 = 0 → wr_tellsMaker_42 d x1 x3 s1 Q) ∧ (¬ (r1 = 0) → wr_tellsMaker_43 d x1 x3 (Int32.ofInt 1) s1 Q)))))))))
set_option maxRecDepth 20000 in
theorem wr_tellsMaker_4_ok {d : Nat} {x1 : Int32} {x2 : Int32} {x3 : Int32} {s : rf_S} {Q : Int32 → rf_S → Prop} (h : wr_tellsMaker_4 d x1 x2 x3 s Q) : rf_R (d + 1) 84 (4, [(0, .ref rf_o), (1, .int x1), (2, .int x2), (3, .int x3)], [], s) (rf_qI Q) := by
  unfold wr_tellsMaker_4 at h
  refine rf_R_wv rp_84 (rf_bk am_t84 4 6) 4 [(0, .ref rf_o), (1, .int x1), (2, .int x2), (3, .int x3)] [] s (by repeat (first | exact trivial | refine ⟨rfl, ?_⟩)) (by decide +kernel) ?_
  refine And.intro h.1 ?_
  replace h := h.2
  refine rf_R_if (b := am_cnd .ge x3 (s.2.2.1 37 x1.toNatClampNeg)) (p := 50) (q := 14) (fun hb => ?_) (fun hb => ?_)
  · replace h := h.1 (of_decide_eq_true hb)
    refine rf_R_wv rp_84 (rf_bk am_t84 30 1) 50 [(0, .ref rf_o), (1, .int x1), (2, .int x2), (3, .int x3)] [] s (by repeat (first | exact trivial | refine ⟨rfl, ?_⟩)) (by decide +kernel) ?_
    exact rf_R_retF (pc := 51) rp_84 rfl rfl h.1 ⟨_, rfl, h.2⟩
  · replace h := h.2 (of_decide_eq_false hb)
    refine rf_R_wv rp_84 (rf_bk am_t84 10 2) 14 [(0, .ref rf_o), (1, .int x1), (2, .int x2), (3, .int x3)] [] s (by repeat (first | exact trivial | refine ⟨rfl, ?_⟩)) (by decide +kernel) ?_
    refine rf_R_if (b := am_cnd .eq x2 0) (p := 42) (q := 18) (fun hb => ?_) (fun hb => ?_)
    · replace h := h.1 (of_decide_eq_true hb)
      exact rf_R_le (l := [(0, .ref rf_o), (1, .int x1), (3, .int x3)]) rfl rfl (⟨rfl, rfl, rfl, trivial⟩) (wr_tellsMaker_42_ok h)
    · replace h := h.2 (of_decide_eq_false hb)
      refine rf_R_wv rp_84 (rf_bk am_t84 12 10) 18 [(0, .ref rf_o), (1, .int x1), (2, .int x2), (3, .int x3)] [] s (by repeat (first | exact trivial | refine ⟨rfl, ?_⟩)) (by decide +kernel) ?_
      refine And.intro h.1 ?_
      replace h := h.2
      refine And.intro h.1 ?_
      replace h := h.2
      refine rf_R_call (pc := 32) (q := ([.ref rf_o, .int (s.2.2.1 38 ((s.2.2.1 36 x1.toNatClampNeg) + x3).toNatClampNeg)], [])) rp_84 rfl rfl (by decide) rp_82 rfl (Nat.le_of_ble_eq_true rfl) ⟨rfl, Nat.le_of_ble_eq_true rfl⟩ h (fun v s1 h => ?_)
      obtain ⟨r1, rfl, h⟩ := h
      refine rf_R_wv rp_84 (rf_bk am_t84 23 1) 35 [(0, .ref rf_o), (1, .int x1), (2, .int x2), (3, .int x3)] [.int r1] s1 (by repeat (first | exact trivial | refine ⟨rfl, ?_⟩)) (by decide +kernel) ?_
      refine rf_R_if (b := am_cnd .eq r1 0) (p := 42) (q := 38) (fun hb => ?_) (fun hb => ?_)
      · replace h := h.1 (of_decide_eq_true hb)
        exact rf_R_le (l := [(0, .ref rf_o), (1, .int x1), (3, .int x3)]) rfl rfl (⟨rfl, rfl, rfl, trivial⟩) (wr_tellsMaker_42_ok h)
      · replace h := h.2 (of_decide_eq_false hb)
        refine rf_R_wv rp_84 (rf_bk am_t84 24 2) 38 [(0, .ref rf_o), (1, .int x1), (2, .int x2), (3, .int x3)] [] s1 (by repeat (first | exact trivial | refine ⟨rfl, ?_⟩)) (by decide +kernel) ?_
        exact rf_R_le (l := [(0, .ref rf_o), (1, .int x1), (3, .int x3)]) rfl rfl (⟨rfl, rfl, rfl, trivial⟩) (wr_tellsMaker_43_ok h)
/-- tellsMaker (I)Z, from 0 on -/
def wr_tellsMaker (d : Nat) (x1 : Int32) (s : rf_S) (Q : Int32 → rf_S → Prop) : Prop := rf_R (d + 1) 84 (4, [(0, .ref rf_o), (1, .int x1), (2, .int (Int32.ofInt 1)), (3, .int (Int32.ofInt 0))], [], s) (rf_qI Q)
set_option maxRecDepth 20000 in
theorem wr_tellsMaker_ok {d : Nat} {x1 : Int32} {s : rf_S} {Q : Int32 → rf_S → Prop} (h : wr_tellsMaker d x1 s Q) : rf_I (d + 1) 84 [(0, .ref rf_o), (1, .int x1)] s Q := by
  unfold wr_tellsMaker at h
  unfold rf_I
  refine rf_R_wv rp_84 (rf_bk am_t84 0 4) 0 [(0, .ref rf_o), (1, .int x1)] [] s (by repeat (first | exact trivial | refine ⟨rfl, ?_⟩)) (by decide +kernel) ?_
  exact rf_R_le (l := [(0, .ref rf_o), (1, .int x1), (2, .int (Int32.ofInt 1)), (3, .int (Int32.ofInt 0))]) rfl rfl (⟨rfl, rfl, rfl, rfl, trivial⟩) h
/-- show ()V, from 155 on -/
def wr_show_155 (d : Nat) (y0 : Int32) (s : rf_S) (Q : rf_S → Prop) : Prop := ((¬ y0 = 0 → (((s.1 72) ≤ ((Int16.ofInt 3000).toInt32) → Q s) ∧ (¬ ((s.1 72) ≤ ((Int16.ofInt 3000).toInt32)) → rf_V d 58 [(0, .ref rf_o), (1, .int ((Int8.ofInt 7).toInt32))] s (fun s1 => Q s1)))) ∧ (y0 = 0 → rf_V d 58 [(0, .ref rf_o), (1, .int ((Int8.ofInt 8).toInt32))] s (fun s2 => Q s2)))
set_option maxRecDepth 20000 in
theorem wr_show_155_ok {d : Nat} {y0 : Int32} {s : rf_S} {Q : rf_S → Prop} (h : wr_show_155 d y0 s Q) : rf_R (d + 1) 85 (155, [(0, .ref rf_o)], [.int y0], s) (rf_qV Q) := by
  unfold wr_show_155 at h
  refine rf_R_wv rp_85 (rf_bk am_t85 82 3) 155 [(0, .ref rf_o)] [.int y0] s (by repeat (first | exact trivial | refine ⟨rfl, ?_⟩)) (by decide +kernel) ?_
  refine rf_R_if (b := am_cnd .ne y0 0) (p := 171) (q := 162) (fun hb => ?_) (fun hb => ?_)
  · replace h := h.1 (of_decide_eq_true hb)
    refine rf_R_wv rp_85 (rf_bk am_t85 89 4) 171 [(5, .int y0), (0, .ref rf_o)] [] s (by repeat (first | exact trivial | refine ⟨rfl, ?_⟩)) (by decide +kernel) ?_
    refine rf_R_if (b := am_cnd .le (s.1 72) ((Int16.ofInt 3000).toInt32)) (p := 187) (q := 181) (fun hb => ?_) (fun hb => ?_)
    · replace h := h.1 (of_decide_eq_true hb)
      exact rf_R_ret (pc := 187) rp_85 rfl rfl rfl ⟨rfl, h⟩
    · replace h := h.2 (of_decide_eq_false hb)
      refine rf_R_wv rp_85 (rf_bk am_t85 93 2) 181 [(5, .int y0), (0, .ref rf_o)] [] s (by repeat (first | exact trivial | refine ⟨rfl, ?_⟩)) (by decide +kernel) ?_
      refine rf_R_call (pc := 184) (q := ([.ref rf_o, .int ((Int8.ofInt 7).toInt32)], [])) rp_85 rfl rfl (by decide) rp_58 rfl (Nat.le_of_ble_eq_true rfl) ⟨rfl, Nat.le_of_ble_eq_true rfl⟩ h (fun v s1 h => ?_)
      obtain ⟨rfl, h⟩ := h
      exact rf_R_ret (pc := 187) rp_85 rfl rfl rfl ⟨rfl, h⟩
  · replace h := h.2 (Decidable.not_not.mp (of_decide_eq_false hb))
    refine rf_R_wv rp_85 (rf_bk am_t85 85 2) 162 [(5, .int y0), (0, .ref rf_o)] [] s (by repeat (first | exact trivial | refine ⟨rfl, ?_⟩)) (by decide +kernel) ?_
    refine rf_R_call (pc := 165) (q := ([.ref rf_o, .int ((Int8.ofInt 8).toInt32)], [])) rp_85 rfl rfl (by decide) rp_58 rfl (Nat.le_of_ble_eq_true rfl) ⟨rfl, Nat.le_of_ble_eq_true rfl⟩ h (fun v s2 h => ?_)
    obtain ⟨rfl, h⟩ := h
    refine rf_R_wv rp_85 (rf_bk am_t85 88 1) 168 [(5, .int y0), (0, .ref rf_o)] [] s2 (by repeat (first | exact trivial | refine ⟨rfl, ?_⟩)) (by decide +kernel) ?_
    exact rf_R_ret (pc := 187) rp_85 rfl rfl rfl ⟨rfl, h⟩
/-- show ()V, from 154 on -/
def wr_show_154 (d : Nat) (s : rf_S) (Q : rf_S → Prop) : Prop := wr_show_155 d (Int32.ofInt 0) s Q
set_option maxRecDepth 20000 in
theorem wr_show_154_ok {d : Nat} {s : rf_S} {Q : rf_S → Prop} (h : wr_show_154 d s Q) : rf_R (d + 1) 85 (154, [(0, .ref rf_o)], [], s) (rf_qV Q) := by
  unfold wr_show_154 at h
  refine rf_R_wv rp_85 (rf_bk am_t85 81 1) 154 [(0, .ref rf_o)] [] s (by repeat (first | exact trivial | refine ⟨rfl, ?_⟩)) (by decide +kernel) ?_
  exact rf_R_le (l := [(0, .ref rf_o)]) rfl rfl (⟨rfl, trivial⟩) (wr_show_155_ok h)
/-- show ()V, from 138 on -/
def wr_show_138 (d : Nat) (x5 : Int32) (s : rf_S) (Q : rf_S → Prop) : Prop := ((x5 = 0 → wr_show_154 d s Q) ∧ (¬ (x5 = 0) → rf_I d 86 [(0, .ref rf_o)] s (fun r1 s1 => ((r1 = 0 → wr_show_154 d s1 Q) ∧ (¬ (r1 = 0) → wr_show_155 d (Int32.ofInt 1) s1 Q)))))
set_option maxRecDepth 20000 in
theorem wr_show_138_ok {d : Nat} {x5 : Int32} {s : rf_S} {Q : rf_S → Prop} (h : wr_show_138 d x5 s Q) : rf_R (d + 1) 85 (138, [(0, .ref rf_o), (5, .int x5)], [], s) (rf_qV Q) := by
  unfold wr_show_138 at h
  refine rf_R_wv rp_85 (rf_bk am_t85 74 2) 138 [(0, .ref rf_o), (5, .int x5)] [] s (by repeat (first | exact trivial | refine ⟨rfl, ?_⟩)) (by decide +kernel) ?_
  refine rf_R_if (b := am_cnd .eq x5 0) (p := 154) (q := 143) (fun hb => ?_) (fun hb => ?_)
  · replace h := h.1 (of_decide_eq_true hb)
    exact rf_R_le (l := [(0, .ref rf_o)]) rfl rfl (⟨rfl, trivial⟩) (wr_show_154_ok h)
  · replace h := h.2 (of_decide_eq_false hb)
    refine rf_R_wv rp_85 (rf_bk am_t85 76 1) 143 [(0, .ref rf_o), (5, .int x5)] [] s (by repeat (first | exact trivial | refine ⟨rfl, ?_⟩)) (by decide +kernel) ?_
    refine rf_R_call (pc := 144) (q := ([.ref rf_o], [])) rp_85 rfl rfl (by decide) rp_86 rfl (Nat.le_of_ble_eq_true rfl) ⟨rfl, Nat.le_of_ble_eq_true rfl⟩ h (fun v s1 h => ?_)
    obtain ⟨r1, rfl, h⟩ := h
    refine rf_R_wv rp_85 (rf_bk am_t85 78 1) 147 [(0, .ref rf_o), (5, .int x5)] [.int r1] s1 (by repeat (first | exact trivial | refine ⟨rfl, ?_⟩)) (by decide +kernel) ?_
    refine rf_R_if (b := am_cnd .eq r1 0) (p := 154) (q := 150) (fun hb => ?_) (fun hb => ?_)
    · replace h := h.1 (of_decide_eq_true hb)
      exact rf_R_le (l := [(0, .ref rf_o)]) rfl rfl (⟨rfl, trivial⟩) (wr_show_154_ok h)
    · replace h := h.2 (of_decide_eq_false hb)
      refine rf_R_wv rp_85 (rf_bk am_t85 79 2) 150 [(0, .ref rf_o), (5, .int x5)] [] s1 (by repeat (first | exact trivial | refine ⟨rfl, ?_⟩)) (by decide +kernel) ?_
      exact rf_R_le (l := [(0, .ref rf_o)]) rfl rfl (⟨rfl, trivial⟩) (wr_show_155_ok h)
/-- show ()V, from 111 on -/
def wr_show_111 (d : Nat) (x1 : Int32) (x2 : Int64) (x4 : Int32) (x5 : Int32) (s : rf_S) (Q : rf_S → Prop) : Prop := rf_V d 57 [(0, .ref rf_o)] s (fun s1 => ((x4 = 0 → wr_show_138 d x5 s1 Q) ∧ (¬ (x4 = 0) → rf_V d 53 [(0, .ref rf_o), (1, .int ((Int8.ofInt 6).toInt32)), (2, .int (Int32.ofInt 0)), (3, .int (Int32.ofInt 0)), (4, .int x1)] s1 (fun s2 => rf_V d 54 [(0, .ref rf_o), (1, .long x2)] s2 (fun s3 => rf_V d 55 [(0, .ref rf_o)] s3 (fun s4 => wr_show_138 d x5 s4 Q))))))
set_option maxRecDepth 20000 in
theorem wr_show_111_ok {d : Nat} {x1 : Int32} {x2 : Int64} {x4 : Int32} {x5 : Int32} {s : rf_S} {Q : rf_S → Prop} (h : wr_show_111 d x1 x2 x4 x5 s Q) : rf_R (d + 1) 85 (111, [(0, .ref rf_o), (1, .int x1), (2, .long x2), (4, .int x4), (5, .int x5)], [], s) (rf_qV Q) := by
  unfold wr_show_111 at h
  refine rf_R_wv rp_85 (rf_bk am_t85 59 1) 111 [(0, .ref rf_o), (1, .int x1), (2, .long x2), (4, .int x4), (5, .int x5)] [] s (by repeat (first | exact trivial | refine ⟨rfl, ?_⟩)) (by decide +kernel) ?_
  refine rf_R_call (pc := 112) (q := ([.ref rf_o], [])) rp_85 rfl rfl (by decide) rp_57 rfl (Nat.le_of_ble_eq_true rfl) ⟨rfl, Nat.le_of_ble_eq_true rfl⟩ h (fun v s1 h => ?_)
  obtain ⟨rfl, h⟩ := h
  refine rf_R_wv rp_85 (rf_bk am_t85 61 2) 115 [(0, .ref rf_o), (1, .int x1), (2, .long x2), (4, .int x4), (5, .int x5)] [] s1 (by repeat (first | exact trivial | refine ⟨rfl, ?_⟩)) (by decide +kernel) ?_
  refine rf_R_if (b := am_cnd .eq x4 0) (p := 138) (q := 120) (fun hb => ?_) (fun hb => ?_)
  · replace h := h.1 (of_decide_eq_true hb)
    exact rf_R_le (l := [(0, .ref rf_o), (5, .int x5)]) rfl rfl (⟨rfl, rfl, trivial⟩) (wr_show_138_ok h)
  · replace h := h.2 (of_decide_eq_false hb)
    refine rf_R_wv rp_85 (rf_bk am_t85 63 5) 120 [(0, .ref rf_o), (1, .int x1), (2, .long x2), (4, .int x4), (5, .int x5)] [] s1 (by repeat (first | exact trivial | refine ⟨rfl, ?_⟩)) (by decide +kernel) ?_
    refine rf_R_call (pc := 126) (q := ([.ref rf_o, .int ((Int8.ofInt 6).toInt32), .int (Int32.ofInt 0), .int (Int32.ofInt 0), .int x1], [])) rp_85 rfl rfl (by decide) rp_53 rfl (Nat.le_of_ble_eq_true rfl) ⟨rfl, Nat.le_of_ble_eq_true rfl⟩ h (fun v s2 h => ?_)
    obtain ⟨rfl, h⟩ := h
    refine rf_R_wv rp_85 (rf_bk am_t85 69 2) 129 [(0, .ref rf_o), (1, .int x1), (2, .long x2), (4, .int x4), (5, .int x5)] [] s2 (by repeat (first | exact trivial | refine ⟨rfl, ?_⟩)) (by decide +kernel) ?_
    refine rf_R_call (pc := 131) (q := ([.ref rf_o, .long x2], [])) rp_85 rfl rfl (by decide) rp_54 rfl (Nat.le_of_ble_eq_true rfl) ⟨rfl, Nat.le_of_ble_eq_true rfl⟩ h (fun v s3 h => ?_)
    obtain ⟨rfl, h⟩ := h
    refine rf_R_wv rp_85 (rf_bk am_t85 72 1) 134 [(0, .ref rf_o), (1, .int x1), (2, .long x2), (4, .int x4), (5, .int x5)] [] s3 (by repeat (first | exact trivial | refine ⟨rfl, ?_⟩)) (by decide +kernel) ?_
    refine rf_R_call (pc := 135) (q := ([.ref rf_o], [])) rp_85 rfl rfl (by decide) rp_55 rfl (Nat.le_of_ble_eq_true rfl) ⟨rfl, Nat.le_of_ble_eq_true rfl⟩ h (fun v s4 h => ?_)
    obtain ⟨rfl, h⟩ := h
    exact rf_R_le (l := [(0, .ref rf_o), (5, .int x5)]) rfl rfl (⟨rfl, rfl, trivial⟩) (wr_show_138_ok h)
/-- show ()V, from 98 on -/
def wr_show_98 (d : Nat) (x1 : Int32) (x2 : Int64) (x4 : Int32) (y0 : Int32) (s : rf_S) (Q : rf_S → Prop) : Prop := wr_show_111 d x1 x2 x4 y0 s Q
set_option maxRecDepth 20000 in
theorem wr_show_98_ok {d : Nat} {x1 : Int32} {x2 : Int64} {x4 : Int32} {y0 : Int32} {s : rf_S} {Q : rf_S → Prop} (h : wr_show_98 d x1 x2 x4 y0 s Q) : rf_R (d + 1) 85 (98, [(0, .ref rf_o), (1, .int x1), (2, .long x2), (4, .int x4)], [.int y0], s) (rf_qV Q) := by
  unfold wr_show_98 at h
  refine rf_R_wv rp_85 (rf_bk am_t85 53 2) 98 [(0, .ref rf_o), (1, .int x1), (2, .long x2), (4, .int x4)] [.int y0] s (by repeat (first | exact trivial | refine ⟨rfl, ?_⟩)) (by decide +kernel) ?_
  exact rf_R_le (l := [(0, .ref rf_o), (1, .int x1), (2, .long x2), (4, .int x4), (5, .int y0)]) rfl rfl (⟨rfl, rfl, rfl, rfl, rfl, trivial⟩) (wr_show_111_ok h)
/-- show ()V, from 97 on -/
def wr_show_97 (d : Nat) (x1 : Int32) (x2 : Int64) (x4 : Int32) (s : rf_S) (Q : rf_S → Prop) : Prop := wr_show_98 d x1 x2 x4 (Int32.ofInt 0) s Q
set_option maxRecDepth 20000 in
theorem wr_show_97_ok {d : Nat} {x1 : Int32} {x2 : Int64} {x4 : Int32} {s : rf_S} {Q : rf_S → Prop} (h : wr_show_97 d x1 x2 x4 s Q) : rf_R (d + 1) 85 (97, [(0, .ref rf_o), (1, .int x1), (2, .long x2), (4, .int x4)], [], s) (rf_qV Q) := by
  unfold wr_show_97 at h
  refine rf_R_wv rp_85 (rf_bk am_t85 52 1) 97 [(0, .ref rf_o), (1, .int x1), (2, .long x2), (4, .int x4)] [] s (by repeat (first | exact trivial | refine ⟨rfl, ?_⟩)) (by decide +kernel) ?_
  exact rf_R_le (l := [(0, .ref rf_o), (1, .int x1), (2, .long x2), (4, .int x4)]) rfl rfl (⟨rfl, rfl, rfl, rfl, trivial⟩) (wr_show_98_ok h)
/-- show ()V, from 79 on -/
def wr_show_79 (d : Nat) (x1 : Int32) (x2 : Int64) (x4 : Int32) (s : rf_S) (Q : rf_S → Prop) : Prop := (rf_in (x2.toInt32) 36000 ∧ rf_I d 84 [(0, .ref rf_o), (1, .int (s.2.2.1 50 (x2.toInt32).toNatClampNeg))] s (fun r1 s1 => ((r1 = 0 → wr_show_97 d x1 x2 x4 s1 Q) ∧ (¬ (r1 = 0) → wr_show_98 d x1 x2 x4 (Int32.ofInt 1) s1 Q))))
set_option maxRecDepth 20000 in
theorem wr_show_79_ok {d : Nat} {x1 : Int32} {x2 : Int64} {x4 : Int32} {s : rf_S} {Q : rf_S → Prop} (h : wr_show_79 d x1 x2 x4 s Q) : rf_R (d + 1) 85 (79, [(0, .ref rf_o), (1, .int x1), (2, .long x2), (4, .int x4)], [], s) (rf_qV Q) := by
  unfold wr_show_79 at h
  refine rf_R_wv rp_85 (rf_bk am_t85 42 6) 79 [(0, .ref rf_o), (1, .int x1), (2, .long x2), (4, .int x4)] [] s (by repeat (first | exact trivial | refine ⟨rfl, ?_⟩)) (by decide +kernel) ?_
  refine And.intro h.1 ?_
  replace h := h.2
  refine rf_R_call (pc := 87) (q := ([.ref rf_o, .int (s.2.2.1 50 (x2.toInt32).toNatClampNeg)], [])) rp_85 rfl rfl (by decide) rp_84 rfl (Nat.le_of_ble_eq_true rfl) ⟨rfl, Nat.le_of_ble_eq_true rfl⟩ h (fun v s1 h => ?_)
  obtain ⟨r1, rfl, h⟩ := h
  refine rf_R_wv rp_85 (rf_bk am_t85 49 1) 90 [(0, .ref rf_o), (1, .int x1), (2, .long x2), (4, .int x4)] [.int r1] s1 (by repeat (first | exact trivial | refine ⟨rfl, ?_⟩)) (by decide +kernel) ?_
  refine rf_R_if (b := am_cnd .eq r1 0) (p := 97) (q := 93) (fun hb => ?_) (fun hb => ?_)
  · replace h := h.1 (of_decide_eq_true hb)
    exact rf_R_le (l := [(0, .ref rf_o), (1, .int x1), (2, .long x2), (4, .int x4)]) rfl rfl (⟨rfl, rfl, rfl, rfl, trivial⟩) (wr_show_97_ok h)
  · replace h := h.2 (of_decide_eq_false hb)
    refine rf_R_wv rp_85 (rf_bk am_t85 50 2) 93 [(0, .ref rf_o), (1, .int x1), (2, .long x2), (4, .int x4)] [] s1 (by repeat (first | exact trivial | refine ⟨rfl, ?_⟩)) (by decide +kernel) ?_
    exact rf_R_le (l := [(0, .ref rf_o), (1, .int x1), (2, .long x2), (4, .int x4)]) rfl rfl (⟨rfl, rfl, rfl, rfl, trivial⟩) (wr_show_98_ok h)
/-- show ()V, from 0 on -/
def wr_show (d : Nat) (s : rf_S) (Q : rf_S → Prop) : Prop := (rf_in ((s.1 65) - (Int32.ofInt 1)) 1600 ∧ rf_I d 77 [(0, .ref rf_o), (1, .long (s.2.1 77))] s (fun r1 s1 => rf_I d 45 [(0, .long (s.2.1 77))] s1 (fun r2 s2 => ((¬ r2 = 0 → rf_I d 45 [(0, .long (s.2.1 77))] s2 (fun r3 s3 => ((¬ r3 = (Int32.ofInt 1) → ((r1 = 0 → rf_I d 82 [(0, .ref rf_o), (1, .int ((Int8.ofInt 63).toInt32))] s3 (fun r4 s4 => wr_show_111 d (s.2.2.1 69 ((s.1 65) - (Int32.ofInt 1)).toNatClampNeg) (s.2.1 77) r1 r4 s4 Q)) ∧ (¬ (r1 = 0) → (((s.2.2.1 69 ((s.1 65) - (Int32.ofInt 1)).toNatClampNeg) = 0 → wr_show_79 d (s.2.2.1 69 ((s.1 65) - (Int32.ofInt 1)).toNatClampNeg) (s.2.1 77) r1 s3 Q) ∧ (¬ ((s.2.2.1 69 ((s.1 65) - (Int32.ofInt 1)).toNatClampNeg) = 0) → rf_I d 82 [(0, .ref rf_o), (1, .int ((Int8.ofInt 40).toInt32))] s3 (fun r5 s5 => ((r5 = 0 → wr_show_97 d (s.2.2.1 69 ((s.1 65) - (Int32.ofInt 1)).toNatClampNeg) (s.2.1 77) r1 s5 Q) ∧ (¬ (r5 = 0) → wr_show_79 d (s.2.2.1 69 ((s.1 65) - (Int32.ofInt 1)).toNatClampNeg) (s.2.1 77) r1 s5 Q)))))))) ∧ (r3 = (Int32.ofInt 1) → rf_I d 84 [(0, .ref rf_o), (1, .int ((s.2.1 77).toInt32))] s3 (fun r6 s6 => wr_show_111 d (s.2.2.1 69 ((s.1 65) - (Int32.ofInt 1)).toNatClampNeg) (s.2.1 77) r1 r6 s6 Q))))) ∧ (r2 = 0 → rf_I d 83 [(0, .ref rf_o), (1, .int ((s.2.1 77).toInt32))] s2 (fun r7 s7 => wr_show_111 d (s.2.2.1 69 ((s.1 65) - (Int32.ofInt 1)).toNatClampNeg) (s.2.1 77) r1 r7 s7 Q))))))
set_option maxRecDepth 20000 in
theorem wr_show_ok {d : Nat} {s : rf_S} {Q : rf_S → Prop} (h : wr_show d s Q) : rf_V (d + 1) 85 [(0, .ref rf_o)] s Q := by
  unfold wr_show at h
  unfold rf_V
  refine rf_R_wv rp_85 (rf_bk am_t85 0 13) 0 [(0, .ref rf_o)] [] s (by repeat (first | exact trivial | refine ⟨rfl, ?_⟩)) (by decide +kernel) ?_
  refine And.intro h.1 ?_
  replace h := h.2
  refine rf_R_call (pc := 19) (q := ([.ref rf_o, .long (s.2.1 77)], [])) rp_85 rfl rfl (by decide) rp_77 rfl (Nat.le_of_ble_eq_true rfl) ⟨rfl, Nat.le_of_ble_eq_true rfl⟩ h (fun v s1 h => ?_)
  obtain ⟨r1, rfl, h⟩ := h
  refine rf_R_wv rp_85 (rf_bk am_t85 14 2) 22 [(2, .long (s.2.1 77)), (1, .int (s.2.2.1 69 ((s.1 65) - (Int32.ofInt 1)).toNatClampNeg)), (0, .ref rf_o)] [.int r1] s1 (by repeat (first | exact trivial | refine ⟨rfl, ?_⟩)) (by decide +kernel) ?_
  refine rf_R_call (pc := 25) (q := ([.long (s.2.1 77)], [])) rp_85 rfl rfl (by decide) rp_45 rfl (Nat.le_of_ble_eq_true rfl) ⟨rfl, Nat.le_of_ble_eq_true rfl⟩ h (fun v s2 h => ?_)
  obtain ⟨r2, rfl, h⟩ := h
  refine rf_R_wv rp_85 (rf_bk am_t85 17 1) 28 [(4, .int r1), (2, .long (s.2.1 77)), (1, .int (s.2.2.1 69 ((s.1 65) - (Int32.ofInt 1)).toNatClampNeg)), (0, .ref rf_o)] [.int r2] s2 (by repeat (first | exact trivial | refine ⟨rfl, ?_⟩)) (by decide +kernel) ?_
  refine rf_R_if (b := am_cnd .ne r2 0) (p := 42) (q := 31) (fun hb => ?_) (fun hb => ?_)
  · replace h := h.1 (of_decide_eq_true hb)
    refine rf_R_wv rp_85 (rf_bk am_t85 24 1) 42 [(4, .int r1), (2, .long (s.2.1 77)), (1, .int (s.2.2.1 69 ((s.1 65) - (Int32.ofInt 1)).toNatClampNeg)), (0, .ref rf_o)] [] s2 (by repeat (first | exact trivial | refine ⟨rfl, ?_⟩)) (by decide +kernel) ?_
    refine rf_R_call (pc := 43) (q := ([.long (s.2.1 77)], [])) rp_85 rfl rfl (by decide) rp_45 rfl (Nat.le_of_ble_eq_true rfl) ⟨rfl, Nat.le_of_ble_eq_true rfl⟩ h (fun v s3 h => ?_)
    obtain ⟨r3, rfl, h⟩ := h
    refine rf_R_wv rp_85 (rf_bk am_t85 26 2) 46 [(4, .int r1), (2, .long (s.2.1 77)), (1, .int (s.2.2.1 69 ((s.1 65) - (Int32.ofInt 1)).toNatClampNeg)), (0, .ref rf_o)] [.int r3] s3 (by repeat (first | exact trivial | refine ⟨rfl, ?_⟩)) (by decide +kernel) ?_
    refine rf_R_if (b := am_cnd .ne r3 (Int32.ofInt 1)) (p := 61) (q := 50) (fun hb => ?_) (fun hb => ?_)
    · replace h := h.1 (of_decide_eq_true hb)
      refine rf_R_wv rp_85 (rf_bk am_t85 34 2) 61 [(4, .int r1), (2, .long (s.2.1 77)), (1, .int (s.2.2.1 69 ((s.1 65) - (Int32.ofInt 1)).toNatClampNeg)), (0, .ref rf_o)] [] s3 (by repeat (first | exact trivial | refine ⟨rfl, ?_⟩)) (by decide +kernel) ?_
      refine rf_R_if (b := am_cnd .eq r1 0) (p := 103) (q := 66) (fun hb => ?_) (fun hb => ?_)
      · replace h := h.1 (of_decide_eq_true hb)
        refine rf_R_wv rp_85 (rf_bk am_t85 55 2) 103 [(4, .int r1), (2, .long (s.2.1 77)), (1, .int (s.2.2.1 69 ((s.1 65) - (Int32.ofInt 1)).toNatClampNeg)), (0, .ref rf_o)] [] s3 (by repeat (first | exact trivial | refine ⟨rfl, ?_⟩)) (by decide +kernel) ?_
        refine rf_R_call (pc := 106) (q := ([.ref rf_o, .int ((Int8.ofInt 63).toInt32)], [])) rp_85 rfl rfl (by decide) rp_82 rfl (Nat.le_of_ble_eq_true rfl) ⟨rfl, Nat.le_of_ble_eq_true rfl⟩ h (fun v s4 h => ?_)
        obtain ⟨r4, rfl, h⟩ := h
        refine rf_R_wv rp_85 (rf_bk am_t85 58 1) 109 [(4, .int r1), (2, .long (s.2.1 77)), (1, .int (s.2.2.1 69 ((s.1 65) - (Int32.ofInt 1)).toNatClampNeg)), (0, .ref rf_o)] [.int r4] s4 (by repeat (first | exact trivial | refine ⟨rfl, ?_⟩)) (by decide +kernel) ?_
        exact rf_R_le (l := [(0, .ref rf_o), (1, .int (s.2.2.1 69 ((s.1 65) - (Int32.ofInt 1)).toNatClampNeg)), (2, .long (s.2.1 77)), (4, .int r1), (5, .int r4)]) rfl rfl (⟨rfl, rfl, rfl, rfl, rfl, trivial⟩) (wr_show_111_ok h)
      · replace h := h.2 (of_decide_eq_false hb)
        refine rf_R_wv rp_85 (rf_bk am_t85 36 2) 66 [(4, .int r1), (2, .long (s.2.1 77)), (1, .int (s.2.2.1 69 ((s.1 65) - (Int32.ofInt 1)).toNatClampNeg)), (0, .ref rf_o)] [] s3 (by repeat (first | exact trivial | refine ⟨rfl, ?_⟩)) (by decide +kernel) ?_
        refine rf_R_if (b := am_cnd .eq (s.2.2.1 69 ((s.1 65) - (Int32.ofInt 1)).toNatClampNeg) 0) (p := 79) (q := 70) (fun hb => ?_) (fun hb => ?_)
        · replace h := h.1 (of_decide_eq_true hb)
          exact rf_R_le (l := [(0, .ref rf_o), (1, .int (s.2.2.1 69 ((s.1 65) - (Int32.ofInt 1)).toNatClampNeg)), (2, .long (s.2.1 77)), (4, .int r1)]) rfl rfl (⟨rfl, rfl, rfl, rfl, trivial⟩) (wr_show_79_ok h)
        · replace h := h.2 (of_decide_eq_false hb)
          refine rf_R_wv rp_85 (rf_bk am_t85 38 2) 70 [(4, .int r1), (2, .long (s.2.1 77)), (1, .int (s.2.2.1 69 ((s.1 65) - (Int32.ofInt 1)).toNatClampNeg)), (0, .ref rf_o)] [] s3 (by repeat (first | exact trivial | refine ⟨rfl, ?_⟩)) (by decide +kernel) ?_
          refine rf_R_call (pc := 73) (q := ([.ref rf_o, .int ((Int8.ofInt 40).toInt32)], [])) rp_85 rfl rfl (by decide) rp_82 rfl (Nat.le_of_ble_eq_true rfl) ⟨rfl, Nat.le_of_ble_eq_true rfl⟩ h (fun v s5 h => ?_)
          obtain ⟨r5, rfl, h⟩ := h
          refine rf_R_wv rp_85 (rf_bk am_t85 41 1) 76 [(4, .int r1), (2, .long (s.2.1 77)), (1, .int (s.2.2.1 69 ((s.1 65) - (Int32.ofInt 1)).toNatClampNeg)), (0, .ref rf_o)] [.int r5] s5 (by repeat (first | exact trivial | refine ⟨rfl, ?_⟩)) (by decide +kernel) ?_
          refine rf_R_if (b := am_cnd .eq r5 0) (p := 97) (q := 79) (fun hb => ?_) (fun hb => ?_)
          · replace h := h.1 (of_decide_eq_true hb)
            exact rf_R_le (l := [(0, .ref rf_o), (1, .int (s.2.2.1 69 ((s.1 65) - (Int32.ofInt 1)).toNatClampNeg)), (2, .long (s.2.1 77)), (4, .int r1)]) rfl rfl (⟨rfl, rfl, rfl, rfl, trivial⟩) (wr_show_97_ok h)
          · replace h := h.2 (of_decide_eq_false hb)
            exact rf_R_le (l := [(0, .ref rf_o), (1, .int (s.2.2.1 69 ((s.1 65) - (Int32.ofInt 1)).toNatClampNeg)), (2, .long (s.2.1 77)), (4, .int r1)]) rfl rfl (⟨rfl, rfl, rfl, rfl, trivial⟩) (wr_show_79_ok h)
    · replace h := h.2 (Decidable.not_not.mp (of_decide_eq_false hb))
      refine rf_R_wv rp_85 (rf_bk am_t85 28 3) 50 [(4, .int r1), (2, .long (s.2.1 77)), (1, .int (s.2.2.1 69 ((s.1 65) - (Int32.ofInt 1)).toNatClampNeg)), (0, .ref rf_o)] [] s3 (by repeat (first | exact trivial | refine ⟨rfl, ?_⟩)) (by decide +kernel) ?_
      refine rf_R_call (pc := 53) (q := ([.ref rf_o, .int ((s.2.1 77).toInt32)], [])) rp_85 rfl rfl (by decide) rp_84 rfl (Nat.le_of_ble_eq_true rfl) ⟨rfl, Nat.le_of_ble_eq_true rfl⟩ h (fun v s6 h => ?_)
      obtain ⟨r6, rfl, h⟩ := h
      refine rf_R_wv rp_85 (rf_bk am_t85 32 2) 56 [(4, .int r1), (2, .long (s.2.1 77)), (1, .int (s.2.2.1 69 ((s.1 65) - (Int32.ofInt 1)).toNatClampNeg)), (0, .ref rf_o)] [.int r6] s6 (by repeat (first | exact trivial | refine ⟨rfl, ?_⟩)) (by decide +kernel) ?_
      exact rf_R_le (l := [(0, .ref rf_o), (1, .int (s.2.2.1 69 ((s.1 65) - (Int32.ofInt 1)).toNatClampNeg)), (2, .long (s.2.1 77)), (4, .int r1), (5, .int r6)]) rfl rfl (⟨rfl, rfl, rfl, rfl, rfl, trivial⟩) (wr_show_111_ok h)
  · replace h := h.2 (Decidable.not_not.mp (of_decide_eq_false hb))
    refine rf_R_wv rp_85 (rf_bk am_t85 18 3) 31 [(4, .int r1), (2, .long (s.2.1 77)), (1, .int (s.2.2.1 69 ((s.1 65) - (Int32.ofInt 1)).toNatClampNeg)), (0, .ref rf_o)] [] s2 (by repeat (first | exact trivial | refine ⟨rfl, ?_⟩)) (by decide +kernel) ?_
    refine rf_R_call (pc := 34) (q := ([.ref rf_o, .int ((s.2.1 77).toInt32)], [])) rp_85 rfl rfl (by decide) rp_83 rfl (Nat.le_of_ble_eq_true rfl) ⟨rfl, Nat.le_of_ble_eq_true rfl⟩ h (fun v s7 h => ?_)
    obtain ⟨r7, rfl, h⟩ := h
    refine rf_R_wv rp_85 (rf_bk am_t85 22 2) 37 [(4, .int r1), (2, .long (s.2.1 77)), (1, .int (s.2.2.1 69 ((s.1 65) - (Int32.ofInt 1)).toNatClampNeg)), (0, .ref rf_o)] [.int r7] s7 (by repeat (first | exact trivial | refine ⟨rfl, ?_⟩)) (by decide +kernel) ?_
    exact rf_R_le (l := [(0, .ref rf_o), (1, .int (s.2.2.1 69 ((s.1 65) - (Int32.ofInt 1)).toNatClampNeg)), (2, .long (s.2.1 77)), (4, .int r1), (5, .int r7)]) rfl rfl (⟨rfl, rfl, rfl, rfl, rfl, trivial⟩) (wr_show_111_ok h)
/-- goesOn ()Z, from 152 on -/
def wr_goesOn_152 (d : Nat) (s : rf_S) (Q : Int32 → rf_S → Prop) : Prop := ((¬ (s.1 65) = 0 → Q (Int32.ofInt 1) s) ∧ ((s.1 65) = 0 → Q (Int32.ofInt 1) (rf_si s 74 (Int32.ofInt 3))))
set_option maxRecDepth 20000 in
theorem wr_goesOn_152_ok {d : Nat} {s : rf_S} {Q : Int32 → rf_S → Prop} (h : wr_goesOn_152 d s Q) : rf_R (d + 1) 86 (152, [(0, .ref rf_o)], [], s) (rf_qI Q) := by
  unfold wr_goesOn_152 at h
  refine rf_R_wv rp_86 (rf_bk am_t86 92 3) 152 [(0, .ref rf_o)] [] s (by repeat (first | exact trivial | refine ⟨rfl, ?_⟩)) (by decide +kernel) ?_
  refine rf_R_if (b := am_cnd .ne (s.1 65) 0) (p := 164) (q := 159) (fun hb => ?_) (fun hb => ?_)
  · replace h := h.1 (of_decide_eq_true hb)
    refine rf_R_wv rp_86 (rf_bk am_t86 98 1) 164 [(0, .ref rf_o)] [] s (by repeat (first | exact trivial | refine ⟨rfl, ?_⟩)) (by decide +kernel) ?_
    exact rf_R_ret (pc := 165) (v := some (.int (Int32.ofInt 1))) rp_86 rfl rfl rfl ⟨_, rfl, h⟩
  · replace h := h.2 (Decidable.not_not.mp (of_decide_eq_false hb))
    refine rf_R_wv rp_86 (rf_bk am_t86 95 3) 159 [(0, .ref rf_o)] [] s (by repeat (first | exact trivial | refine ⟨rfl, ?_⟩)) (by decide +kernel) ?_
    refine And.intro rfl ?_
    refine rf_R_wv rp_86 (rf_bk am_t86 98 1) 164 [(0, .ref rf_o)] [] (rf_si s 74 (Int32.ofInt 3)) (by repeat (first | exact trivial | refine ⟨rfl, ?_⟩)) (by decide +kernel) ?_
    exact rf_R_ret (pc := 165) (v := some (.int (Int32.ofInt 1))) rp_86 rfl rfl rfl ⟨_, rfl, h⟩
/-- goesOn ()Z, from 149 on -/
def wr_goesOn_149 (d : Nat) (x1 : Int32) (s : rf_S) (Q : Int32 → rf_S → Prop) : Prop := rf_R (d + 1) 86 (2, [(0, .ref rf_o), (1, .int x1)], [], s) (rf_qI Q)
set_option maxRecDepth 20000 in
theorem wr_goesOn_149_ok {d : Nat} {x1 : Int32} {s : rf_S} {Q : Int32 → rf_S → Prop} (h : wr_goesOn_149 d x1 s Q) : rf_R (d + 1) 86 (149, [(0, .ref rf_o), (1, .int x1)], [], s) (rf_qI Q) := by
  unfold wr_goesOn_149 at h
  refine rf_R_wv rp_86 (rf_bk am_t86 91 1) 149 [(0, .ref rf_o), (1, .int x1)] [] s (by repeat (first | exact trivial | refine ⟨rfl, ?_⟩)) (by decide +kernel) ?_
  exact rf_R_le (l := [(0, .ref rf_o), (1, .int x1)]) rfl rfl (⟨rfl, rfl, trivial⟩) h
/-- goesOn ()Z, from 86 on -/
def wr_goesOn_86 (d : Nat) (x1 : Int32) (s : rf_S) (Q : Int32 → rf_S → Prop) : Prop := wr_goesOn_149 d x1 s Q
set_option maxRecDepth 20000 in
theorem wr_goesOn_86_ok {d : Nat} {x1 : Int32} {s : rf_S} {Q : Int32 → rf_S → Prop} (h : wr_goesOn_86 d x1 s Q) : rf_R (d + 1) 86 (86, [(0, .ref rf_o), (1, .int x1)], [], s) (rf_qI Q) := by
  unfold wr_goesOn_86 at h
  refine rf_R_wv rp_86 (rf_bk am_t86 51 1) 86 [(0, .ref rf_o), (1, .int x1)] [] s (by repeat (first | exact trivial | refine ⟨rfl, ?_⟩)) (by decide +kernel) ?_
  exact rf_R_le (l := [(0, .ref rf_o), (1, .int x1)]) rfl rfl (⟨rfl, rfl, trivial⟩) (wr_goesOn_149_ok h)
/-- goesOn ()Z, from 53 on -/
def wr_goesOn_53 (d : Nat) (x2 : Int32) (x3 : Int32) (y0 : Int32) (s : rf_S) (Q : Int32 → rf_S → Prop) : Prop := ((y0 = 0 → rf_I d 82 [(0, .ref rf_o), (1, .int ((Int8.ofInt 32).toInt32))] s (fun r1 s1 => ((¬ r1 = 0 → (rf_in x3 36001 ∧ rf_in x2 1600 ∧ rf_in ((s1.2.2.1 51 x3.toNatClampNeg) + (s1.2.2.1 68 x2.toNatClampNeg)) 47000 ∧ (rf_in x2 1600 ∧ rf_in x2 1600 ∧ rf_V d 53 [(0, .ref rf_o), (1, .int (Int32.ofInt 5)), (2, .int (Int32.ofInt 0)), (3, .int (Int32.ofInt 0)), (4, .int (Int32.ofInt 1))] (rf_sb (rf_si (rf_sj s1 77 (s1.2.2.2 58 ((s1.2.2.1 51 x3.toNatClampNeg) + (s1.2.2.1 68 x2.toNatClampNeg)).toNatClampNeg)) 74 (Int32.ofInt 1)) 68 x2.toNatClampNeg ((s1.2.2.1 68 x2.toNatClampNeg) + (Int32.ofInt 1))) (fun s2 => rf_V d 55 [(0, .ref rf_o)] s2 (fun s3 => wr_goesOn_149 d y0 s3 Q))))) ∧ (r1 = 0 → Q (Int32.ofInt 0) s1)))) ∧ (¬ (y0 = 0) → (rf_in x2 1600 ∧ rf_V d 57 [(0, .ref rf_o)] s (fun s4 => (((s.2.2.1 69 x2.toNatClampNeg) = 0 → wr_goesOn_86 d y0 s4 Q) ∧ (¬ ((s.2.2.1 69 x2.toNatClampNeg) = 0) → rf_I d 82 [(0, .ref rf_o), (1, .int ((Int8.ofInt 41).toInt32))] s4 (fun r5 s5 => ((¬ r5 = 0 → wr_goesOn_86 d y0 s5 Q) ∧ (r5 = 0 → Q (Int32.ofInt 0) s5)))))))))
set_option maxRecDepth 20000 in
theorem wr_goesOn_53_ok {d : Nat} {x2 : Int32} {x3 : Int32} {y0 : Int32} {s : rf_S} {Q : Int32 → rf_S → Prop} (h : wr_goesOn_53 d x2 x3 y0 s Q) : rf_R (d + 1) 86 (53, [(0, .ref rf_o), (2, .int x2), (3, .int x3)], [.int y0], s) (rf_qI Q) := by
  unfold wr_goesOn_53 at h
  refine rf_R_wv rp_86 (rf_bk am_t86 33 3) 53 [(0, .ref rf_o), (2, .int x2), (3, .int x3)] [.int y0] s (by repeat (first | exact trivial | refine ⟨rfl, ?_⟩)) (by decide +kernel) ?_
  refine rf_R_if (b := am_cnd .eq y0 0) (p := 89) (q := 58) (fun hb => ?_) (fun hb => ?_)
  · replace h := h.1 (of_decide_eq_true hb)
    refine rf_R_wv rp_86 (rf_bk am_t86 52 2) 89 [(1, .int y0), (0, .ref rf_o), (2, .int x2), (3, .int x3)] [] s (by repeat (first | exact trivial | refine ⟨rfl, ?_⟩)) (by decide +kernel) ?_
    refine rf_R_call (pc := 92) (q := ([.ref rf_o, .int ((Int8.ofInt 32).toInt32)], [])) rp_86 rfl rfl (by decide) rp_82 rfl (Nat.le_of_ble_eq_true rfl) ⟨rfl, Nat.le_of_ble_eq_true rfl⟩ h (fun v s1 h => ?_)
    obtain ⟨r1, rfl, h⟩ := h
    refine rf_R_wv rp_86 (rf_bk am_t86 55 1) 95 [(1, .int y0), (0, .ref rf_o), (2, .int x2), (3, .int x3)] [.int r1] s1 (by repeat (first | exact trivial | refine ⟨rfl, ?_⟩)) (by decide +kernel) ?_
    refine rf_R_if (b := am_cnd .ne r1 0) (p := 100) (q := 98) (fun hb => ?_) (fun hb => ?_)
    · replace h := h.1 (of_decide_eq_true hb)
      refine rf_R_wv rp_86 (rf_bk am_t86 58 14) 100 [(1, .int y0), (0, .ref rf_o), (2, .int x2), (3, .int x3)] [] s1 (by repeat (first | exact trivial | refine ⟨rfl, ?_⟩)) (by decide +kernel) ?_
      refine And.intro h.1 ?_
      replace h := h.2
      refine And.intro h.1 ?_
      replace h := h.2
      refine And.intro h.1 ?_
      replace h := h.2
      refine And.intro rfl ?_
      refine rf_R_wv rp_86 (rf_bk am_t86 72 3) 122 [(1, .int y0), (0, .ref rf_o), (2, .int x2), (3, .int x3)] [] (rf_sj s1 77 (s1.2.2.2 58 ((s1.2.2.1 51 x3.toNatClampNeg) + (s1.2.2.1 68 x2.toNatClampNeg)).toNatClampNeg)) (by repeat (first | exact trivial | refine ⟨rfl, ?_⟩)) (by decide +kernel) ?_
      refine And.intro rfl ?_
      refine rf_R_wv rp_86 (rf_bk am_t86 75 8) 127 [(1, .int y0), (0, .ref rf_o), (2, .int x2), (3, .int x3)] [] (rf_si (rf_sj s1 77 (s1.2.2.2 58 ((s1.2.2.1 51 x3.toNatClampNeg) + (s1.2.2.1 68 x2.toNatClampNeg)).toNatClampNeg)) 74 (Int32.ofInt 1)) (by repeat (first | exact trivial | refine ⟨rfl, ?_⟩)) (by decide +kernel) ?_
      refine And.intro h.1 ?_
      replace h := h.2
      refine And.intro h.1 ?_
      replace h := h.2
      refine rf_R_wv rp_86 (rf_bk am_t86 83 5) 137 [(1, .int y0), (0, .ref rf_o), (2, .int x2), (3, .int x3)] [] (rf_sb (rf_si (rf_sj s1 77 (s1.2.2.2 58 ((s1.2.2.1 51 x3.toNatClampNeg) + (s1.2.2.1 68 x2.toNatClampNeg)).toNatClampNeg)) 74 (Int32.ofInt 1)) 68 x2.toNatClampNeg ((s1.2.2.1 68 x2.toNatClampNeg) + (Int32.ofInt 1))) (by repeat (first | exact trivial | refine ⟨rfl, ?_⟩)) (by decide +kernel) ?_
      refine rf_R_call (pc := 142) (q := ([.ref rf_o, .int (Int32.ofInt 5), .int (Int32.ofInt 0), .int (Int32.ofInt 0), .int (Int32.ofInt 1)], [])) rp_86 rfl rfl (by decide) rp_53 rfl (Nat.le_of_ble_eq_true rfl) ⟨rfl, Nat.le_of_ble_eq_true rfl⟩ h (fun v s2 h => ?_)
      obtain ⟨rfl, h⟩ := h
      refine rf_R_wv rp_86 (rf_bk am_t86 89 1) 145 [(1, .int y0), (0, .ref rf_o), (2, .int x2), (3, .int x3)] [] s2 (by repeat (first | exact trivial | refine ⟨rfl, ?_⟩)) (by decide +kernel) ?_
      refine rf_R_call (pc := 146) (q := ([.ref rf_o], [])) rp_86 rfl rfl (by decide) rp_55 rfl (Nat.le_of_ble_eq_true rfl) ⟨rfl, Nat.le_of_ble_eq_true rfl⟩ h (fun v s3 h => ?_)
      obtain ⟨rfl, h⟩ := h
      exact rf_R_le (l := [(0, .ref rf_o), (1, .int y0)]) rfl rfl (⟨rfl, rfl, trivial⟩) (wr_goesOn_149_ok h)
    · replace h := h.2 (Decidable.not_not.mp (of_decide_eq_false hb))
      refine rf_R_wv rp_86 (rf_bk am_t86 56 1) 98 [(1, .int y0), (0, .ref rf_o), (2, .int x2), (3, .int x3)] [] s1 (by repeat (first | exact trivial | refine ⟨rfl, ?_⟩)) (by decide +kernel) ?_
      exact rf_R_ret (pc := 99) (v := some (.int (Int32.ofInt 0))) rp_86 rfl rfl rfl ⟨_, rfl, h⟩
  · replace h := h.2 (of_decide_eq_false hb)
    refine rf_R_wv rp_86 (rf_bk am_t86 36 6) 58 [(1, .int y0), (0, .ref rf_o), (2, .int x2), (3, .int x3)] [] s (by repeat (first | exact trivial | refine ⟨rfl, ?_⟩)) (by decide +kernel) ?_
    refine And.intro h.1 ?_
    replace h := h.2
    refine rf_R_call (pc := 67) (q := ([.ref rf_o], [])) rp_86 rfl rfl (by decide) rp_57 rfl (Nat.le_of_ble_eq_true rfl) ⟨rfl, Nat.le_of_ble_eq_true rfl⟩ h (fun v s4 h => ?_)
    obtain ⟨rfl, h⟩ := h
    refine rf_R_wv rp_86 (rf_bk am_t86 43 2) 70 [(4, .int (s.2.2.1 69 x2.toNatClampNeg)), (1, .int y0), (0, .ref rf_o), (2, .int x2), (3, .int x3)] [] s4 (by repeat (first | exact trivial | refine ⟨rfl, ?_⟩)) (by decide +kernel) ?_
    refine rf_R_if (b := am_cnd .eq (s.2.2.1 69 x2.toNatClampNeg) 0) (p := 86) (q := 75) (fun hb => ?_) (fun hb => ?_)
    · replace h := h.1 (of_decide_eq_true hb)
      exact rf_R_le (l := [(0, .ref rf_o), (1, .int y0)]) rfl rfl (⟨rfl, rfl, trivial⟩) (wr_goesOn_86_ok h)
    · replace h := h.2 (of_decide_eq_false hb)
      refine rf_R_wv rp_86 (rf_bk am_t86 45 2) 75 [(4, .int (s.2.2.1 69 x2.toNatClampNeg)), (1, .int y0), (0, .ref rf_o), (2, .int x2), (3, .int x3)] [] s4 (by repeat (first | exact trivial | refine ⟨rfl, ?_⟩)) (by decide +kernel) ?_
      refine rf_R_call (pc := 78) (q := ([.ref rf_o, .int ((Int8.ofInt 41).toInt32)], [])) rp_86 rfl rfl (by decide) rp_82 rfl (Nat.le_of_ble_eq_true rfl) ⟨rfl, Nat.le_of_ble_eq_true rfl⟩ h (fun v s5 h => ?_)
      obtain ⟨r5, rfl, h⟩ := h
      refine rf_R_wv rp_86 (rf_bk am_t86 48 1) 81 [(4, .int (s.2.2.1 69 x2.toNatClampNeg)), (1, .int y0), (0, .ref rf_o), (2, .int x2), (3, .int x3)] [.int r5] s5 (by repeat (first | exact trivial | refine ⟨rfl, ?_⟩)) (by decide +kernel) ?_
      refine rf_R_if (b := am_cnd .ne r5 0) (p := 86) (q := 84) (fun hb => ?_) (fun hb => ?_)
      · replace h := h.1 (of_decide_eq_true hb)
        exact rf_R_le (l := [(0, .ref rf_o), (1, .int y0)]) rfl rfl (⟨rfl, rfl, trivial⟩) (wr_goesOn_86_ok h)
      · replace h := h.2 (Decidable.not_not.mp (of_decide_eq_false hb))
        refine rf_R_wv rp_86 (rf_bk am_t86 49 1) 84 [(4, .int (s.2.2.1 69 x2.toNatClampNeg)), (1, .int y0), (0, .ref rf_o), (2, .int x2), (3, .int x3)] [] s5 (by repeat (first | exact trivial | refine ⟨rfl, ?_⟩)) (by decide +kernel) ?_
        exact rf_R_ret (pc := 85) (v := some (.int (Int32.ofInt 0))) rp_86 rfl rfl rfl ⟨_, rfl, h⟩
/-- goesOn ()Z, from 2 on -/
def wr_goesOn_2 (d : Nat) (x1 : Int32) (s : rf_S) (Q : Int32 → rf_S → Prop) : Prop := ((x1 = 0 → wr_goesOn_152 d s Q) ∧ (¬ (x1 = 0) → (((s.1 65) ≤ 0 → wr_goesOn_152 d s Q) ∧ (¬ ((s.1 65) ≤ 0) → (rf_in ((s.1 65) - (Int32.ofInt 1)) 1601 ∧ rf_in (s.2.2.1 70 ((s.1 65) - (Int32.ofInt 1)).toNatClampNeg) 6000 ∧ (rf_in ((s.1 65) - (Int32.ofInt 1)) 1600 ∧ rf_in ((s.2.2.2 71 (s.2.2.1 70 ((s.1 65) - (Int32.ofInt 1)).toNatClampNeg).toNatClampNeg).toInt32) 36000 ∧ ((¬ (s.2.2.1 68 ((s.1 65) - (Int32.ofInt 1)).toNatClampNeg) = (s.2.2.1 52 ((s.2.2.2 71 (s.2.2.1 70 ((s.1 65) - (Int32.ofInt 1)).toNatClampNeg).toNatClampNeg).toInt32).toNatClampNeg) → wr_goesOn_53 d ((s.1 65) - (Int32.ofInt 1)) ((s.2.2.2 71 (s.2.2.1 70 ((s.1 65) - (Int32.ofInt 1)).toNatClampNeg).toNatClampNeg).toInt32) (Int32.ofInt 0) s Q) ∧ ((s.2.2.1 68 ((s.1 65) - (Int32.ofInt 1)).toNatClampNeg) = (s.2.2.1 52 ((s.2.2.2 71 (s.2.2.1 70 ((s.1 65) - (Int32.ofInt 1)).toNatClampNeg).toNatClampNeg).toInt32).toNatClampNeg) → wr_goesOn_53 d ((s.1 65) - (Int32.ofInt 1)) ((s.2.2.2 71 (s.2.2.1 70 ((s.1 65) - (Int32.ofInt 1)).toNatClampNeg).toNatClampNeg).toInt32) (Int32.ofInt 1) s Q))))))))
set_option maxRecDepth 20000 in
theorem wr_goesOn_2_ok {d : Nat} {x1 : Int32} {s : rf_S} {Q : Int32 → rf_S → Prop} (h : wr_goesOn_2 d x1 s Q) : rf_R (d + 1) 86 (2, [(0, .ref rf_o), (1, .int x1)], [], s) (rf_qI Q) := by
  unfold wr_goesOn_2 at h
  refine rf_R_wv rp_86 (rf_bk am_t86 2 2) 2 [(0, .ref rf_o), (1, .int x1)] [] s (by repeat (first | exact trivial | refine ⟨rfl, ?_⟩)) (by decide +kernel) ?_
  refine rf_R_if (b := am_cnd .eq x1 0) (p := 152) (q := 6) (fun hb => ?_) (fun hb => ?_)
  · replace h := h.1 (of_decide_eq_true hb)
    exact rf_R_le (l := [(0, .ref rf_o)]) rfl rfl (⟨rfl, trivial⟩) (wr_goesOn_152_ok h)
  · replace h := h.2 (of_decide_eq_false hb)
    refine rf_R_wv rp_86 (rf_bk am_t86 4 3) 6 [(0, .ref rf_o), (1, .int x1)] [] s (by repeat (first | exact trivial | refine ⟨rfl, ?_⟩)) (by decide +kernel) ?_
    refine rf_R_if (b := am_cnd .le (s.1 65) 0) (p := 152) (q := 13) (fun hb => ?_) (fun hb => ?_)
    · replace h := h.1 (of_decide_eq_true hb)
      exact rf_R_le (l := [(0, .ref rf_o)]) rfl rfl (⟨rfl, trivial⟩) (wr_goesOn_152_ok h)
    · replace h := h.2 (of_decide_eq_false hb)
      refine rf_R_wv rp_86 (rf_bk am_t86 7 14) 13 [(0, .ref rf_o), (1, .int x1)] [] s (by repeat (first | exact trivial | refine ⟨rfl, ?_⟩)) (by decide +kernel) ?_
      refine And.intro h.1 ?_
      replace h := h.2
      refine And.intro h.1 ?_
      replace h := h.2
      refine rf_R_wv rp_86 (rf_bk am_t86 21 9) 33 [(3, .int ((s.2.2.2 71 (s.2.2.1 70 ((s.1 65) - (Int32.ofInt 1)).toNatClampNeg).toNatClampNeg).toInt32)), (2, .int ((s.1 65) - (Int32.ofInt 1))), (0, .ref rf_o), (1, .int x1)] [] s (by repeat (first | exact trivial | refine ⟨rfl, ?_⟩)) (by decide +kernel) ?_
      refine And.intro h.1 ?_
      replace h := h.2
      refine And.intro h.1 ?_
      replace h := h.2
      refine rf_R_if (b := am_cnd .ne (s.2.2.1 68 ((s.1 65) - (Int32.ofInt 1)).toNatClampNeg) (s.2.2.1 52 ((s.2.2.2 71 (s.2.2.1 70 ((s.1 65) - (Int32.ofInt 1)).toNatClampNeg).toNatClampNeg).toInt32).toNatClampNeg)) (p := 52) (q := 48) (fun hb => ?_) (fun hb => ?_)
      · replace h := h.1 (of_decide_eq_true hb)
        refine rf_R_wv rp_86 (rf_bk am_t86 32 1) 52 [(3, .int ((s.2.2.2 71 (s.2.2.1 70 ((s.1 65) - (Int32.ofInt 1)).toNatClampNeg).toNatClampNeg).toInt32)), (2, .int ((s.1 65) - (Int32.ofInt 1))), (0, .ref rf_o), (1, .int x1)] [] s (by repeat (first | exact trivial | refine ⟨rfl, ?_⟩)) (by decide +kernel) ?_
        exact rf_R_le (l := [(0, .ref rf_o), (2, .int ((s.1 65) - (Int32.ofInt 1))), (3, .int ((s.2.2.2 71 (s.2.2.1 70 ((s.1 65) - (Int32.ofInt 1)).toNatClampNeg).toNatClampNeg).toInt32))]) rfl rfl (⟨rfl, rfl, rfl, trivial⟩) (wr_goesOn_53_ok h)
      · replace h := h.2 (Decidable.not_not.mp (of_decide_eq_false hb))
        refine rf_R_wv rp_86 (rf_bk am_t86 30 2) 48 [(3, .int ((s.2.2.2 71 (s.2.2.1 70 ((s.1 65) - (Int32.ofInt 1)).toNatClampNeg).toNatClampNeg).toInt32)), (2, .int ((s.1 65) - (Int32.ofInt 1))), (0, .ref rf_o), (1, .int x1)] [] s (by repeat (first | exact trivial | refine ⟨rfl, ?_⟩)) (by decide +kernel) ?_
        exact rf_R_le (l := [(0, .ref rf_o), (2, .int ((s.1 65) - (Int32.ofInt 1))), (3, .int ((s.2.2.2 71 (s.2.2.1 70 ((s.1 65) - (Int32.ofInt 1)).toNatClampNeg).toNatClampNeg).toInt32))]) rfl rfl (⟨rfl, rfl, rfl, trivial⟩) (wr_goesOn_53_ok h)
/-- goesOn ()Z, from 0 on -/
def wr_goesOn (d : Nat) (s : rf_S) (Q : Int32 → rf_S → Prop) : Prop := rf_R (d + 1) 86 (2, [(0, .ref rf_o), (1, .int (Int32.ofInt 1))], [], s) (rf_qI Q)
set_option maxRecDepth 20000 in
theorem wr_goesOn_ok {d : Nat} {s : rf_S} {Q : Int32 → rf_S → Prop} (h : wr_goesOn d s Q) : rf_I (d + 1) 86 [(0, .ref rf_o)] s Q := by
  unfold wr_goesOn at h
  unfold rf_I
  refine rf_R_wv rp_86 (rf_bk am_t86 0 2) 0 [(0, .ref rf_o)] [] s (by repeat (first | exact trivial | refine ⟨rfl, ?_⟩)) (by decide +kernel) ?_
  exact rf_R_le (l := [(0, .ref rf_o), (1, .int (Int32.ofInt 1))]) rfl rfl (⟨rfl, rfl, trivial⟩) h
/-- gives ()V, from 0 on -/
def wr_gives (d : Nat) (s : rf_S) (Q : rf_S → Prop) : Prop := (rf_in ((s.1 65) - (Int32.ofInt 1)) 1600 ∧ (((s.2.2.1 66 ((s.1 65) - (Int32.ofInt 1)).toNatClampNeg) = 0 → rf_V d 76 [(0, .ref rf_o)] s (fun s1 => Q s1)) ∧ (¬ ((s.2.2.1 66 ((s.1 65) - (Int32.ofInt 1)).toNatClampNeg) = 0) → (((s.2.2.1 66 ((s.1 65) - (Int32.ofInt 1)).toNatClampNeg) = 1 → rf_V d 78 [(0, .ref rf_o)] s (fun s2 => Q s2)) ∧ (¬ ((s.2.2.1 66 ((s.1 65) - (Int32.ofInt 1)).toNatClampNeg) = 1) → (((s.2.2.1 66 ((s.1 65) - (Int32.ofInt 1)).toNatClampNeg) = 2 → rf_V d 79 [(0, .ref rf_o)] s (fun s3 => Q s3)) ∧ (¬ ((s.2.2.1 66 ((s.1 65) - (Int32.ofInt 1)).toNatClampNeg) = 2) → (((s.2.2.1 66 ((s.1 65) - (Int32.ofInt 1)).toNatClampNeg) = 3 → rf_V d 80 [(0, .ref rf_o)] s (fun s4 => Q s4)) ∧ (¬ ((s.2.2.1 66 ((s.1 65) - (Int32.ofInt 1)).toNatClampNeg) = 3) → (((s.2.2.1 66 ((s.1 65) - (Int32.ofInt 1)).toNatClampNeg) = 4 → rf_V d 81 [(0, .ref rf_o)] s (fun s5 => Q s5)) ∧ (¬ ((s.2.2.1 66 ((s.1 65) - (Int32.ofInt 1)).toNatClampNeg) = 4) → rf_V d 85 [(0, .ref rf_o)] s (fun s6 => Q s6))))))))))))
set_option maxRecDepth 20000 in
theorem wr_gives_ok {d : Nat} {s : rf_S} {Q : rf_S → Prop} (h : wr_gives d s Q) : rf_V (d + 1) 87 [(0, .ref rf_o)] s Q := by
  unfold wr_gives at h
  unfold rf_V
  refine rf_R_wv rp_87 (rf_bk am_t87 0 8) 0 [(0, .ref rf_o)] [] s (by repeat (first | exact trivial | refine ⟨rfl, ?_⟩)) (by decide +kernel) ?_
  refine And.intro h.1 ?_
  replace h := h.2
  refine rf_R_sw (fun hb => ?_) (fun hb => ?_)
  · replace h := h.1 hb
    refine rf_R_wv rp_87 (rf_bk am_t87 8 1) 44 [(0, .ref rf_o)] [] s (by repeat (first | exact trivial | refine ⟨rfl, ?_⟩)) (by decide +kernel) ?_
    refine rf_R_call (pc := 45) (q := ([.ref rf_o], [])) rp_87 rfl rfl (by decide) rp_76 rfl (Nat.le_of_ble_eq_true rfl) ⟨rfl, Nat.le_of_ble_eq_true rfl⟩ h (fun v s1 h => ?_)
    obtain ⟨rfl, h⟩ := h
    refine rf_R_wv rp_87 (rf_bk am_t87 10 1) 48 [(0, .ref rf_o)] [] s1 (by repeat (first | exact trivial | refine ⟨rfl, ?_⟩)) (by decide +kernel) ?_
    exact rf_R_ret (pc := 83) rp_87 rfl rfl rfl ⟨rfl, h⟩
  replace h := h.2 hb
  refine rf_R_sw (fun hb => ?_) (fun hb => ?_)
  · replace h := h.1 hb
    refine rf_R_wv rp_87 (rf_bk am_t87 11 1) 51 [(0, .ref rf_o)] [] s (by repeat (first | exact trivial | refine ⟨rfl, ?_⟩)) (by decide +kernel) ?_
    refine rf_R_call (pc := 52) (q := ([.ref rf_o], [])) rp_87 rfl rfl (by decide) rp_78 rfl (Nat.le_of_ble_eq_true rfl) ⟨rfl, Nat.le_of_ble_eq_true rfl⟩ h (fun v s2 h => ?_)
    obtain ⟨rfl, h⟩ := h
    refine rf_R_wv rp_87 (rf_bk am_t87 13 1) 55 [(0, .ref rf_o)] [] s2 (by repeat (first | exact trivial | refine ⟨rfl, ?_⟩)) (by decide +kernel) ?_
    exact rf_R_ret (pc := 83) rp_87 rfl rfl rfl ⟨rfl, h⟩
  replace h := h.2 hb
  refine rf_R_sw (fun hb => ?_) (fun hb => ?_)
  · replace h := h.1 hb
    refine rf_R_wv rp_87 (rf_bk am_t87 14 1) 58 [(0, .ref rf_o)] [] s (by repeat (first | exact trivial | refine ⟨rfl, ?_⟩)) (by decide +kernel) ?_
    refine rf_R_call (pc := 59) (q := ([.ref rf_o], [])) rp_87 rfl rfl (by decide) rp_79 rfl (Nat.le_of_ble_eq_true rfl) ⟨rfl, Nat.le_of_ble_eq_true rfl⟩ h (fun v s3 h => ?_)
    obtain ⟨rfl, h⟩ := h
    refine rf_R_wv rp_87 (rf_bk am_t87 16 1) 62 [(0, .ref rf_o)] [] s3 (by repeat (first | exact trivial | refine ⟨rfl, ?_⟩)) (by decide +kernel) ?_
    exact rf_R_ret (pc := 83) rp_87 rfl rfl rfl ⟨rfl, h⟩
  replace h := h.2 hb
  refine rf_R_sw (fun hb => ?_) (fun hb => ?_)
  · replace h := h.1 hb
    refine rf_R_wv rp_87 (rf_bk am_t87 17 1) 65 [(0, .ref rf_o)] [] s (by repeat (first | exact trivial | refine ⟨rfl, ?_⟩)) (by decide +kernel) ?_
    refine rf_R_call (pc := 66) (q := ([.ref rf_o], [])) rp_87 rfl rfl (by decide) rp_80 rfl (Nat.le_of_ble_eq_true rfl) ⟨rfl, Nat.le_of_ble_eq_true rfl⟩ h (fun v s4 h => ?_)
    obtain ⟨rfl, h⟩ := h
    refine rf_R_wv rp_87 (rf_bk am_t87 19 1) 69 [(0, .ref rf_o)] [] s4 (by repeat (first | exact trivial | refine ⟨rfl, ?_⟩)) (by decide +kernel) ?_
    exact rf_R_ret (pc := 83) rp_87 rfl rfl rfl ⟨rfl, h⟩
  replace h := h.2 hb
  refine rf_R_sw (fun hb => ?_) (fun hb => ?_)
  · replace h := h.1 hb
    refine rf_R_wv rp_87 (rf_bk am_t87 20 1) 72 [(0, .ref rf_o)] [] s (by repeat (first | exact trivial | refine ⟨rfl, ?_⟩)) (by decide +kernel) ?_
    refine rf_R_call (pc := 73) (q := ([.ref rf_o], [])) rp_87 rfl rfl (by decide) rp_81 rfl (Nat.le_of_ble_eq_true rfl) ⟨rfl, Nat.le_of_ble_eq_true rfl⟩ h (fun v s5 h => ?_)
    obtain ⟨rfl, h⟩ := h
    refine rf_R_wv rp_87 (rf_bk am_t87 22 1) 76 [(0, .ref rf_o)] [] s5 (by repeat (first | exact trivial | refine ⟨rfl, ?_⟩)) (by decide +kernel) ?_
    exact rf_R_ret (pc := 83) rp_87 rfl rfl rfl ⟨rfl, h⟩
  replace h := h.2 hb
  show rf_R (d + 1) 87 (79, _, _, _) _
  refine rf_R_wv rp_87 (rf_bk am_t87 23 1) 79 [(0, .ref rf_o)] [] s (by repeat (first | exact trivial | refine ⟨rfl, ?_⟩)) (by decide +kernel) ?_
  refine rf_R_call (pc := 80) (q := ([.ref rf_o], [])) rp_87 rfl rfl (by decide) rp_85 rfl (Nat.le_of_ble_eq_true rfl) ⟨rfl, Nat.le_of_ble_eq_true rfl⟩ h (fun v s6 h => ?_)
  obtain ⟨rfl, h⟩ := h
  exact rf_R_ret (pc := 83) rp_87 rfl rfl rfl ⟨rfl, h⟩
/-- feed (IIIII)I, from 71 on -/
def wr_feed_71 (d : Nat) (x1 : Int32) (x2 : Int32) (x3 : Int32) (x4 : Int32) (x5 : Int32) (x6 : Int32) (y0 : Int32) (s : rf_S) (Q : Int32 → rf_S → Prop) : Prop := (rf_in (s.1 1) 2000 ∧ rf_R d 88 (18, [(0, .ref rf_o), (1, .int x1), (2, .int x2), (3, .int x3), (4, .int x4), (5, .int x5), (6, .int (x6 + Int32.ofInt 1))], [], (rf_si (rf_sb s 0 (s.1 1).toNatClampNeg ((y0 >>> ((((Int8.ofInt 24).toInt32) - (((Int8.ofInt 8).toInt32) * (x6 - x6 / (Int32.ofInt 4) * (Int32.ofInt 4)))) &&& 31)) &&& ((Int16.ofInt 255).toInt32))) 1 ((s.1 1) + (Int32.ofInt 1)))) (rf_qI Q))
set_option maxRecDepth 20000 in
theorem wr_feed_71_ok {d : Nat} {x1 : Int32} {x2 : Int32} {x3 : Int32} {x4 : Int32} {x5 : Int32} {x6 : Int32} {y0 : Int32} {s : rf_S} {Q : Int32 → rf_S → Prop} (h : wr_feed_71 d x1 x2 x3 x4 x5 x6 y0 s Q) : rf_R d 88 (71, [(0, .ref rf_o), (1, .int x1), (2, .int x2), (3, .int x3), (4, .int x4), (5, .int x5), (6, .int x6)], [.int y0], s) (rf_qI Q) := by
  unfold wr_feed_71 at h
  refine rf_R_wv rp_88 (rf_bk am_t88 34 10) 71 [(0, .ref rf_o), (1, .int x1), (2, .int x2), (3, .int x3), (4, .int x4), (5, .int x5), (6, .int x6)] [.int y0] s (by repeat (first | exact trivial | refine ⟨rfl, ?_⟩)) (by decide +kernel) ?_
  refine rf_R_rem (pc := 90) rp_88 rfl (by decide) ?_
  refine rf_R_wv rp_88 (rf_bk am_t88 45 6) 91 [(7, .int y0), (0, .ref rf_o), (1, .int x1), (2, .int x2), (3, .int x3), (4, .int x4), (5, .int x5), (6, .int x6)] [.int (x6 - x6 / (Int32.ofInt 4) * (Int32.ofInt 4)), .int ((Int8.ofInt 8).toInt32), .int ((Int8.ofInt 24).toInt32), .int y0, .int (s.1 1), .ref (rf_ad 0)] s (by repeat (first | exact trivial | refine ⟨rfl, ?_⟩)) (by decide +kernel) ?_
  refine And.intro h.1 ?_
  replace h := h.2
  refine rf_R_wv rp_88 (rf_bk am_t88 51 6) 99 [(7, .int y0), (0, .ref rf_o), (1, .int x1), (2, .int x2), (3, .int x3), (4, .int x4), (5, .int x5), (6, .int x6)] [] (rf_sb s 0 (s.1 1).toNatClampNeg ((y0 >>> ((((Int8.ofInt 24).toInt32) - (((Int8.ofInt 8).toInt32) * (x6 - x6 / (Int32.ofInt 4) * (Int32.ofInt 4)))) &&& 31)) &&& ((Int16.ofInt 255).toInt32))) (by repeat (first | exact trivial | refine ⟨rfl, ?_⟩)) (by decide +kernel) ?_
  refine And.intro rfl ?_
  refine rf_R_wv rp_88 (rf_bk am_t88 57 2) 109 [(7, .int y0), (0, .ref rf_o), (1, .int x1), (2, .int x2), (3, .int x3), (4, .int x4), (5, .int x5), (6, .int x6)] [] (rf_si (rf_sb s 0 (s.1 1).toNatClampNeg ((y0 >>> ((((Int8.ofInt 24).toInt32) - (((Int8.ofInt 8).toInt32) * (x6 - x6 / (Int32.ofInt 4) * (Int32.ofInt 4)))) &&& 31)) &&& ((Int16.ofInt 255).toInt32))) 1 ((s.1 1) + (Int32.ofInt 1))) (by repeat (first | exact trivial | refine ⟨rfl, ?_⟩)) (by decide +kernel) ?_
  exact rf_R_le (l := [(0, .ref rf_o), (1, .int x1), (2, .int x2), (3, .int x3), (4, .int x4), (5, .int x5), (6, .int (x6 + Int32.ofInt 1))]) rfl rfl (⟨rfl, rfl, rfl, rfl, rfl, rfl, rfl, trivial⟩) h
/-- feed (IIIII)I, from 18 on -/
def wr_feed_18 (d : Nat) (x1 : Int32) (x2 : Int32) (x3 : Int32) (x4 : Int32) (x5 : Int32) (x6 : Int32) (s : rf_S) (Q : Int32 → rf_S → Prop) : Prop := ((((Int8.ofInt 20).toInt32) ≤ x6 → Q (s.1 1) s) ∧ (¬ (((Int8.ofInt 20).toInt32) ≤ x6) → (((Int32.ofInt 4) ≤ x6 → ((((Int8.ofInt 8).toInt32) ≤ x6 → ((((Int8.ofInt 12).toInt32) ≤ x6 → ((((Int8.ofInt 16).toInt32) ≤ x6 → wr_feed_71 d x1 x2 x3 x4 x5 x6 x5 s Q) ∧ (¬ (((Int8.ofInt 16).toInt32) ≤ x6) → wr_feed_71 d x1 x2 x3 x4 x5 x6 x4 s Q))) ∧ (¬ (((Int8.ofInt 12).toInt32) ≤ x6) → wr_feed_71 d x1 x2 x3 x4 x5 x6 x3 s Q))) ∧ (¬ (((Int8.ofInt 8).toInt32) ≤ x6) → wr_feed_71 d x1 x2 x3 x4 x5 x6 x2 s Q))) ∧ (¬ ((Int32.ofInt 4) ≤ x6) → wr_feed_71 d x1 x2 x3 x4 x5 x6 x1 s Q))))
set_option maxRecDepth 20000 in
theorem wr_feed_18_ok {d : Nat} {x1 : Int32} {x2 : Int32} {x3 : Int32} {x4 : Int32} {x5 : Int32} {x6 : Int32} {s : rf_S} {Q : Int32 → rf_S → Prop} (h : wr_feed_18 d x1 x2 x3 x4 x5 x6 s Q) : rf_R d 88 (18, [(0, .ref rf_o), (1, .int x1), (2, .int x2), (3, .int x3), (4, .int x4), (5, .int x5), (6, .int x6)], [], s) (rf_qI Q) := by
  unfold wr_feed_18 at h
  refine rf_R_wv rp_88 (rf_bk am_t88 10 3) 18 [(0, .ref rf_o), (1, .int x1), (2, .int x2), (3, .int x3), (4, .int x4), (5, .int x5), (6, .int x6)] [] s (by repeat (first | exact trivial | refine ⟨rfl, ?_⟩)) (by decide +kernel) ?_
  refine rf_R_if (b := am_cnd .ge x6 ((Int8.ofInt 20).toInt32)) (p := 115) (q := 25) (fun hb => ?_) (fun hb => ?_)
  · replace h := h.1 (of_decide_eq_true hb)
    refine rf_R_wv rp_88 (rf_bk am_t88 59 2) 115 [(0, .ref rf_o), (1, .int x1), (2, .int x2), (3, .int x3), (4, .int x4), (5, .int x5), (6, .int x6)] [] s (by repeat (first | exact trivial | refine ⟨rfl, ?_⟩)) (by decide +kernel) ?_
    exact rf_R_ret (pc := 119) (v := some (.int (s.1 1))) rp_88 rfl rfl rfl ⟨_, rfl, h⟩
  · replace h := h.2 (of_decide_eq_false hb)
    refine rf_R_wv rp_88 (rf_bk am_t88 13 3) 25 [(0, .ref rf_o), (1, .int x1), (2, .int x2), (3, .int x3), (4, .int x4), (5, .int x5), (6, .int x6)] [] s (by repeat (first | exact trivial | refine ⟨rfl, ?_⟩)) (by decide +kernel) ?_
    refine rf_R_if (b := am_cnd .ge x6 (Int32.ofInt 4)) (p := 35) (q := 31) (fun hb => ?_) (fun hb => ?_)
    · replace h := h.1 (of_decide_eq_true hb)
      refine rf_R_wv rp_88 (rf_bk am_t88 18 3) 35 [(0, .ref rf_o), (1, .int x1), (2, .int x2), (3, .int x3), (4, .int x4), (5, .int x5), (6, .int x6)] [] s (by repeat (first | exact trivial | refine ⟨rfl, ?_⟩)) (by decide +kernel) ?_
      refine rf_R_if (b := am_cnd .ge x6 ((Int8.ofInt 8).toInt32)) (p := 46) (q := 42) (fun hb => ?_) (fun hb => ?_)
      · replace h := h.1 (of_decide_eq_true hb)
        refine rf_R_wv rp_88 (rf_bk am_t88 23 3) 46 [(0, .ref rf_o), (1, .int x1), (2, .int x2), (3, .int x3), (4, .int x4), (5, .int x5), (6, .int x6)] [] s (by repeat (first | exact trivial | refine ⟨rfl, ?_⟩)) (by decide +kernel) ?_
        refine rf_R_if (b := am_cnd .ge x6 ((Int8.ofInt 12).toInt32)) (p := 57) (q := 53) (fun hb => ?_) (fun hb => ?_)
        · replace h := h.1 (of_decide_eq_true hb)
          refine rf_R_wv rp_88 (rf_bk am_t88 28 3) 57 [(0, .ref rf_o), (1, .int x1), (2, .int x2), (3, .int x3), (4, .int x4), (5, .int x5), (6, .int x6)] [] s (by repeat (first | exact trivial | refine ⟨rfl, ?_⟩)) (by decide +kernel) ?_
          refine rf_R_if (b := am_cnd .ge x6 ((Int8.ofInt 16).toInt32)) (p := 69) (q := 64) (fun hb => ?_) (fun hb => ?_)
          · replace h := h.1 (of_decide_eq_true hb)
            refine rf_R_wv rp_88 (rf_bk am_t88 33 1) 69 [(0, .ref rf_o), (1, .int x1), (2, .int x2), (3, .int x3), (4, .int x4), (5, .int x5), (6, .int x6)] [] s (by repeat (first | exact trivial | refine ⟨rfl, ?_⟩)) (by decide +kernel) ?_
            exact rf_R_le (l := [(0, .ref rf_o), (1, .int x1), (2, .int x2), (3, .int x3), (4, .int x4), (5, .int x5), (6, .int x6)]) rfl rfl (⟨rfl, rfl, rfl, rfl, rfl, rfl, rfl, trivial⟩) (wr_feed_71_ok h)
          · replace h := h.2 (of_decide_eq_false hb)
            refine rf_R_wv rp_88 (rf_bk am_t88 31 2) 64 [(0, .ref rf_o), (1, .int x1), (2, .int x2), (3, .int x3), (4, .int x4), (5, .int x5), (6, .int x6)] [] s (by repeat (first | exact trivial | refine ⟨rfl, ?_⟩)) (by decide +kernel) ?_
            exact rf_R_le (l := [(0, .ref rf_o), (1, .int x1), (2, .int x2), (3, .int x3), (4, .int x4), (5, .int x5), (6, .int x6)]) rfl rfl (⟨rfl, rfl, rfl, rfl, rfl, rfl, rfl, trivial⟩) (wr_feed_71_ok h)
        · replace h := h.2 (of_decide_eq_false hb)
          refine rf_R_wv rp_88 (rf_bk am_t88 26 2) 53 [(0, .ref rf_o), (1, .int x1), (2, .int x2), (3, .int x3), (4, .int x4), (5, .int x5), (6, .int x6)] [] s (by repeat (first | exact trivial | refine ⟨rfl, ?_⟩)) (by decide +kernel) ?_
          exact rf_R_le (l := [(0, .ref rf_o), (1, .int x1), (2, .int x2), (3, .int x3), (4, .int x4), (5, .int x5), (6, .int x6)]) rfl rfl (⟨rfl, rfl, rfl, rfl, rfl, rfl, rfl, trivial⟩) (wr_feed_71_ok h)
      · replace h := h.2 (of_decide_eq_false hb)
        refine rf_R_wv rp_88 (rf_bk am_t88 21 2) 42 [(0, .ref rf_o), (1, .int x1), (2, .int x2), (3, .int x3), (4, .int x4), (5, .int x5), (6, .int x6)] [] s (by repeat (first | exact trivial | refine ⟨rfl, ?_⟩)) (by decide +kernel) ?_
        exact rf_R_le (l := [(0, .ref rf_o), (1, .int x1), (2, .int x2), (3, .int x3), (4, .int x4), (5, .int x5), (6, .int x6)]) rfl rfl (⟨rfl, rfl, rfl, rfl, rfl, rfl, rfl, trivial⟩) (wr_feed_71_ok h)
    · replace h := h.2 (of_decide_eq_false hb)
      refine rf_R_wv rp_88 (rf_bk am_t88 16 2) 31 [(0, .ref rf_o), (1, .int x1), (2, .int x2), (3, .int x3), (4, .int x4), (5, .int x5), (6, .int x6)] [] s (by repeat (first | exact trivial | refine ⟨rfl, ?_⟩)) (by decide +kernel) ?_
      exact rf_R_le (l := [(0, .ref rf_o), (1, .int x1), (2, .int x2), (3, .int x3), (4, .int x4), (5, .int x5), (6, .int x6)]) rfl rfl (⟨rfl, rfl, rfl, rfl, rfl, rfl, rfl, trivial⟩) (wr_feed_71_ok h)
/-- feed (IIIII)I, from 0 on -/
def wr_feed (d : Nat) (x1 : Int32) (x2 : Int32) (x3 : Int32) (x4 : Int32) (x5 : Int32) (s : rf_S) (Q : Int32 → rf_S → Prop) : Prop := ((((s.1 1) + ((Int8.ofInt 20).toInt32)) ≤ ((Int16.ofInt 2000).toInt32) → rf_R d 88 (18, [(0, .ref rf_o), (1, .int x1), (2, .int x2), (3, .int x3), (4, .int x4), (5, .int x5), (6, .int (Int32.ofInt 0))], [], s) (rf_qI Q)) ∧ (¬ (((s.1 1) + ((Int8.ofInt 20).toInt32)) ≤ ((Int16.ofInt 2000).toInt32)) → Q (Int32.ofInt (-1)) s))
set_option maxRecDepth 20000 in
theorem wr_feed_ok {d : Nat} {x1 : Int32} {x2 : Int32} {x3 : Int32} {x4 : Int32} {x5 : Int32} {s : rf_S} {Q : Int32 → rf_S → Prop} (h : wr_feed d x1 x2 x3 x4 x5 s Q) : rf_I d 88 [(0, .ref rf_o), (1, .int x1), (2, .int x2), (3, .int x3), (4, .int x4), (5, .int x5)] s Q := by
  unfold wr_feed at h
  unfold rf_I
  refine rf_R_wv rp_88 (rf_bk am_t88 0 6) 0 [(0, .ref rf_o), (1, .int x1), (2, .int x2), (3, .int x3), (4, .int x4), (5, .int x5)] [] s (by repeat (first | exact trivial | refine ⟨rfl, ?_⟩)) (by decide +kernel) ?_
  refine rf_R_if (b := am_cnd .le ((s.1 1) + ((Int8.ofInt 20).toInt32)) ((Int16.ofInt 2000).toInt32)) (p := 15) (q := 13) (fun hb => ?_) (fun hb => ?_)
  · replace h := h.1 (of_decide_eq_true hb)
    refine rf_R_wv rp_88 (rf_bk am_t88 8 2) 15 [(0, .ref rf_o), (1, .int x1), (2, .int x2), (3, .int x3), (4, .int x4), (5, .int x5)] [] s (by repeat (first | exact trivial | refine ⟨rfl, ?_⟩)) (by decide +kernel) ?_
    exact rf_R_le (l := [(0, .ref rf_o), (1, .int x1), (2, .int x2), (3, .int x3), (4, .int x4), (5, .int x5), (6, .int (Int32.ofInt 0))]) rfl rfl (⟨rfl, rfl, rfl, rfl, rfl, rfl, rfl, trivial⟩) h
  · replace h := h.2 (of_decide_eq_false hb)
    refine rf_R_wv rp_88 (rf_bk am_t88 6 1) 13 [(0, .ref rf_o), (1, .int x1), (2, .int x2), (3, .int x3), (4, .int x4), (5, .int x5)] [] s (by repeat (first | exact trivial | refine ⟨rfl, ?_⟩)) (by decide +kernel) ?_
    exact rf_R_ret (pc := 14) (v := some (.int (Int32.ofInt (-1)))) rp_88 rfl rfl rfl ⟨_, rfl, h⟩
/-- end (I)I, from 0 on -/
def wr_end (d : Nat) (x1 : Int32) (s : rf_S) (Q : Int32 → rf_S → Prop) : Prop := rf_I d 3 [(0, .int x1), (1, .int (Int32.ofInt 0)), (2, .int (s.1 1))] s (fun r1 s1 => ((¬ r1 = 0 → Q x1 (rf_si s1 1 x1)) ∧ (r1 = 0 → Q (Int32.ofInt (-1)) s1)))
set_option maxRecDepth 20000 in
theorem wr_end_ok {d : Nat} {x1 : Int32} {s : rf_S} {Q : Int32 → rf_S → Prop} (h : wr_end d x1 s Q) : rf_I (d + 1) 89 [(0, .ref rf_o), (1, .int x1)] s Q := by
  unfold wr_end at h
  unfold rf_I
  refine rf_R_wv rp_89 (rf_bk am_t89 0 4) 0 [(0, .ref rf_o), (1, .int x1)] [] s (by repeat (first | exact trivial | refine ⟨rfl, ?_⟩)) (by decide +kernel) ?_
  refine rf_R_call (pc := 6) (q := ([.int x1, .int (Int32.ofInt 0), .int (s.1 1)], [])) rp_89 rfl rfl (by decide) rp_3 rfl (Nat.le_of_ble_eq_true rfl) ⟨rfl, Nat.le_of_ble_eq_true rfl⟩ h (fun v s1 h => ?_)
  obtain ⟨r1, rfl, h⟩ := h
  refine rf_R_wv rp_89 (rf_bk am_t89 5 1) 9 [(0, .ref rf_o), (1, .int x1)] [.int r1] s1 (by repeat (first | exact trivial | refine ⟨rfl, ?_⟩)) (by decide +kernel) ?_
  refine rf_R_if (b := am_cnd .ne r1 0) (p := 14) (q := 12) (fun hb => ?_) (fun hb => ?_)
  · replace h := h.1 (of_decide_eq_true hb)
    refine rf_R_wv rp_89 (rf_bk am_t89 8 3) 14 [(0, .ref rf_o), (1, .int x1)] [] s1 (by repeat (first | exact trivial | refine ⟨rfl, ?_⟩)) (by decide +kernel) ?_
    refine And.intro rfl ?_
    refine rf_R_wv rp_89 (rf_bk am_t89 11 1) 19 [(0, .ref rf_o), (1, .int x1)] [] (rf_si s1 1 x1) (by repeat (first | exact trivial | refine ⟨rfl, ?_⟩)) (by decide +kernel) ?_
    exact rf_R_ret (pc := 20) (v := some (.int x1)) rp_89 rfl rfl rfl ⟨_, rfl, h⟩
  · replace h := h.2 (Decidable.not_not.mp (of_decide_eq_false hb))
    refine rf_R_wv rp_89 (rf_bk am_t89 6 1) 12 [(0, .ref rf_o), (1, .int x1)] [] s1 (by repeat (first | exact trivial | refine ⟨rfl, ?_⟩)) (by decide +kernel) ?_
    exact rf_R_ret (pc := 13) (v := some (.int (Int32.ofInt (-1)))) rp_89 rfl rfl rfl ⟨_, rfl, h⟩
/-- heap (I)I, from 0 on -/
def wr_heap (d : Nat) (x1 : Int32) (s : rf_S) (Q : Int32 → rf_S → Prop) : Prop := rf_I d 3 [(0, .int x1), (1, .int ((Int8.ofInt 10).toInt32)), (2, .int ((Int16.ofInt 20000).toInt32))] s (fun r1 s1 => ((¬ r1 = 0 → Q (Int32.ofInt 1) (rf_si s1 59 x1)) ∧ (r1 = 0 → Q (Int32.ofInt (-1)) s1)))
set_option maxRecDepth 20000 in
theorem wr_heap_ok {d : Nat} {x1 : Int32} {s : rf_S} {Q : Int32 → rf_S → Prop} (h : wr_heap d x1 s Q) : rf_I (d + 1) 90 [(0, .ref rf_o), (1, .int x1)] s Q := by
  unfold wr_heap at h
  unfold rf_I
  refine rf_R_wv rp_90 (rf_bk am_t90 0 3) 0 [(0, .ref rf_o), (1, .int x1)] [] s (by repeat (first | exact trivial | refine ⟨rfl, ?_⟩)) (by decide +kernel) ?_
  refine rf_R_call (pc := 6) (q := ([.int x1, .int ((Int8.ofInt 10).toInt32), .int ((Int16.ofInt 20000).toInt32)], [])) rp_90 rfl rfl (by decide) rp_3 rfl (Nat.le_of_ble_eq_true rfl) ⟨rfl, Nat.le_of_ble_eq_true rfl⟩ h (fun v s1 h => ?_)
  obtain ⟨r1, rfl, h⟩ := h
  refine rf_R_wv rp_90 (rf_bk am_t90 4 1) 9 [(0, .ref rf_o), (1, .int x1)] [.int r1] s1 (by repeat (first | exact trivial | refine ⟨rfl, ?_⟩)) (by decide +kernel) ?_
  refine rf_R_if (b := am_cnd .ne r1 0) (p := 14) (q := 12) (fun hb => ?_) (fun hb => ?_)
  · replace h := h.1 (of_decide_eq_true hb)
    refine rf_R_wv rp_90 (rf_bk am_t90 7 3) 14 [(0, .ref rf_o), (1, .int x1)] [] s1 (by repeat (first | exact trivial | refine ⟨rfl, ?_⟩)) (by decide +kernel) ?_
    refine And.intro rfl ?_
    refine rf_R_wv rp_90 (rf_bk am_t90 10 1) 19 [(0, .ref rf_o), (1, .int x1)] [] (rf_si s1 59 x1) (by repeat (first | exact trivial | refine ⟨rfl, ?_⟩)) (by decide +kernel) ?_
    exact rf_R_ret (pc := 20) (v := some (.int (Int32.ofInt 1))) rp_90 rfl rfl rfl ⟨_, rfl, h⟩
  · replace h := h.2 (Decidable.not_not.mp (of_decide_eq_false hb))
    refine rf_R_wv rp_90 (rf_bk am_t90 5 1) 12 [(0, .ref rf_o), (1, .int x1)] [] s1 (by repeat (first | exact trivial | refine ⟨rfl, ?_⟩)) (by decide +kernel) ?_
    exact rf_R_ret (pc := 13) (v := some (.int (Int32.ofInt (-1)))) rp_90 rfl rfl rfl ⟨_, rfl, h⟩
/-- start ()I, from 44 on -/
def wr_start_44 (d : Nat) (x1 : Int32) (s : rf_S) (Q : Int32 → rf_S → Prop) : Prop := (((s.1 41) ≤ x1 → (rf_in (Int32.ofInt 0) 1601 ∧ rf_V d 53 [(0, .ref rf_o), (1, .int (Int32.ofInt 5)), (2, .int (Int32.ofInt 0)), (3, .int (Int32.ofInt 0)), (4, .int (Int32.ofInt 0))] (rf_si (rf_si (rf_si (rf_si (rf_si (rf_sb (rf_si s 65 (Int32.ofInt 0)) 70 (Int32.ofInt 0).toNatClampNeg (Int32.ofInt 0)) 72 (Int32.ofInt 0)) 75 (Int32.ofInt 0)) 79 (Int32.ofInt 0)) 80 (Int32.ofInt 0)) 82 (Int32.ofInt 0)) (fun s1 => rf_V d 55 [(0, .ref rf_o)] s1 (fun s2 => rf_J d 44 [(0, .int (Int32.ofInt 2)), (1, .int (s2.1 47))] s2 (fun r3 s3 => Q (Int32.ofInt 1) (rf_si (rf_sj s3 77 r3) 74 (Int32.ofInt 1))))))) ∧ (¬ ((s.1 41) ≤ x1) → (rf_in x1 700 ∧ rf_R (d + 1) 91 (44, [(0, .ref rf_o), (1, .int (x1 + Int32.ofInt 1))], [], (rf_sb s 63 x1.toNatClampNeg (Int32.ofInt 0))) (rf_qI Q))))
set_option maxRecDepth 20000 in
theorem wr_start_44_ok {d : Nat} {x1 : Int32} {s : rf_S} {Q : Int32 → rf_S → Prop} (h : wr_start_44 d x1 s Q) : rf_R (d + 1) 91 (44, [(0, .ref rf_o), (1, .int x1)], [], s) (rf_qI Q) := by
  unfold wr_start_44 at h
  refine rf_R_wv rp_91 (rf_bk am_t91 26 4) 44 [(0, .ref rf_o), (1, .int x1)] [] s (by repeat (first | exact trivial | refine ⟨rfl, ?_⟩)) (by decide +kernel) ?_
  refine rf_R_if (b := am_cnd .ge x1 (s.1 41)) (p := 65) (q := 52) (fun hb => ?_) (fun hb => ?_)
  · replace h := h.1 (of_decide_eq_true hb)
    refine rf_R_wv rp_91 (rf_bk am_t91 37 3) 65 [(0, .ref rf_o), (1, .int x1)] [] s (by repeat (first | exact trivial | refine ⟨rfl, ?_⟩)) (by decide +kernel) ?_
    refine And.intro rfl ?_
    refine rf_R_wv rp_91 (rf_bk am_t91 40 5) 70 [(0, .ref rf_o), (1, .int x1)] [] (rf_si s 65 (Int32.ofInt 0)) (by repeat (first | exact trivial | refine ⟨rfl, ?_⟩)) (by decide +kernel) ?_
    refine And.intro h.1 ?_
    replace h := h.2
    refine rf_R_wv rp_91 (rf_bk am_t91 45 3) 77 [(0, .ref rf_o), (1, .int x1)] [] (rf_sb (rf_si s 65 (Int32.ofInt 0)) 70 (Int32.ofInt 0).toNatClampNeg (Int32.ofInt 0)) (by repeat (first | exact trivial | refine ⟨rfl, ?_⟩)) (by decide +kernel) ?_
    refine And.intro rfl ?_
    refine rf_R_wv rp_91 (rf_bk am_t91 48 3) 82 [(0, .ref rf_o), (1, .int x1)] [] (rf_si (rf_sb (rf_si s 65 (Int32.ofInt 0)) 70 (Int32.ofInt 0).toNatClampNeg (Int32.ofInt 0)) 72 (Int32.ofInt 0)) (by repeat (first | exact trivial | refine ⟨rfl, ?_⟩)) (by decide +kernel) ?_
    refine And.intro rfl ?_
    refine rf_R_wv rp_91 (rf_bk am_t91 51 3) 87 [(0, .ref rf_o), (1, .int x1)] [] (rf_si (rf_si (rf_sb (rf_si s 65 (Int32.ofInt 0)) 70 (Int32.ofInt 0).toNatClampNeg (Int32.ofInt 0)) 72 (Int32.ofInt 0)) 75 (Int32.ofInt 0)) (by repeat (first | exact trivial | refine ⟨rfl, ?_⟩)) (by decide +kernel) ?_
    refine And.intro rfl ?_
    refine rf_R_wv rp_91 (rf_bk am_t91 54 3) 92 [(0, .ref rf_o), (1, .int x1)] [] (rf_si (rf_si (rf_si (rf_sb (rf_si s 65 (Int32.ofInt 0)) 70 (Int32.ofInt 0).toNatClampNeg (Int32.ofInt 0)) 72 (Int32.ofInt 0)) 75 (Int32.ofInt 0)) 79 (Int32.ofInt 0)) (by repeat (first | exact trivial | refine ⟨rfl, ?_⟩)) (by decide +kernel) ?_
    refine And.intro rfl ?_
    refine rf_R_wv rp_91 (rf_bk am_t91 57 3) 97 [(0, .ref rf_o), (1, .int x1)] [] (rf_si (rf_si (rf_si (rf_si (rf_sb (rf_si s 65 (Int32.ofInt 0)) 70 (Int32.ofInt 0).toNatClampNeg (Int32.ofInt 0)) 72 (Int32.ofInt 0)) 75 (Int32.ofInt 0)) 79 (Int32.ofInt 0)) 80 (Int32.ofInt 0)) (by repeat (first | exact trivial | refine ⟨rfl, ?_⟩)) (by decide +kernel) ?_
    refine And.intro rfl ?_
    refine rf_R_wv rp_91 (rf_bk am_t91 60 5) 102 [(0, .ref rf_o), (1, .int x1)] [] (rf_si (rf_si (rf_si (rf_si (rf_si (rf_sb (rf_si s 65 (Int32.ofInt 0)) 70 (Int32.ofInt 0).toNatClampNeg (Int32.ofInt 0)) 72 (Int32.ofInt 0)) 75 (Int32.ofInt 0)) 79 (Int32.ofInt 0)) 80 (Int32.ofInt 0)) 82 (Int32.ofInt 0)) (by repeat (first | exact trivial | refine ⟨rfl, ?_⟩)) (by decide +kernel) ?_
    refine rf_R_call (pc := 107) (q := ([.ref rf_o, .int (Int32.ofInt 5), .int (Int32.ofInt 0), .int (Int32.ofInt 0), .int (Int32.ofInt 0)], [])) rp_91 rfl rfl (by decide) rp_53 rfl (Nat.le_of_ble_eq_true rfl) ⟨rfl, Nat.le_of_ble_eq_true rfl⟩ h (fun v s1 h => ?_)
    obtain ⟨rfl, h⟩ := h
    refine rf_R_wv rp_91 (rf_bk am_t91 66 1) 110 [(0, .ref rf_o), (1, .int x1)] [] s1 (by repeat (first | exact trivial | refine ⟨rfl, ?_⟩)) (by decide +kernel) ?_
    refine rf_R_call (pc := 111) (q := ([.ref rf_o], [])) rp_91 rfl rfl (by decide) rp_55 rfl (Nat.le_of_ble_eq_true rfl) ⟨rfl, Nat.le_of_ble_eq_true rfl⟩ h (fun v s2 h => ?_)
    obtain ⟨rfl, h⟩ := h
    refine rf_R_wv rp_91 (rf_bk am_t91 68 4) 114 [(0, .ref rf_o), (1, .int x1)] [] s2 (by repeat (first | exact trivial | refine ⟨rfl, ?_⟩)) (by decide +kernel) ?_
    refine rf_R_call (pc := 120) (q := ([.int (Int32.ofInt 2), .int (s2.1 47)], [.ref rf_o])) rp_91 rfl rfl (by decide) rp_44 rfl (Nat.le_of_ble_eq_true rfl) ⟨rfl, Nat.le_of_ble_eq_true rfl⟩ h (fun v s3 h => ?_)
    obtain ⟨r3, rfl, h⟩ := h
    refine rf_R_wv rp_91 (rf_bk am_t91 73 1) 123 [(0, .ref rf_o), (1, .int x1)] [.long r3, .ref rf_o] s3 (by repeat (first | exact trivial | refine ⟨rfl, ?_⟩)) (by decide +kernel) ?_
    refine And.intro rfl ?_
    refine rf_R_wv rp_91 (rf_bk am_t91 74 3) 126 [(0, .ref rf_o), (1, .int x1)] [] (rf_sj s3 77 r3) (by repeat (first | exact trivial | refine ⟨rfl, ?_⟩)) (by decide +kernel) ?_
    refine And.intro rfl ?_
    refine rf_R_wv rp_91 (rf_bk am_t91 77 1) 131 [(0, .ref rf_o), (1, .int x1)] [] (rf_si (rf_sj s3 77 r3) 74 (Int32.ofInt 1)) (by repeat (first | exact trivial | refine ⟨rfl, ?_⟩)) (by decide +kernel) ?_
    exact rf_R_ret (pc := 132) (v := some (.int (Int32.ofInt 1))) rp_91 rfl rfl rfl ⟨_, rfl, h⟩
  · replace h := h.2 (of_decide_eq_false hb)
    refine rf_R_wv rp_91 (rf_bk am_t91 30 5) 52 [(0, .ref rf_o), (1, .int x1)] [] s (by repeat (first | exact trivial | refine ⟨rfl, ?_⟩)) (by decide +kernel) ?_
    refine And.intro h.1 ?_
    replace h := h.2
    refine rf_R_wv rp_91 (rf_bk am_t91 35 2) 59 [(0, .ref rf_o), (1, .int x1)] [] (rf_sb s 63 x1.toNatClampNeg (Int32.ofInt 0)) (by repeat (first | exact trivial | refine ⟨rfl, ?_⟩)) (by decide +kernel) ?_
    exact rf_R_le (l := [(0, .ref rf_o), (1, .int (x1 + Int32.ofInt 1))]) rfl rfl (⟨rfl, rfl, trivial⟩) h
/-- start ()I, from 0 on -/
def wr_start (d : Nat) (s : rf_S) (Q : Int32 → rf_S → Prop) : Prop := ((¬ (s.1 40) = 0 → rf_R (d + 1) 91 (44, [(0, .ref rf_o), (1, .int (Int32.ofInt 0))], [], (rf_si (rf_si (rf_si (rf_si (rf_si (rf_si s 73 (Int32.ofInt 1)) 60 (s.1 59)) 48 (Int32.ofInt 0)) 57 (Int32.ofInt 0)) 61 (Int32.ofInt 0)) 62 (Int32.ofInt 0))) (rf_qI Q)) ∧ ((s.1 40) = 0 → Q (Int32.ofInt 0) s))
set_option maxRecDepth 20000 in
theorem wr_start_ok {d : Nat} {s : rf_S} {Q : Int32 → rf_S → Prop} (h : wr_start d s Q) : rf_I (d + 1) 91 [(0, .ref rf_o)] s Q := by
  unfold wr_start at h
  unfold rf_I
  refine rf_R_wv rp_91 (rf_bk am_t91 0 3) 0 [(0, .ref rf_o)] [] s (by repeat (first | exact trivial | refine ⟨rfl, ?_⟩)) (by decide +kernel) ?_
  refine rf_R_if (b := am_cnd .ne (s.1 40) 0) (p := 9) (q := 7) (fun hb => ?_) (fun hb => ?_)
  · replace h := h.1 (of_decide_eq_true hb)
    refine rf_R_wv rp_91 (rf_bk am_t91 5 3) 9 [(0, .ref rf_o)] [] s (by repeat (first | exact trivial | refine ⟨rfl, ?_⟩)) (by decide +kernel) ?_
    refine And.intro rfl ?_
    refine rf_R_wv rp_91 (rf_bk am_t91 8 4) 14 [(0, .ref rf_o)] [] (rf_si s 73 (Int32.ofInt 1)) (by repeat (first | exact trivial | refine ⟨rfl, ?_⟩)) (by decide +kernel) ?_
    refine And.intro rfl ?_
    refine rf_R_wv rp_91 (rf_bk am_t91 12 3) 22 [(0, .ref rf_o)] [] (rf_si (rf_si s 73 (Int32.ofInt 1)) 60 (s.1 59)) (by repeat (first | exact trivial | refine ⟨rfl, ?_⟩)) (by decide +kernel) ?_
    refine And.intro rfl ?_
    refine rf_R_wv rp_91 (rf_bk am_t91 15 3) 27 [(0, .ref rf_o)] [] (rf_si (rf_si (rf_si s 73 (Int32.ofInt 1)) 60 (s.1 59)) 48 (Int32.ofInt 0)) (by repeat (first | exact trivial | refine ⟨rfl, ?_⟩)) (by decide +kernel) ?_
    refine And.intro rfl ?_
    refine rf_R_wv rp_91 (rf_bk am_t91 18 3) 32 [(0, .ref rf_o)] [] (rf_si (rf_si (rf_si (rf_si s 73 (Int32.ofInt 1)) 60 (s.1 59)) 48 (Int32.ofInt 0)) 57 (Int32.ofInt 0)) (by repeat (first | exact trivial | refine ⟨rfl, ?_⟩)) (by decide +kernel) ?_
    refine And.intro rfl ?_
    refine rf_R_wv rp_91 (rf_bk am_t91 21 3) 37 [(0, .ref rf_o)] [] (rf_si (rf_si (rf_si (rf_si (rf_si s 73 (Int32.ofInt 1)) 60 (s.1 59)) 48 (Int32.ofInt 0)) 57 (Int32.ofInt 0)) 61 (Int32.ofInt 0)) (by repeat (first | exact trivial | refine ⟨rfl, ?_⟩)) (by decide +kernel) ?_
    refine And.intro rfl ?_
    refine rf_R_wv rp_91 (rf_bk am_t91 24 2) 42 [(0, .ref rf_o)] [] (rf_si (rf_si (rf_si (rf_si (rf_si (rf_si s 73 (Int32.ofInt 1)) 60 (s.1 59)) 48 (Int32.ofInt 0)) 57 (Int32.ofInt 0)) 61 (Int32.ofInt 0)) 62 (Int32.ofInt 0)) (by repeat (first | exact trivial | refine ⟨rfl, ?_⟩)) (by decide +kernel) ?_
    exact rf_R_le (l := [(0, .ref rf_o), (1, .int (Int32.ofInt 0))]) rfl rfl (⟨rfl, rfl, trivial⟩) h
  · replace h := h.2 (Decidable.not_not.mp (of_decide_eq_false hb))
    refine rf_R_wv rp_91 (rf_bk am_t91 3 1) 7 [(0, .ref rf_o)] [] s (by repeat (first | exact trivial | refine ⟨rfl, ?_⟩)) (by decide +kernel) ?_
    exact rf_R_ret (pc := 8) (v := some (.int (Int32.ofInt 0))) rp_91 rfl rfl rfl ⟨_, rfl, h⟩
/-- step (I)I, from 84 on -/
def wr_step_84 (d : Nat) (s : rf_S) (Q : Int32 → rf_S → Prop) : Prop := (((s.1 75) ≤ 0 → ((¬ (s.1 74) = (Int32.ofInt 3) → Q (Int32.ofInt 0) s) ∧ ((s.1 74) = (Int32.ofInt 3) → Q (Int32.ofInt 1) s))) ∧ (¬ ((s.1 75) ≤ 0) → Q (((Int8.ofInt 10).toInt32) + (s.1 75)) s))
set_option maxRecDepth 20000 in
theorem wr_step_84_ok {d : Nat} {s : rf_S} {Q : Int32 → rf_S → Prop} (h : wr_step_84 d s Q) : rf_R (d + 1) 92 (84, [(0, .ref rf_o)], [], s) (rf_qI Q) := by
  unfold wr_step_84 at h
  refine rf_R_wv rp_92 (rf_bk am_t92 42 3) 84 [(0, .ref rf_o)] [] s (by repeat (first | exact trivial | refine ⟨rfl, ?_⟩)) (by decide +kernel) ?_
  refine rf_R_if (b := am_cnd .le (s.1 75) 0) (p := 101) (q := 91) (fun hb => ?_) (fun hb => ?_)
  · replace h := h.1 (of_decide_eq_true hb)
    refine rf_R_wv rp_92 (rf_bk am_t92 50 4) 101 [(0, .ref rf_o)] [] s (by repeat (first | exact trivial | refine ⟨rfl, ?_⟩)) (by decide +kernel) ?_
    refine rf_R_if (b := am_cnd .ne (s.1 74) (Int32.ofInt 3)) (p := 113) (q := 109) (fun hb => ?_) (fun hb => ?_)
    · replace h := h.1 (of_decide_eq_true hb)
      refine rf_R_wv rp_92 (rf_bk am_t92 56 1) 113 [(0, .ref rf_o)] [] s (by repeat (first | exact trivial | refine ⟨rfl, ?_⟩)) (by decide +kernel) ?_
      exact rf_R_ret (pc := 114) (v := some (.int (Int32.ofInt 0))) rp_92 rfl rfl rfl ⟨_, rfl, h⟩
    · replace h := h.2 (Decidable.not_not.mp (of_decide_eq_false hb))
      refine rf_R_wv rp_92 (rf_bk am_t92 54 2) 109 [(0, .ref rf_o)] [] s (by repeat (first | exact trivial | refine ⟨rfl, ?_⟩)) (by decide +kernel) ?_
      exact rf_R_ret (pc := 114) (v := some (.int (Int32.ofInt 1))) rp_92 rfl rfl rfl ⟨_, rfl, h⟩
  · replace h := h.2 (of_decide_eq_false hb)
    refine rf_R_wv rp_92 (rf_bk am_t92 45 5) 91 [(0, .ref rf_o)] [] s (by repeat (first | exact trivial | refine ⟨rfl, ?_⟩)) (by decide +kernel) ?_
    exact rf_R_ret (pc := 114) (v := some (.int (((Int8.ofInt 10).toInt32) + (s.1 75)))) rp_92 rfl rfl rfl ⟨_, rfl, h⟩
/-- step (I)I, from 78 on -/
def wr_step_78 (d : Nat) (x1 : Int32) (x2 : Int32) (s : rf_S) (Q : Int32 → rf_S → Prop) : Prop := rf_R (d + 1) 92 (22, [(0, .ref rf_o), (1, .int x1), (2, .int (x2 + Int32.ofInt 1))], [], s) (rf_qI Q)
set_option maxRecDepth 20000 in
theorem wr_step_78_ok {d : Nat} {x1 : Int32} {x2 : Int32} {s : rf_S} {Q : Int32 → rf_S → Prop} (h : wr_step_78 d x1 x2 s Q) : rf_R (d + 1) 92 (78, [(0, .ref rf_o), (1, .int x1), (2, .int x2)], [], s) (rf_qI Q) := by
  unfold wr_step_78 at h
  refine rf_R_wv rp_92 (rf_bk am_t92 40 2) 78 [(0, .ref rf_o), (1, .int x1), (2, .int x2)] [] s (by repeat (first | exact trivial | refine ⟨rfl, ?_⟩)) (by decide +kernel) ?_
  exact rf_R_le (l := [(0, .ref rf_o), (1, .int x1), (2, .int (x2 + Int32.ofInt 1))]) rfl rfl (⟨rfl, rfl, rfl, trivial⟩) h
/-- step (I)I, from 22 on -/
def wr_step_22 (d : Nat) (x1 : Int32) (x2 : Int32) (s : rf_S) (Q : Int32 → rf_S → Prop) : Prop := ((x1 ≤ x2 → wr_step_84 d s Q) ∧ (¬ (x1 ≤ x2) → (((s.1 74) = (Int32.ofInt 3) → wr_step_84 d s Q) ∧ (¬ ((s.1 74) = (Int32.ofInt 3)) → ((¬ (s.1 74) = 0 → ((¬ (s.1 74) = (Int32.ofInt 1) → rf_V d 87 [(0, .ref rf_o)] (rf_si s 79 ((s.1 79) + (Int32.ofInt 1))) (fun s1 => wr_step_78 d x1 x2 s1 Q)) ∧ ((s.1 74) = (Int32.ofInt 1) → rf_V d 74 [(0, .ref rf_o)] (rf_si s 79 ((s.1 79) + (Int32.ofInt 1))) (fun s2 => wr_step_78 d x1 x2 s2 Q)))) ∧ ((s.1 74) = 0 → rf_V d 73 [(0, .ref rf_o)] (rf_si s 79 ((s.1 79) + (Int32.ofInt 1))) (fun s3 => wr_step_78 d x1 x2 s3 Q)))))))
set_option maxRecDepth 20000 in
theorem wr_step_22_ok {d : Nat} {x1 : Int32} {x2 : Int32} {s : rf_S} {Q : Int32 → rf_S → Prop} (h : wr_step_22 d x1 x2 s Q) : rf_R (d + 1) 92 (22, [(0, .ref rf_o), (1, .int x1), (2, .int x2)], [], s) (rf_qI Q) := by
  unfold wr_step_22 at h
  refine rf_R_wv rp_92 (rf_bk am_t92 12 3) 22 [(0, .ref rf_o), (1, .int x1), (2, .int x2)] [] s (by repeat (first | exact trivial | refine ⟨rfl, ?_⟩)) (by decide +kernel) ?_
  refine rf_R_if (b := am_cnd .ge x2 x1) (p := 84) (q := 27) (fun hb => ?_) (fun hb => ?_)
  · replace h := h.1 (of_decide_eq_true hb)
    exact rf_R_le (l := [(0, .ref rf_o)]) rfl rfl (⟨rfl, trivial⟩) (wr_step_84_ok h)
  · replace h := h.2 (of_decide_eq_false hb)
    refine rf_R_wv rp_92 (rf_bk am_t92 15 4) 27 [(0, .ref rf_o), (1, .int x1), (2, .int x2)] [] s (by repeat (first | exact trivial | refine ⟨rfl, ?_⟩)) (by decide +kernel) ?_
    refine rf_R_if (b := am_cnd .eq (s.1 74) (Int32.ofInt 3)) (p := 84) (q := 35) (fun hb => ?_) (fun hb => ?_)
    · replace h := h.1 (of_decide_eq_true hb)
      exact rf_R_le (l := [(0, .ref rf_o)]) rfl rfl (⟨rfl, trivial⟩) (wr_step_84_ok h)
    · replace h := h.2 (of_decide_eq_false hb)
      refine rf_R_wv rp_92 (rf_bk am_t92 19 6) 35 [(0, .ref rf_o), (1, .int x1), (2, .int x2)] [] s (by repeat (first | exact trivial | refine ⟨rfl, ?_⟩)) (by decide +kernel) ?_
      refine And.intro rfl ?_
      refine rf_R_wv rp_92 (rf_bk am_t92 25 3) 45 [(0, .ref rf_o), (1, .int x1), (2, .int x2)] [] (rf_si s 79 ((s.1 79) + (Int32.ofInt 1))) (by repeat (first | exact trivial | refine ⟨rfl, ?_⟩)) (by decide +kernel) ?_
      refine rf_R_if (b := am_cnd .ne (s.1 74) 0) (p := 59) (q := 52) (fun hb => ?_) (fun hb => ?_)
      · replace h := h.1 (of_decide_eq_true hb)
        refine rf_R_wv rp_92 (rf_bk am_t92 31 4) 59 [(0, .ref rf_o), (1, .int x1), (2, .int x2)] [] (rf_si s 79 ((s.1 79) + (Int32.ofInt 1))) (by repeat (first | exact trivial | refine ⟨rfl, ?_⟩)) (by decide +kernel) ?_
        refine rf_R_if (b := am_cnd .ne (s.1 74) (Int32.ofInt 1)) (p := 74) (q := 67) (fun hb => ?_) (fun hb => ?_)
        · replace h := h.1 (of_decide_eq_true hb)
          refine rf_R_wv rp_92 (rf_bk am_t92 38 1) 74 [(0, .ref rf_o), (1, .int x1), (2, .int x2)] [] (rf_si s 79 ((s.1 79) + (Int32.ofInt 1))) (by repeat (first | exact trivial | refine ⟨rfl, ?_⟩)) (by decide +kernel) ?_
          refine rf_R_call (pc := 75) (q := ([.ref rf_o], [])) rp_92 rfl rfl (by decide) rp_87 rfl (Nat.le_of_ble_eq_true rfl) ⟨rfl, Nat.le_of_ble_eq_true rfl⟩ h (fun v s1 h => ?_)
          obtain ⟨rfl, h⟩ := h
          exact rf_R_le (l := [(0, .ref rf_o), (1, .int x1), (2, .int x2)]) rfl rfl (⟨rfl, rfl, rfl, trivial⟩) (wr_step_78_ok h)
        · replace h := h.2 (Decidable.not_not.mp (of_decide_eq_false hb))
          refine rf_R_wv rp_92 (rf_bk am_t92 35 1) 67 [(0, .ref rf_o), (1, .int x1), (2, .int x2)] [] (rf_si s 79 ((s.1 79) + (Int32.ofInt 1))) (by repeat (first | exact trivial | refine ⟨rfl, ?_⟩)) (by decide +kernel) ?_
          refine rf_R_call (pc := 68) (q := ([.ref rf_o], [])) rp_92 rfl rfl (by decide) rp_74 rfl (Nat.le_of_ble_eq_true rfl) ⟨rfl, Nat.le_of_ble_eq_true rfl⟩ h (fun v s2 h => ?_)
          obtain ⟨rfl, h⟩ := h
          refine rf_R_wv rp_92 (rf_bk am_t92 37 1) 71 [(0, .ref rf_o), (1, .int x1), (2, .int x2)] [] s2 (by repeat (first | exact trivial | refine ⟨rfl, ?_⟩)) (by decide +kernel) ?_
          exact rf_R_le (l := [(0, .ref rf_o), (1, .int x1), (2, .int x2)]) rfl rfl (⟨rfl, rfl, rfl, trivial⟩) (wr_step_78_ok h)
      · replace h := h.2 (Decidable.not_not.mp (of_decide_eq_false hb))
        refine rf_R_wv rp_92 (rf_bk am_t92 28 1) 52 [(0, .ref rf_o), (1, .int x1), (2, .int x2)] [] (rf_si s 79 ((s.1 79) + (Int32.ofInt 1))) (by repeat (first | exact trivial | refine ⟨rfl, ?_⟩)) (by decide +kernel) ?_
        refine rf_R_call (pc := 53) (q := ([.ref rf_o], [])) rp_92 rfl rfl (by decide) rp_73 rfl (Nat.le_of_ble_eq_true rfl) ⟨rfl, Nat.le_of_ble_eq_true rfl⟩ h (fun v s3 h => ?_)
        obtain ⟨rfl, h⟩ := h
        refine rf_R_wv rp_92 (rf_bk am_t92 30 1) 56 [(0, .ref rf_o), (1, .int x1), (2, .int x2)] [] s3 (by repeat (first | exact trivial | refine ⟨rfl, ?_⟩)) (by decide +kernel) ?_
        exact rf_R_le (l := [(0, .ref rf_o), (1, .int x1), (2, .int x2)]) rfl rfl (⟨rfl, rfl, rfl, trivial⟩) (wr_step_78_ok h)
/-- step (I)I, from 0 on -/
def wr_step (d : Nat) (x1 : Int32) (s : rf_S) (Q : Int32 → rf_S → Prop) : Prop := (((s.1 73) = 0 → Q (Int32.ofInt (-1)) s) ∧ (¬ ((s.1 73) = 0) → rf_I d 3 [(0, .int x1), (1, .int (Int32.ofInt 0)), (2, .int ((Int16.ofInt 20000).toInt32))] s (fun r1 s1 => ((¬ r1 = 0 → rf_R (d + 1) 92 (22, [(0, .ref rf_o), (1, .int x1), (2, .int (Int32.ofInt 0))], [], s1) (rf_qI Q)) ∧ (r1 = 0 → Q (Int32.ofInt (-1)) s1)))))
set_option maxRecDepth 20000 in
theorem wr_step_ok {d : Nat} {x1 : Int32} {s : rf_S} {Q : Int32 → rf_S → Prop} (h : wr_step d x1 s Q) : rf_I (d + 1) 92 [(0, .ref rf_o), (1, .int x1)] s Q := by
  unfold wr_step at h
  unfold rf_I
  refine rf_R_wv rp_92 (rf_bk am_t92 0 3) 0 [(0, .ref rf_o), (1, .int x1)] [] s (by repeat (first | exact trivial | refine ⟨rfl, ?_⟩)) (by decide +kernel) ?_
  refine rf_R_if (b := am_cnd .eq (s.1 73) 0) (p := 18) (q := 7) (fun hb => ?_) (fun hb => ?_)
  · replace h := h.1 (of_decide_eq_true hb)
    refine rf_R_wv rp_92 (rf_bk am_t92 8 1) 18 [(0, .ref rf_o), (1, .int x1)] [] s (by repeat (first | exact trivial | refine ⟨rfl, ?_⟩)) (by decide +kernel) ?_
    exact rf_R_ret (pc := 19) (v := some (.int (Int32.ofInt (-1)))) rp_92 rfl rfl rfl ⟨_, rfl, h⟩
  · replace h := h.2 (of_decide_eq_false hb)
    refine rf_R_wv rp_92 (rf_bk am_t92 3 3) 7 [(0, .ref rf_o), (1, .int x1)] [] s (by repeat (first | exact trivial | refine ⟨rfl, ?_⟩)) (by decide +kernel) ?_
    refine rf_R_call (pc := 12) (q := ([.int x1, .int (Int32.ofInt 0), .int ((Int16.ofInt 20000).toInt32)], [])) rp_92 rfl rfl (by decide) rp_3 rfl (Nat.le_of_ble_eq_true rfl) ⟨rfl, Nat.le_of_ble_eq_true rfl⟩ h (fun v s1 h => ?_)
    obtain ⟨r1, rfl, h⟩ := h
    refine rf_R_wv rp_92 (rf_bk am_t92 7 1) 15 [(0, .ref rf_o), (1, .int x1)] [.int r1] s1 (by repeat (first | exact trivial | refine ⟨rfl, ?_⟩)) (by decide +kernel) ?_
    refine rf_R_if (b := am_cnd .ne r1 0) (p := 20) (q := 18) (fun hb => ?_) (fun hb => ?_)
    · replace h := h.1 (of_decide_eq_true hb)
      refine rf_R_wv rp_92 (rf_bk am_t92 10 2) 20 [(0, .ref rf_o), (1, .int x1)] [] s1 (by repeat (first | exact trivial | refine ⟨rfl, ?_⟩)) (by decide +kernel) ?_
      exact rf_R_le (l := [(0, .ref rf_o), (1, .int x1), (2, .int (Int32.ofInt 0))]) rfl rfl (⟨rfl, rfl, rfl, trivial⟩) h
    · replace h := h.2 (Decidable.not_not.mp (of_decide_eq_false hb))
      refine rf_R_wv rp_92 (rf_bk am_t92 8 1) 18 [(0, .ref rf_o), (1, .int x1)] [] s1 (by repeat (first | exact trivial | refine ⟨rfl, ?_⟩)) (by decide +kernel) ?_
      exact rf_R_ret (pc := 19) (v := some (.int (Int32.ofInt (-1)))) rp_92 rfl rfl rfl ⟨_, rfl, h⟩
/-- size ()I, from 0 on -/
def wr_size (d : Nat) (s : rf_S) (Q : Int32 → rf_S → Prop) : Prop := (((s.1 73) = 0 → Q (Int32.ofInt 0) s) ∧ (¬ ((s.1 73) = 0) → Q (s.1 82) s))
set_option maxRecDepth 20000 in
theorem wr_size_ok {d : Nat} {s : rf_S} {Q : Int32 → rf_S → Prop} (h : wr_size d s Q) : rf_I d 93 [(0, .ref rf_o)] s Q := by
  unfold wr_size at h
  unfold rf_I
  refine rf_R_wv rp_93 (rf_bk am_t93 0 3) 0 [(0, .ref rf_o)] [] s (by repeat (first | exact trivial | refine ⟨rfl, ?_⟩)) (by decide +kernel) ?_
  refine rf_R_if (b := am_cnd .eq (s.1 73) 0) (p := 14) (q := 7) (fun hb => ?_) (fun hb => ?_)
  · replace h := h.1 (of_decide_eq_true hb)
    refine rf_R_wv rp_93 (rf_bk am_t93 6 1) 14 [(0, .ref rf_o)] [] s (by repeat (first | exact trivial | refine ⟨rfl, ?_⟩)) (by decide +kernel) ?_
    exact rf_R_ret (pc := 15) (v := some (.int (Int32.ofInt 0))) rp_93 rfl rfl rfl ⟨_, rfl, h⟩
  · replace h := h.2 (of_decide_eq_false hb)
    refine rf_R_wv rp_93 (rf_bk am_t93 3 3) 7 [(0, .ref rf_o)] [] s (by repeat (first | exact trivial | refine ⟨rfl, ?_⟩)) (by decide +kernel) ?_
    exact rf_R_ret (pc := 15) (v := some (.int (s.1 82))) rp_93 rfl rfl rfl ⟨_, rfl, h⟩
/-- text (I)I, from 0 on -/
def wr_text (d : Nat) (x1 : Int32) (s : rf_S) (Q : Int32 → rf_S → Prop) : Prop := rf_I d 93 [(0, .ref rf_o)] s (fun r1 s1 => rf_I d 3 [(0, .int x1), (1, .int (Int32.ofInt 0)), (2, .int (r1 - (Int32.ofInt 1)))] s1 (fun r2 s2 => ((r2 = 0 → Q (Int32.ofInt (-1)) s2) ∧ (¬ (r2 = 0) → (rf_in x1 1500 ∧ Q (s2.2.2.1 81 x1.toNatClampNeg) s2)))))
set_option maxRecDepth 20000 in
theorem wr_text_ok {d : Nat} {x1 : Int32} {s : rf_S} {Q : Int32 → rf_S → Prop} (h : wr_text d x1 s Q) : rf_I (d + 1) 94 [(0, .ref rf_o), (1, .int x1)] s Q := by
  unfold wr_text at h
  unfold rf_I
  refine rf_R_wv rp_94 (rf_bk am_t94 0 3) 0 [(0, .ref rf_o), (1, .int x1)] [] s (by repeat (first | exact trivial | refine ⟨rfl, ?_⟩)) (by decide +kernel) ?_
  refine rf_R_call (pc := 3) (q := ([.ref rf_o], [.int (Int32.ofInt 0), .int x1])) rp_94 rfl rfl (by decide) rp_93 rfl (Nat.le_of_ble_eq_true rfl) ⟨rfl, Nat.le_of_ble_eq_true rfl⟩ h (fun v s1 h => ?_)
  obtain ⟨r1, rfl, h⟩ := h
  refine rf_R_wv rp_94 (rf_bk am_t94 4 2) 6 [(0, .ref rf_o), (1, .int x1)] [.int r1, .int (Int32.ofInt 0), .int x1] s1 (by repeat (first | exact trivial | refine ⟨rfl, ?_⟩)) (by decide +kernel) ?_
  refine rf_R_call (pc := 8) (q := ([.int x1, .int (Int32.ofInt 0), .int (r1 - (Int32.ofInt 1))], [])) rp_94 rfl rfl (by decide) rp_3 rfl (Nat.le_of_ble_eq_true rfl) ⟨rfl, Nat.le_of_ble_eq_true rfl⟩ h (fun v s2 h => ?_)
  obtain ⟨r2, rfl, h⟩ := h
  refine rf_R_wv rp_94 (rf_bk am_t94 7 1) 11 [(0, .ref rf_o), (1, .int x1)] [.int r2] s2 (by repeat (first | exact trivial | refine ⟨rfl, ?_⟩)) (by decide +kernel) ?_
  refine rf_R_if (b := am_cnd .eq r2 0) (p := 23) (q := 14) (fun hb => ?_) (fun hb => ?_)
  · replace h := h.1 (of_decide_eq_true hb)
    refine rf_R_wv rp_94 (rf_bk am_t94 13 1) 23 [(0, .ref rf_o), (1, .int x1)] [] s2 (by repeat (first | exact trivial | refine ⟨rfl, ?_⟩)) (by decide +kernel) ?_
    exact rf_R_ret (pc := 24) (v := some (.int (Int32.ofInt (-1)))) rp_94 rfl rfl rfl ⟨_, rfl, h⟩
  · replace h := h.2 (of_decide_eq_false hb)
    refine rf_R_wv rp_94 (rf_bk am_t94 8 5) 14 [(0, .ref rf_o), (1, .int x1)] [] s2 (by repeat (first | exact trivial | refine ⟨rfl, ?_⟩)) (by decide +kernel) ?_
    refine And.intro h.1 ?_
    replace h := h.2
    exact rf_R_ret (pc := 24) (v := some (.int (s2.2.2.1 81 x1.toNatClampNeg))) rp_94 rfl rfl rfl ⟨_, rfl, h⟩
/-- count (I)I, from 0 on -/
def wr_count (d : Nat) (x1 : Int32) (s : rf_S) (Q : Int32 → rf_S → Prop) : Prop := ((¬ x1 = ((Int8.ofInt 6).toInt32) → rf_I d 3 [(0, .int x1), (1, .int (Int32.ofInt 0)), (2, .int (Int32.ofInt 5))] s (fun r1 s1 => ((¬ r1 = 0 → ((¬ (s1.1 73) = 0 → ((x1 = 0 → Q (s1.1 79) s1) ∧ (¬ (x1 = 0) → ((x1 = 1 → Q (s1.1 62) s1) ∧ (¬ (x1 = 1) → ((x1 = 2 → rf_I d 47 [(0, .ref rf_o)] s1 (fun r2 s2 => Q r2 s2)) ∧ (¬ (x1 = 2) → ((x1 = 3 → Q (s1.1 72) s1) ∧ (¬ (x1 = 3) → ((x1 = 4 → Q (s1.1 65) s1) ∧ (¬ (x1 = 4) → Q (s1.1 80) s1))))))))))) ∧ ((s1.1 73) = 0 → Q (Int32.ofInt 0) s1))) ∧ (r1 = 0 → Q (Int32.ofInt (-1)) s1)))) ∧ (x1 = ((Int8.ofInt 6).toInt32) → Q (s.1 1) s))
set_option maxRecDepth 20000 in
theorem wr_count_ok {d : Nat} {x1 : Int32} {s : rf_S} {Q : Int32 → rf_S → Prop} (h : wr_count d x1 s Q) : rf_I (d + 1) 95 [(0, .ref rf_o), (1, .int x1)] s Q := by
  unfold wr_count at h
  unfold rf_I
  refine rf_R_wv rp_95 (rf_bk am_t95 0 3) 0 [(0, .ref rf_o), (1, .int x1)] [] s (by repeat (first | exact trivial | refine ⟨rfl, ?_⟩)) (by decide +kernel) ?_
  refine rf_R_if (b := am_cnd .ne x1 ((Int8.ofInt 6).toInt32)) (p := 11) (q := 6) (fun hb => ?_) (fun hb => ?_)
  · replace h := h.1 (of_decide_eq_true hb)
    refine rf_R_wv rp_95 (rf_bk am_t95 6 3) 11 [(0, .ref rf_o), (1, .int x1)] [] s (by repeat (first | exact trivial | refine ⟨rfl, ?_⟩)) (by decide +kernel) ?_
    refine rf_R_call (pc := 14) (q := ([.int x1, .int (Int32.ofInt 0), .int (Int32.ofInt 5)], [])) rp_95 rfl rfl (by decide) rp_3 rfl (Nat.le_of_ble_eq_true rfl) ⟨rfl, Nat.le_of_ble_eq_true rfl⟩ h (fun v s1 h => ?_)
    obtain ⟨r1, rfl, h⟩ := h
    refine rf_R_wv rp_95 (rf_bk am_t95 10 1) 17 [(0, .ref rf_o), (1, .int x1)] [.int r1] s1 (by repeat (first | exact trivial | refine ⟨rfl, ?_⟩)) (by decide +kernel) ?_
    refine rf_R_if (b := am_cnd .ne r1 0) (p := 22) (q := 20) (fun hb => ?_) (fun hb => ?_)
    · replace h := h.1 (of_decide_eq_true hb)
      refine rf_R_wv rp_95 (rf_bk am_t95 13 3) 22 [(0, .ref rf_o), (1, .int x1)] [] s1 (by repeat (first | exact trivial | refine ⟨rfl, ?_⟩)) (by decide +kernel) ?_
      refine rf_R_if (b := am_cnd .ne (s1.1 73) 0) (p := 31) (q := 29) (fun hb => ?_) (fun hb => ?_)
      · replace h := h.1 (of_decide_eq_true hb)
        refine rf_R_wv rp_95 (rf_bk am_t95 18 2) 31 [(0, .ref rf_o), (1, .int x1)] [] s1 (by repeat (first | exact trivial | refine ⟨rfl, ?_⟩)) (by decide +kernel) ?_
        refine rf_R_sw (fun hb => ?_) (fun hb => ?_)
        · replace h := h.1 hb
          refine rf_R_wv rp_95 (rf_bk am_t95 20 2) 68 [(0, .ref rf_o), (1, .int x1)] [] s1 (by repeat (first | exact trivial | refine ⟨rfl, ?_⟩)) (by decide +kernel) ?_
          exact rf_R_ret (pc := 72) (v := some (.int (s1.1 79))) rp_95 rfl rfl rfl ⟨_, rfl, h⟩
        replace h := h.2 hb
        refine rf_R_sw (fun hb => ?_) (fun hb => ?_)
        · replace h := h.1 hb
          refine rf_R_wv rp_95 (rf_bk am_t95 23 2) 73 [(0, .ref rf_o), (1, .int x1)] [] s1 (by repeat (first | exact trivial | refine ⟨rfl, ?_⟩)) (by decide +kernel) ?_
          exact rf_R_ret (pc := 77) (v := some (.int (s1.1 62))) rp_95 rfl rfl rfl ⟨_, rfl, h⟩
        replace h := h.2 hb
        refine rf_R_sw (fun hb => ?_) (fun hb => ?_)
        · replace h := h.1 hb
          refine rf_R_wv rp_95 (rf_bk am_t95 26 1) 78 [(0, .ref rf_o), (1, .int x1)] [] s1 (by repeat (first | exact trivial | refine ⟨rfl, ?_⟩)) (by decide +kernel) ?_
          refine rf_R_call (pc := 79) (q := ([.ref rf_o], [])) rp_95 rfl rfl (by decide) rp_47 rfl (Nat.le_of_ble_eq_true rfl) ⟨rfl, Nat.le_of_ble_eq_true rfl⟩ h (fun v s2 h => ?_)
          obtain ⟨r2, rfl, h⟩ := h
          exact rf_R_ret (pc := 82) (v := some (.int r2)) rp_95 rfl rfl rfl ⟨_, rfl, h⟩
        replace h := h.2 hb
        refine rf_R_sw (fun hb => ?_) (fun hb => ?_)
        · replace h := h.1 hb
          refine rf_R_wv rp_95 (rf_bk am_t95 29 2) 83 [(0, .ref rf_o), (1, .int x1)] [] s1 (by repeat (first | exact trivial | refine ⟨rfl, ?_⟩)) (by decide +kernel) ?_
          exact rf_R_ret (pc := 87) (v := some (.int (s1.1 72))) rp_95 rfl rfl rfl ⟨_, rfl, h⟩
        replace h := h.2 hb
        refine rf_R_sw (fun hb => ?_) (fun hb => ?_)
        · replace h := h.1 hb
          refine rf_R_wv rp_95 (rf_bk am_t95 32 2) 88 [(0, .ref rf_o), (1, .int x1)] [] s1 (by repeat (first | exact trivial | refine ⟨rfl, ?_⟩)) (by decide +kernel) ?_
          exact rf_R_ret (pc := 92) (v := some (.int (s1.1 65))) rp_95 rfl rfl rfl ⟨_, rfl, h⟩
        replace h := h.2 hb
        show rf_R (d + 1) 95 (93, _, _, _) _
        refine rf_R_wv rp_95 (rf_bk am_t95 35 2) 93 [(0, .ref rf_o), (1, .int x1)] [] s1 (by repeat (first | exact trivial | refine ⟨rfl, ?_⟩)) (by decide +kernel) ?_
        exact rf_R_ret (pc := 97) (v := some (.int (s1.1 80))) rp_95 rfl rfl rfl ⟨_, rfl, h⟩
      · replace h := h.2 (Decidable.not_not.mp (of_decide_eq_false hb))
        refine rf_R_wv rp_95 (rf_bk am_t95 16 1) 29 [(0, .ref rf_o), (1, .int x1)] [] s1 (by repeat (first | exact trivial | refine ⟨rfl, ?_⟩)) (by decide +kernel) ?_
        exact rf_R_ret (pc := 30) (v := some (.int (Int32.ofInt 0))) rp_95 rfl rfl rfl ⟨_, rfl, h⟩
    · replace h := h.2 (Decidable.not_not.mp (of_decide_eq_false hb))
      refine rf_R_wv rp_95 (rf_bk am_t95 11 1) 20 [(0, .ref rf_o), (1, .int x1)] [] s1 (by repeat (first | exact trivial | refine ⟨rfl, ?_⟩)) (by decide +kernel) ?_
      exact rf_R_ret (pc := 21) (v := some (.int (Int32.ofInt (-1)))) rp_95 rfl rfl rfl ⟨_, rfl, h⟩
  · replace h := h.2 (Decidable.not_not.mp (of_decide_eq_false hb))
    refine rf_R_wv rp_95 (rf_bk am_t95 3 2) 6 [(0, .ref rf_o), (1, .int x1)] [] s (by repeat (first | exact trivial | refine ⟨rfl, ?_⟩)) (by decide +kernel) ?_
    exact rf_R_ret (pc := 10) (v := some (.int (s.1 1))) rp_95 rfl rfl rfl ⟨_, rfl, h⟩
