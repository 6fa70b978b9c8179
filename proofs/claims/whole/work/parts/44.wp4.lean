/-! PART 44: the reference, decompiled: freeMany, wordOf, isOf, reach, marked, moved, sweep, hasRoom, object, cellsOfFrame, push, lay, laid, layFree, pop, stops, may, isSimple, isPlainDatum -/
/-- freeMany (I)I, from 0 on -/
def wr_freeMany (d : Nat) (x1 : Int32) (s : rf_S) (Q : Int32 → rf_S → Prop) : Prop := (rf_in (x1 + (Int32.ofInt 1)) 2101 ∧ rf_in x1 2101 ∧ Q ((s.2.2.1 20 (x1 + (Int32.ofInt 1)).toNatClampNeg) - (s.2.2.1 20 x1.toNatClampNeg)) s)
set_option maxRecDepth 20000 in
theorem wr_freeMany_ok {d : Nat} {x1 : Int32} {s : rf_S} {Q : Int32 → rf_S → Prop} (h : wr_freeMany d x1 s Q) : rf_I d 43 [(0, .ref rf_o), (1, .int x1)] s Q := by
  unfold wr_freeMany at h
  unfold rf_I
  refine rf_R_wv rp_43 (rf_bk am_t43 0 11) 0 [(0, .ref rf_o), (1, .int x1)] [] s (by repeat (first | exact trivial | refine ⟨rfl, ?_⟩)) (by decide +kernel) ?_
  refine And.intro h.1 ?_
  replace h := h.2
  refine And.intro h.1 ?_
  replace h := h.2
  exact rf_R_ret (pc := 15) (v := some (.int ((s.2.2.1 20 (x1 + (Int32.ofInt 1)).toNatClampNeg) - (s.2.2.1 20 x1.toNatClampNeg)))) rp_43 rfl rfl rfl ⟨_, rfl, h⟩
/-- wordOf (II)J, from 0 on -/
def wr_wordOf (d : Nat) (x0 : Int32) (x1 : Int32) (s : rf_S) (Q : Int64 → rf_S → Prop) : Prop := Q (((x0.toInt64) <<< (((Int8.ofInt 32).toInt32).toInt64 &&& 63)) ||| ((x1.toInt64) &&& (Int64.ofNat 4294967295))) s
set_option maxRecDepth 20000 in
theorem wr_wordOf_ok {d : Nat} {x0 : Int32} {x1 : Int32} {s : rf_S} {Q : Int64 → rf_S → Prop} (h : wr_wordOf d x0 x1 s Q) : rf_J d 44 [(0, .int x0), (1, .int x1)] s Q := by
  unfold wr_wordOf at h
  unfold rf_J
  refine rf_R_wv rp_44 (rf_bk am_t44 0 9) 0 [(0, .int x0), (1, .int x1)] [] s (by repeat (first | exact trivial | refine ⟨rfl, ?_⟩)) (by decide +kernel) ?_
  exact rf_R_ret (pc := 12) (v := some (.long (((x0.toInt64) <<< (((Int8.ofInt 32).toInt32).toInt64 &&& 63)) ||| ((x1.toInt64) &&& (Int64.ofNat 4294967295))))) rp_44 rfl rfl rfl ⟨_, rfl, h⟩
/-- isOf (J)I, from 0 on -/
def wr_isOf (d : Nat) (x0 : Int64) (s : rf_S) (Q : Int32 → rf_S → Prop) : Prop := Q ((x0 >>> (((Int8.ofInt 32).toInt32).toInt64 &&& 63)).toInt32) s
set_option maxRecDepth 20000 in
theorem wr_isOf_ok {d : Nat} {x0 : Int64} {s : rf_S} {Q : Int32 → rf_S → Prop} (h : wr_isOf d x0 s Q) : rf_I d 45 [(0, .long x0)] s Q := by
  unfold wr_isOf at h
  unfold rf_I
  refine rf_R_wv rp_45 (rf_bk am_t45 0 4) 0 [(0, .long x0)] [] s (by repeat (first | exact trivial | refine ⟨rfl, ?_⟩)) (by decide +kernel) ?_
  exact rf_R_ret (pc := 5) (v := some (.int ((x0 >>> (((Int8.ofInt 32).toInt32).toInt64 &&& 63)).toInt32))) rp_45 rfl rfl rfl ⟨_, rfl, h⟩
/-- reach (J)V, from 0 on -/
def wr_reach (d : Nat) (x1 : Int64) (s : rf_S) (Q : rf_S → Prop) : Prop := rf_I d 45 [(0, .long x1)] s (fun r1 s1 => ((¬ r1 = (Int32.ofInt 3) → Q s1) ∧ (r1 = (Int32.ofInt 3) → (rf_in (x1.toInt32) 36000 ∧ (((s1.2.2.1 53 (x1.toInt32).toNatClampNeg) = 0 → (rf_in (x1.toInt32) 36000 ∧ (rf_in (s1.1 56) 36000 ∧ Q (rf_si (rf_sb (rf_sb s1 53 (x1.toInt32).toNatClampNeg (vp_nar .boolean (Int32.ofInt 1))) 55 (s1.1 56).toNatClampNeg (x1.toInt32)) 56 ((s1.1 56) + (Int32.ofInt 1)))))) ∧ (¬ ((s1.2.2.1 53 (x1.toInt32).toNatClampNeg) = 0) → Q s1))))))
set_option maxRecDepth 20000 in
theorem wr_reach_ok {d : Nat} {x1 : Int64} {s : rf_S} {Q : rf_S → Prop} (h : wr_reach d x1 s Q) : rf_V (d + 1) 46 [(0, .ref rf_o), (1, .long x1)] s Q := by
  unfold wr_reach at h
  unfold rf_V
  refine rf_R_wv rp_46 (rf_bk am_t46 0 1) 0 [(0, .ref rf_o), (1, .long x1)] [] s (by repeat (first | exact trivial | refine ⟨rfl, ?_⟩)) (by decide +kernel) ?_
  refine rf_R_call (pc := 1) (q := ([.long x1], [])) rp_46 rfl rfl (by decide) rp_45 rfl (Nat.le_of_ble_eq_true rfl) ⟨rfl, Nat.le_of_ble_eq_true rfl⟩ h (fun v s1 h => ?_)
  obtain ⟨r1, rfl, h⟩ := h
  refine rf_R_wv rp_46 (rf_bk am_t46 2 2) 4 [(0, .ref rf_o), (1, .long x1)] [.int r1] s1 (by repeat (first | exact trivial | refine ⟨rfl, ?_⟩)) (by decide +kernel) ?_
  refine rf_R_if (b := am_cnd .ne r1 (Int32.ofInt 3)) (p := 18) (q := 8) (fun hb => ?_) (fun hb => ?_)
  · replace h := h.1 (of_decide_eq_true hb)
    exact rf_R_ret (pc := 18) rp_46 rfl rfl rfl ⟨rfl, h⟩
  · replace h := h.2 (Decidable.not_not.mp (of_decide_eq_false hb))
    refine rf_R_wv rp_46 (rf_bk am_t46 4 6) 8 [(0, .ref rf_o), (1, .long x1)] [] s1 (by repeat (first | exact trivial | refine ⟨rfl, ?_⟩)) (by decide +kernel) ?_
    refine And.intro h.1 ?_
    replace h := h.2
    refine rf_R_if (b := am_cnd .eq (s1.2.2.1 53 (x1.toInt32).toNatClampNeg) 0) (p := 19) (q := 18) (fun hb => ?_) (fun hb => ?_)
    · replace h := h.1 (of_decide_eq_true hb)
      refine rf_R_wv rp_46 (rf_bk am_t46 11 6) 19 [(0, .ref rf_o), (1, .long x1)] [] s1 (by repeat (first | exact trivial | refine ⟨rfl, ?_⟩)) (by decide +kernel) ?_
      refine And.intro h.1 ?_
      replace h := h.2
      refine rf_R_wv rp_46 (rf_bk am_t46 17 7) 27 [(0, .ref rf_o), (1, .long x1)] [] (rf_sb s1 53 (x1.toInt32).toNatClampNeg (vp_nar .boolean (Int32.ofInt 1))) (by repeat (first | exact trivial | refine ⟨rfl, ?_⟩)) (by decide +kernel) ?_
      refine And.intro h.1 ?_
      replace h := h.2
      refine rf_R_wv rp_46 (rf_bk am_t46 24 6) 38 [(0, .ref rf_o), (1, .long x1)] [] (rf_sb (rf_sb s1 53 (x1.toInt32).toNatClampNeg (vp_nar .boolean (Int32.ofInt 1))) 55 (s1.1 56).toNatClampNeg (x1.toInt32)) (by repeat (first | exact trivial | refine ⟨rfl, ?_⟩)) (by decide +kernel) ?_
      refine And.intro rfl ?_
      exact rf_R_ret (pc := 48) rp_46 rfl rfl rfl ⟨rfl, h⟩
    · replace h := h.2 (of_decide_eq_false hb)
      exact rf_R_ret (pc := 18) rp_46 rfl rfl rfl ⟨rfl, h⟩
/-- marked ()I, from 248 on -/
def wr_marked_248 (d : Nat) (x1 : Int32) (x2 : Int32) (x3 : Int32) (s : rf_S) (Q : Int32 → rf_S → Prop) : Prop := (rf_in x2 36000 ∧ (((s.2.2.1 52 x2.toNatClampNeg) ≤ x3 → rf_R (d + 1) 47 (194, [(0, .ref rf_o), (1, .int x1)], [], s) (rf_qI Q)) ∧ (¬ ((s.2.2.1 52 x2.toNatClampNeg) ≤ x3) → (rf_in x2 36001 ∧ rf_in ((s.2.2.1 51 x2.toNatClampNeg) + x3) 47000 ∧ rf_V d 46 [(0, .ref rf_o), (1, .long (s.2.2.2 58 ((s.2.2.1 51 x2.toNatClampNeg) + x3).toNatClampNeg))] s (fun s1 => rf_R (d + 1) 47 (248, [(0, .ref rf_o), (1, .int x1), (2, .int x2), (3, .int (x3 + Int32.ofInt 1))], [], s1) (rf_qI Q))))))
set_option maxRecDepth 20000 in
theorem wr_marked_248_ok {d : Nat} {x1 : Int32} {x2 : Int32} {x3 : Int32} {s : rf_S} {Q : Int32 → rf_S → Prop} (h : wr_marked_248 d x1 x2 x3 s Q) : rf_R (d + 1) 47 (248, [(0, .ref rf_o), (1, .int x1), (2, .int x2), (3, .int x3)], [], s) (rf_qI Q) := by
  unfold wr_marked_248 at h
  refine rf_R_wv rp_47 (rf_bk am_t47 142 6) 248 [(0, .ref rf_o), (1, .int x1), (2, .int x2), (3, .int x3)] [] s (by repeat (first | exact trivial | refine ⟨rfl, ?_⟩)) (by decide +kernel) ?_
  refine And.intro h.1 ?_
  replace h := h.2
  refine rf_R_if (b := am_cnd .ge x3 (s.2.2.1 52 x2.toNatClampNeg)) (p := 281) (q := 258) (fun hb => ?_) (fun hb => ?_)
  · replace h := h.1 (of_decide_eq_true hb)
    refine rf_R_wv rp_47 (rf_bk am_t47 161 1) 281 [(0, .ref rf_o), (1, .int x1), (2, .int x2), (3, .int x3)] [] s (by repeat (first | exact trivial | refine ⟨rfl, ?_⟩)) (by decide +kernel) ?_
    exact rf_R_le (l := [(0, .ref rf_o), (1, .int x1)]) rfl rfl (⟨rfl, rfl, trivial⟩) h
  · replace h := h.2 (of_decide_eq_false hb)
    refine rf_R_wv rp_47 (rf_bk am_t47 148 10) 258 [(0, .ref rf_o), (1, .int x1), (2, .int x2), (3, .int x3)] [] s (by repeat (first | exact trivial | refine ⟨rfl, ?_⟩)) (by decide +kernel) ?_
    refine And.intro h.1 ?_
    replace h := h.2
    refine And.intro h.1 ?_
    replace h := h.2
    refine rf_R_call (pc := 272) (q := ([.ref rf_o, .long (s.2.2.2 58 ((s.2.2.1 51 x2.toNatClampNeg) + x3).toNatClampNeg)], [])) rp_47 rfl rfl (by decide) rp_46 rfl (Nat.le_of_ble_eq_true rfl) ⟨rfl, Nat.le_of_ble_eq_true rfl⟩ h (fun v s1 h => ?_)
    obtain ⟨rfl, h⟩ := h
    refine rf_R_wv rp_47 (rf_bk am_t47 159 2) 275 [(0, .ref rf_o), (1, .int x1), (2, .int x2), (3, .int x3)] [] s1 (by repeat (first | exact trivial | refine ⟨rfl, ?_⟩)) (by decide +kernel) ?_
    exact rf_R_le (l := [(0, .ref rf_o), (1, .int x1), (2, .int x2), (3, .int (x3 + Int32.ofInt 1))]) rfl rfl (⟨rfl, rfl, rfl, rfl, trivial⟩) h
/-- marked ()I, from 244 on -/
def wr_marked_244 (d : Nat) (x2 : Int32) (y0 : Int32) (y1 : Int32) (s : rf_S) (Q : Int32 → rf_S → Prop) : Prop := rf_R (d + 1) 47 (248, [(0, .ref rf_o), (1, .int (y1 + y0)), (2, .int x2), (3, .int (Int32.ofInt 0))], [], s) (rf_qI Q)
set_option maxRecDepth 20000 in
theorem wr_marked_244_ok {d : Nat} {x2 : Int32} {y0 : Int32} {y1 : Int32} {s : rf_S} {Q : Int32 → rf_S → Prop} (h : wr_marked_244 d x2 y0 y1 s Q) : rf_R (d + 1) 47 (244, [(0, .ref rf_o), (2, .int x2)], [.int y0, .int y1], s) (rf_qI Q) := by
  unfold wr_marked_244 at h
  refine rf_R_wv rp_47 (rf_bk am_t47 138 4) 244 [(0, .ref rf_o), (2, .int x2)] [.int y0, .int y1] s (by repeat (first | exact trivial | refine ⟨rfl, ?_⟩)) (by decide +kernel) ?_
  exact rf_R_le (l := [(0, .ref rf_o), (1, .int (y1 + y0)), (2, .int x2), (3, .int (Int32.ofInt 0))]) rfl rfl (⟨rfl, rfl, rfl, rfl, trivial⟩) h
/-- marked ()I, from 194 on -/
def wr_marked_194 (d : Nat) (x1 : Int32) (s : rf_S) (Q : Int32 → rf_S → Prop) : Prop := (((s.1 56) ≤ 0 → Q x1 s) ∧ (¬ ((s.1 56) ≤ 0) → (rf_in ((s.1 56) - (Int32.ofInt 1)) 36000 ∧ rf_in (s.2.2.1 55 ((s.1 56) - (Int32.ofInt 1)).toNatClampNeg) 36000 ∧ ((¬ (s.2.2.1 49 (s.2.2.1 55 ((s.1 56) - (Int32.ofInt 1)).toNatClampNeg).toNatClampNeg) = (Int32.ofInt 2) → (rf_in (s.2.2.1 55 ((s.1 56) - (Int32.ofInt 1)).toNatClampNeg) 36000 ∧ wr_marked_244 d (s.2.2.1 55 ((s.1 56) - (Int32.ofInt 1)).toNatClampNeg) ((Int32.ofInt 2) + (s.2.2.1 52 (s.2.2.1 55 ((s.1 56) - (Int32.ofInt 1)).toNatClampNeg).toNatClampNeg)) x1 (rf_si s 56 ((s.1 56) - (Int32.ofInt 1))) Q)) ∧ ((s.2.2.1 49 (s.2.2.1 55 ((s.1 56) - (Int32.ofInt 1)).toNatClampNeg).toNatClampNeg) = (Int32.ofInt 2) → wr_marked_244 d (s.2.2.1 55 ((s.1 56) - (Int32.ofInt 1)).toNatClampNeg) (Int32.ofInt 0) x1 (rf_si s 56 ((s.1 56) - (Int32.ofInt 1))) Q)))))
set_option maxRecDepth 20000 in
theorem wr_marked_194_ok {d : Nat} {x1 : Int32} {s : rf_S} {Q : Int32 → rf_S → Prop} (h : wr_marked_194 d x1 s Q) : rf_R (d + 1) 47 (194, [(0, .ref rf_o), (1, .int x1)], [], s) (rf_qI Q) := by
  unfold wr_marked_194 at h
  refine rf_R_wv rp_47 (rf_bk am_t47 108 3) 194 [(0, .ref rf_o), (1, .int x1)] [] s (by repeat (first | exact trivial | refine ⟨rfl, ?_⟩)) (by decide +kernel) ?_
  refine rf_R_if (b := am_cnd .le (s.1 56) 0) (p := 284) (q := 201) (fun hb => ?_) (fun hb => ?_)
  · replace h := h.1 (of_decide_eq_true hb)
    refine rf_R_wv rp_47 (rf_bk am_t47 162 1) 284 [(0, .ref rf_o), (1, .int x1)] [] s (by repeat (first | exact trivial | refine ⟨rfl, ?_⟩)) (by decide +kernel) ?_
    exact rf_R_ret (pc := 285) (v := some (.int x1)) rp_47 rfl rfl rfl ⟨_, rfl, h⟩
  · replace h := h.2 (of_decide_eq_false hb)
    refine rf_R_wv rp_47 (rf_bk am_t47 111 6) 201 [(0, .ref rf_o), (1, .int x1)] [] s (by repeat (first | exact trivial | refine ⟨rfl, ?_⟩)) (by decide +kernel) ?_
    refine And.intro rfl ?_
    refine rf_R_wv rp_47 (rf_bk am_t47 117 13) 211 [(0, .ref rf_o), (1, .int x1)] [] (rf_si s 56 ((s.1 56) - (Int32.ofInt 1))) (by repeat (first | exact trivial | refine ⟨rfl, ?_⟩)) (by decide +kernel) ?_
    refine And.intro h.1 ?_
    replace h := h.2
    refine And.intro h.1 ?_
    replace h := h.2
    refine rf_R_if (b := am_cnd .ne (s.2.2.1 49 (s.2.2.1 55 ((s.1 56) - (Int32.ofInt 1)).toNatClampNeg).toNatClampNeg) (Int32.ofInt 2)) (p := 236) (q := 232) (fun hb => ?_) (fun hb => ?_)
    · replace h := h.1 (of_decide_eq_true hb)
      refine rf_R_wv rp_47 (rf_bk am_t47 132 6) 236 [(2, .int (s.2.2.1 55 ((s.1 56) - (Int32.ofInt 1)).toNatClampNeg)), (0, .ref rf_o), (1, .int x1)] [.int x1] (rf_si s 56 ((s.1 56) - (Int32.ofInt 1))) (by repeat (first | exact trivial | refine ⟨rfl, ?_⟩)) (by decide +kernel) ?_
      refine And.intro h.1 ?_
      replace h := h.2
      exact rf_R_le (l := [(0, .ref rf_o), (2, .int (s.2.2.1 55 ((s.1 56) - (Int32.ofInt 1)).toNatClampNeg))]) rfl rfl (⟨rfl, rfl, trivial⟩) (wr_marked_244_ok h)
    · replace h := h.2 (Decidable.not_not.mp (of_decide_eq_false hb))
      refine rf_R_wv rp_47 (rf_bk am_t47 130 2) 232 [(2, .int (s.2.2.1 55 ((s.1 56) - (Int32.ofInt 1)).toNatClampNeg)), (0, .ref rf_o), (1, .int x1)] [.int x1] (rf_si s 56 ((s.1 56) - (Int32.ofInt 1))) (by repeat (first | exact trivial | refine ⟨rfl, ?_⟩)) (by decide +kernel) ?_
      exact rf_R_le (l := [(0, .ref rf_o), (2, .int (s.2.2.1 55 ((s.1 56) - (Int32.ofInt 1)).toNatClampNeg))]) rfl rfl (⟨rfl, rfl, trivial⟩) (wr_marked_244_ok h)
/-- marked ()I, from 186 on -/
def wr_marked_186 (d : Nat) (x1 : Int32) (s : rf_S) (Q : Int32 → rf_S → Prop) : Prop := rf_R (d + 1) 47 (158, [(0, .ref rf_o), (1, .int (x1 + Int32.ofInt 1))], [], s) (rf_qI Q)
set_option maxRecDepth 20000 in
theorem wr_marked_186_ok {d : Nat} {x1 : Int32} {s : rf_S} {Q : Int32 → rf_S → Prop} (h : wr_marked_186 d x1 s Q) : rf_R (d + 1) 47 (186, [(0, .ref rf_o), (1, .int x1)], [], s) (rf_qI Q) := by
  unfold wr_marked_186 at h
  refine rf_R_wv rp_47 (rf_bk am_t47 104 2) 186 [(0, .ref rf_o), (1, .int x1)] [] s (by repeat (first | exact trivial | refine ⟨rfl, ?_⟩)) (by decide +kernel) ?_
  exact rf_R_le (l := [(0, .ref rf_o), (1, .int (x1 + Int32.ofInt 1))]) rfl rfl (⟨rfl, rfl, trivial⟩) h
/-- marked ()I, from 158 on -/
def wr_marked_158 (d : Nat) (x1 : Int32) (s : rf_S) (Q : Int32 → rf_S → Prop) : Prop := (((s.1 41) ≤ x1 → rf_R (d + 1) 47 (194, [(0, .ref rf_o), (1, .int (Int32.ofInt 0))], [], s) (rf_qI Q)) ∧ (¬ ((s.1 41) ≤ x1) → (rf_in x1 700 ∧ ((¬ (s.2.2.1 63 x1.toNatClampNeg) = (Int32.ofInt 2) → wr_marked_186 d x1 s Q) ∧ ((s.2.2.1 63 x1.toNatClampNeg) = (Int32.ofInt 2) → (rf_in x1 700 ∧ rf_V d 46 [(0, .ref rf_o), (1, .long (s.2.2.2 64 x1.toNatClampNeg))] s (fun s1 => wr_marked_186 d x1 s1 Q)))))))
set_option maxRecDepth 20000 in
theorem wr_marked_158_ok {d : Nat} {x1 : Int32} {s : rf_S} {Q : Int32 → rf_S → Prop} (h : wr_marked_158 d x1 s Q) : rf_R (d + 1) 47 (158, [(0, .ref rf_o), (1, .int x1)], [], s) (rf_qI Q) := by
  unfold wr_marked_158 at h
  refine rf_R_wv rp_47 (rf_bk am_t47 88 4) 158 [(0, .ref rf_o), (1, .int x1)] [] s (by repeat (first | exact trivial | refine ⟨rfl, ?_⟩)) (by decide +kernel) ?_
  refine rf_R_if (b := am_cnd .ge x1 (s.1 41)) (p := 192) (q := 166) (fun hb => ?_) (fun hb => ?_)
  · replace h := h.1 (of_decide_eq_true hb)
    refine rf_R_wv rp_47 (rf_bk am_t47 106 2) 192 [(0, .ref rf_o), (1, .int x1)] [] s (by repeat (first | exact trivial | refine ⟨rfl, ?_⟩)) (by decide +kernel) ?_
    exact rf_R_le (l := [(0, .ref rf_o), (1, .int (Int32.ofInt 0))]) rfl rfl (⟨rfl, rfl, trivial⟩) h
  · replace h := h.2 (of_decide_eq_false hb)
    refine rf_R_wv rp_47 (rf_bk am_t47 92 6) 166 [(0, .ref rf_o), (1, .int x1)] [] s (by repeat (first | exact trivial | refine ⟨rfl, ?_⟩)) (by decide +kernel) ?_
    refine And.intro h.1 ?_
    replace h := h.2
    refine rf_R_if (b := am_cnd .ne (s.2.2.1 63 x1.toNatClampNeg) (Int32.ofInt 2)) (p := 186) (q := 176) (fun hb => ?_) (fun hb => ?_)
    · replace h := h.1 (of_decide_eq_true hb)
      exact rf_R_le (l := [(0, .ref rf_o), (1, .int x1)]) rfl rfl (⟨rfl, rfl, trivial⟩) (wr_marked_186_ok h)
    · replace h := h.2 (Decidable.not_not.mp (of_decide_eq_false hb))
      refine rf_R_wv rp_47 (rf_bk am_t47 98 5) 176 [(0, .ref rf_o), (1, .int x1)] [] s (by repeat (first | exact trivial | refine ⟨rfl, ?_⟩)) (by decide +kernel) ?_
      refine And.intro h.1 ?_
      replace h := h.2
      refine rf_R_call (pc := 183) (q := ([.ref rf_o, .long (s.2.2.2 64 x1.toNatClampNeg)], [])) rp_47 rfl rfl (by decide) rp_46 rfl (Nat.le_of_ble_eq_true rfl) ⟨rfl, Nat.le_of_ble_eq_true rfl⟩ h (fun v s1 h => ?_)
      obtain ⟨rfl, h⟩ := h
      exact rf_R_le (l := [(0, .ref rf_o), (1, .int x1)]) rfl rfl (⟨rfl, rfl, trivial⟩) (wr_marked_186_ok h)
/-- marked ()I, from 156 on -/
def wr_marked_156 (d : Nat) (s : rf_S) (Q : Int32 → rf_S → Prop) : Prop := rf_R (d + 1) 47 (158, [(0, .ref rf_o), (1, .int (Int32.ofInt 0))], [], s) (rf_qI Q)
set_option maxRecDepth 20000 in
theorem wr_marked_156_ok {d : Nat} {s : rf_S} {Q : Int32 → rf_S → Prop} (h : wr_marked_156 d s Q) : rf_R (d + 1) 47 (156, [(0, .ref rf_o)], [], s) (rf_qI Q) := by
  unfold wr_marked_156 at h
  refine rf_R_wv rp_47 (rf_bk am_t47 86 2) 156 [(0, .ref rf_o)] [] s (by repeat (first | exact trivial | refine ⟨rfl, ?_⟩)) (by decide +kernel) ?_
  exact rf_R_le (l := [(0, .ref rf_o), (1, .int (Int32.ofInt 0))]) rfl rfl (⟨rfl, rfl, trivial⟩) h
/-- marked ()I, from 148 on -/
def wr_marked_148 (d : Nat) (s : rf_S) (Q : Int32 → rf_S → Prop) : Prop := rf_V d 46 [(0, .ref rf_o), (1, .long (s.2.1 77))] s (fun s1 => wr_marked_156 d s1 Q)
set_option maxRecDepth 20000 in
theorem wr_marked_148_ok {d : Nat} {s : rf_S} {Q : Int32 → rf_S → Prop} (h : wr_marked_148 d s Q) : rf_R (d + 1) 47 (148, [(0, .ref rf_o)], [], s) (rf_qI Q) := by
  unfold wr_marked_148 at h
  refine rf_R_wv rp_47 (rf_bk am_t47 82 3) 148 [(0, .ref rf_o)] [] s (by repeat (first | exact trivial | refine ⟨rfl, ?_⟩)) (by decide +kernel) ?_
  refine rf_R_call (pc := 153) (q := ([.ref rf_o, .long (s.2.1 77)], [])) rp_47 rfl rfl (by decide) rp_46 rfl (Nat.le_of_ble_eq_true rfl) ⟨rfl, Nat.le_of_ble_eq_true rfl⟩ h (fun v s1 h => ?_)
  obtain ⟨rfl, h⟩ := h
  exact rf_R_le (l := [(0, .ref rf_o)]) rfl rfl (⟨rfl, trivial⟩) (wr_marked_156_ok h)
/-- marked ()I, from 132 on -/
def wr_marked_132 (d : Nat) (s : rf_S) (Q : Int32 → rf_S → Prop) : Prop := (((s.1 74) = (Int32.ofInt 1) → wr_marked_148 d s Q) ∧ (¬ ((s.1 74) = (Int32.ofInt 1)) → ((¬ (s.1 74) = (Int32.ofInt 2) → wr_marked_156 d s Q) ∧ ((s.1 74) = (Int32.ofInt 2) → wr_marked_148 d s Q))))
set_option maxRecDepth 20000 in
theorem wr_marked_132_ok {d : Nat} {s : rf_S} {Q : Int32 → rf_S → Prop} (h : wr_marked_132 d s Q) : rf_R (d + 1) 47 (132, [(0, .ref rf_o)], [], s) (rf_qI Q) := by
  unfold wr_marked_132 at h
  refine rf_R_wv rp_47 (rf_bk am_t47 74 4) 132 [(0, .ref rf_o)] [] s (by repeat (first | exact trivial | refine ⟨rfl, ?_⟩)) (by decide +kernel) ?_
  refine rf_R_if (b := am_cnd .eq (s.1 74) (Int32.ofInt 1)) (p := 148) (q := 140) (fun hb => ?_) (fun hb => ?_)
  · replace h := h.1 (of_decide_eq_true hb)
    exact rf_R_le (l := [(0, .ref rf_o)]) rfl rfl (⟨rfl, trivial⟩) (wr_marked_148_ok h)
  · replace h := h.2 (of_decide_eq_false hb)
    refine rf_R_wv rp_47 (rf_bk am_t47 78 4) 140 [(0, .ref rf_o)] [] s (by repeat (first | exact trivial | refine ⟨rfl, ?_⟩)) (by decide +kernel) ?_
    refine rf_R_if (b := am_cnd .ne (s.1 74) (Int32.ofInt 2)) (p := 156) (q := 148) (fun hb => ?_) (fun hb => ?_)
    · replace h := h.1 (of_decide_eq_true hb)
      exact rf_R_le (l := [(0, .ref rf_o)]) rfl rfl (⟨rfl, trivial⟩) (wr_marked_156_ok h)
    · replace h := h.2 (Decidable.not_not.mp (of_decide_eq_false hb))
      exact rf_R_le (l := [(0, .ref rf_o)]) rfl rfl (⟨rfl, trivial⟩) (wr_marked_148_ok h)
/-- marked ()I, from 96 on -/
def wr_marked_96 (d : Nat) (x1 : Int32) (s : rf_S) (Q : Int32 → rf_S → Prop) : Prop := (rf_in ((s.1 76) + (Int32.ofInt 1)) 2101 ∧ (((s.2.2.1 20 ((s.1 76) + (Int32.ofInt 1)).toNatClampNeg) ≤ x1 → wr_marked_132 d s Q) ∧ (¬ ((s.2.2.1 20 ((s.1 76) + (Int32.ofInt 1)).toNatClampNeg) ≤ x1) → (rf_in x1 131072 ∧ rf_in (s.2.2.1 21 x1.toNatClampNeg) 1100 ∧ rf_V d 46 [(0, .ref rf_o), (1, .long (s.2.2.2 78 (s.2.2.1 21 x1.toNatClampNeg).toNatClampNeg))] s (fun s1 => rf_R (d + 1) 47 (96, [(0, .ref rf_o), (1, .int (x1 + Int32.ofInt 1))], [], s1) (rf_qI Q))))))
set_option maxRecDepth 20000 in
theorem wr_marked_96_ok {d : Nat} {x1 : Int32} {s : rf_S} {Q : Int32 → rf_S → Prop} (h : wr_marked_96 d x1 s Q) : rf_R (d + 1) 47 (96, [(0, .ref rf_o), (1, .int x1)], [], s) (rf_qI Q) := by
  unfold wr_marked_96 at h
  refine rf_R_wv rp_47 (rf_bk am_t47 54 9) 96 [(0, .ref rf_o), (1, .int x1)] [] s (by repeat (first | exact trivial | refine ⟨rfl, ?_⟩)) (by decide +kernel) ?_
  refine And.intro h.1 ?_
  replace h := h.2
  refine rf_R_if (b := am_cnd .ge x1 (s.2.2.1 20 ((s.1 76) + (Int32.ofInt 1)).toNatClampNeg)) (p := 132) (q := 111) (fun hb => ?_) (fun hb => ?_)
  · replace h := h.1 (of_decide_eq_true hb)
    exact rf_R_le (l := [(0, .ref rf_o)]) rfl rfl (⟨rfl, trivial⟩) (wr_marked_132_ok h)
  · replace h := h.2 (of_decide_eq_false hb)
    refine rf_R_wv rp_47 (rf_bk am_t47 63 8) 111 [(0, .ref rf_o), (1, .int x1)] [] s (by repeat (first | exact trivial | refine ⟨rfl, ?_⟩)) (by decide +kernel) ?_
    refine And.intro h.1 ?_
    replace h := h.2
    refine And.intro h.1 ?_
    replace h := h.2
    refine rf_R_call (pc := 123) (q := ([.ref rf_o, .long (s.2.2.2 78 (s.2.2.1 21 x1.toNatClampNeg).toNatClampNeg)], [])) rp_47 rfl rfl (by decide) rp_46 rfl (Nat.le_of_ble_eq_true rfl) ⟨rfl, Nat.le_of_ble_eq_true rfl⟩ h (fun v s1 h => ?_)
    obtain ⟨rfl, h⟩ := h
    refine rf_R_wv rp_47 (rf_bk am_t47 72 2) 126 [(0, .ref rf_o), (1, .int x1)] [] s1 (by repeat (first | exact trivial | refine ⟨rfl, ?_⟩)) (by decide +kernel) ?_
    exact rf_R_le (l := [(0, .ref rf_o), (1, .int (x1 + Int32.ofInt 1))]) rfl rfl (⟨rfl, rfl, trivial⟩) h
/-- marked ()I, from 45 on -/
def wr_marked_45 (d : Nat) (x1 : Int32) (x2 : Int32) (s : rf_S) (Q : Int32 → rf_S → Prop) : Prop := (rf_in (x1 + (Int32.ofInt 1)) 1601 ∧ (((s.2.2.1 70 (x1 + (Int32.ofInt 1)).toNatClampNeg) ≤ x2 → rf_R (d + 1) 47 (30, [(0, .ref rf_o), (1, .int (x1 + Int32.ofInt 1))], [], s) (rf_qI Q)) ∧ (¬ ((s.2.2.1 70 (x1 + (Int32.ofInt 1)).toNatClampNeg) ≤ x2) → (rf_in x2 6000 ∧ rf_V d 46 [(0, .ref rf_o), (1, .long (s.2.2.2 71 x2.toNatClampNeg))] s (fun s1 => rf_R (d + 1) 47 (45, [(0, .ref rf_o), (1, .int x1), (2, .int (x2 + Int32.ofInt 1))], [], s1) (rf_qI Q))))))
set_option maxRecDepth 20000 in
theorem wr_marked_45_ok {d : Nat} {x1 : Int32} {x2 : Int32} {s : rf_S} {Q : Int32 → rf_S → Prop} (h : wr_marked_45 d x1 x2 s Q) : rf_R (d + 1) 47 (45, [(0, .ref rf_o), (1, .int x1), (2, .int x2)], [], s) (rf_qI Q) := by
  unfold wr_marked_45 at h
  refine rf_R_wv rp_47 (rf_bk am_t47 27 8) 45 [(0, .ref rf_o), (1, .int x1), (2, .int x2)] [] s (by repeat (first | exact trivial | refine ⟨rfl, ?_⟩)) (by decide +kernel) ?_
  refine And.intro h.1 ?_
  replace h := h.2
  refine rf_R_if (b := am_cnd .ge x2 (s.2.2.1 70 (x1 + (Int32.ofInt 1)).toNatClampNeg)) (p := 73) (q := 57) (fun hb => ?_) (fun hb => ?_)
  · replace h := h.1 (of_decide_eq_true hb)
    refine rf_R_wv rp_47 (rf_bk am_t47 43 2) 73 [(0, .ref rf_o), (1, .int x1), (2, .int x2)] [] s (by repeat (first | exact trivial | refine ⟨rfl, ?_⟩)) (by decide +kernel) ?_
    exact rf_R_le (l := [(0, .ref rf_o), (1, .int (x1 + Int32.ofInt 1))]) rfl rfl (⟨rfl, rfl, trivial⟩) h
  · replace h := h.2 (of_decide_eq_false hb)
    refine rf_R_wv rp_47 (rf_bk am_t47 35 5) 57 [(0, .ref rf_o), (1, .int x1), (2, .int x2)] [] s (by repeat (first | exact trivial | refine ⟨rfl, ?_⟩)) (by decide +kernel) ?_
    refine And.intro h.1 ?_
    replace h := h.2
    refine rf_R_call (pc := 64) (q := ([.ref rf_o, .long (s.2.2.2 71 x2.toNatClampNeg)], [])) rp_47 rfl rfl (by decide) rp_46 rfl (Nat.le_of_ble_eq_true rfl) ⟨rfl, Nat.le_of_ble_eq_true rfl⟩ h (fun v s1 h => ?_)
    obtain ⟨rfl, h⟩ := h
    refine rf_R_wv rp_47 (rf_bk am_t47 41 2) 67 [(0, .ref rf_o), (1, .int x1), (2, .int x2)] [] s1 (by repeat (first | exact trivial | refine ⟨rfl, ?_⟩)) (by decide +kernel) ?_
    exact rf_R_le (l := [(0, .ref rf_o), (1, .int x1), (2, .int (x2 + Int32.ofInt 1))]) rfl rfl (⟨rfl, rfl, rfl, trivial⟩) h
/-- marked ()I, from 30 on -/
def wr_marked_30 (d : Nat) (x1 : Int32) (s : rf_S) (Q : Int32 → rf_S → Prop) : Prop := (((s.1 65) ≤ x1 → ((¬ (s.1 74) = 0 → wr_marked_132 d s Q) ∧ ((s.1 74) = 0 → (rf_in (s.1 76) 2101 ∧ rf_R (d + 1) 47 (96, [(0, .ref rf_o), (1, .int (s.2.2.1 20 (s.1 76).toNatClampNeg))], [], s) (rf_qI Q))))) ∧ (¬ ((s.1 65) ≤ x1) → (rf_in x1 1601 ∧ rf_R (d + 1) 47 (45, [(0, .ref rf_o), (1, .int x1), (2, .int (s.2.2.1 70 x1.toNatClampNeg))], [], s) (rf_qI Q))))
set_option maxRecDepth 20000 in
theorem wr_marked_30_ok {d : Nat} {x1 : Int32} {s : rf_S} {Q : Int32 → rf_S → Prop} (h : wr_marked_30 d x1 s Q) : rf_R (d + 1) 47 (30, [(0, .ref rf_o), (1, .int x1)], [], s) (rf_qI Q) := by
  unfold wr_marked_30 at h
  refine rf_R_wv rp_47 (rf_bk am_t47 18 4) 30 [(0, .ref rf_o), (1, .int x1)] [] s (by repeat (first | exact trivial | refine ⟨rfl, ?_⟩)) (by decide +kernel) ?_
  refine rf_R_if (b := am_cnd .ge x1 (s.1 65)) (p := 79) (q := 38) (fun hb => ?_) (fun hb => ?_)
  · replace h := h.1 (of_decide_eq_true hb)
    refine rf_R_wv rp_47 (rf_bk am_t47 45 3) 79 [(0, .ref rf_o), (1, .int x1)] [] s (by repeat (first | exact trivial | refine ⟨rfl, ?_⟩)) (by decide +kernel) ?_
    refine rf_R_if (b := am_cnd .ne (s.1 74) 0) (p := 132) (q := 86) (fun hb => ?_) (fun hb => ?_)
    · replace h := h.1 (of_decide_eq_true hb)
      exact rf_R_le (l := [(0, .ref rf_o)]) rfl rfl (⟨rfl, trivial⟩) (wr_marked_132_ok h)
    · replace h := h.2 (Decidable.not_not.mp (of_decide_eq_false hb))
      refine rf_R_wv rp_47 (rf_bk am_t47 48 6) 86 [(0, .ref rf_o), (1, .int x1)] [] s (by repeat (first | exact trivial | refine ⟨rfl, ?_⟩)) (by decide +kernel) ?_
      refine And.intro h.1 ?_
      replace h := h.2
      exact rf_R_le (l := [(0, .ref rf_o), (1, .int (s.2.2.1 20 (s.1 76).toNatClampNeg))]) rfl rfl (⟨rfl, rfl, trivial⟩) h
  · replace h := h.2 (of_decide_eq_false hb)
    refine rf_R_wv rp_47 (rf_bk am_t47 22 5) 38 [(0, .ref rf_o), (1, .int x1)] [] s (by repeat (first | exact trivial | refine ⟨rfl, ?_⟩)) (by decide +kernel) ?_
    refine And.intro h.1 ?_
    replace h := h.2
    exact rf_R_le (l := [(0, .ref rf_o), (1, .int x1), (2, .int (s.2.2.1 70 x1.toNatClampNeg))]) rfl rfl (⟨rfl, rfl, rfl, trivial⟩) h
/-- marked ()I, from 2 on -/
def wr_marked_2 (d : Nat) (x1 : Int32) (s : rf_S) (Q : Int32 → rf_S → Prop) : Prop := (((s.1 48) ≤ x1 → rf_R (d + 1) 47 (30, [(0, .ref rf_o), (1, .int (Int32.ofInt 0))], [], (rf_si s 56 (Int32.ofInt 0))) (rf_qI Q)) ∧ (¬ ((s.1 48) ≤ x1) → (rf_in x1 36000 ∧ rf_R (d + 1) 47 (2, [(0, .ref rf_o), (1, .int (x1 + Int32.ofInt 1))], [], (rf_sb s 53 x1.toNatClampNeg (vp_nar .boolean (Int32.ofInt 0)))) (rf_qI Q))))
set_option maxRecDepth 20000 in
theorem wr_marked_2_ok {d : Nat} {x1 : Int32} {s : rf_S} {Q : Int32 → rf_S → Prop} (h : wr_marked_2 d x1 s Q) : rf_R (d + 1) 47 (2, [(0, .ref rf_o), (1, .int x1)], [], s) (rf_qI Q) := by
  unfold wr_marked_2 at h
  refine rf_R_wv rp_47 (rf_bk am_t47 2 4) 2 [(0, .ref rf_o), (1, .int x1)] [] s (by repeat (first | exact trivial | refine ⟨rfl, ?_⟩)) (by decide +kernel) ?_
  refine rf_R_if (b := am_cnd .ge x1 (s.1 48)) (p := 23) (q := 10) (fun hb => ?_) (fun hb => ?_)
  · replace h := h.1 (of_decide_eq_true hb)
    refine rf_R_wv rp_47 (rf_bk am_t47 13 3) 23 [(0, .ref rf_o), (1, .int x1)] [] s (by repeat (first | exact trivial | refine ⟨rfl, ?_⟩)) (by decide +kernel) ?_
    refine And.intro rfl ?_
    refine rf_R_wv rp_47 (rf_bk am_t47 16 2) 28 [(0, .ref rf_o), (1, .int x1)] [] (rf_si s 56 (Int32.ofInt 0)) (by repeat (first | exact trivial | refine ⟨rfl, ?_⟩)) (by decide +kernel) ?_
    exact rf_R_le (l := [(0, .ref rf_o), (1, .int (Int32.ofInt 0))]) rfl rfl (⟨rfl, rfl, trivial⟩) h
  · replace h := h.2 (of_decide_eq_false hb)
    refine rf_R_wv rp_47 (rf_bk am_t47 6 5) 10 [(0, .ref rf_o), (1, .int x1)] [] s (by repeat (first | exact trivial | refine ⟨rfl, ?_⟩)) (by decide +kernel) ?_
    refine And.intro h.1 ?_
    replace h := h.2
    refine rf_R_wv rp_47 (rf_bk am_t47 11 2) 17 [(0, .ref rf_o), (1, .int x1)] [] (rf_sb s 53 x1.toNatClampNeg (vp_nar .boolean (Int32.ofInt 0))) (by repeat (first | exact trivial | refine ⟨rfl, ?_⟩)) (by decide +kernel) ?_
    exact rf_R_le (l := [(0, .ref rf_o), (1, .int (x1 + Int32.ofInt 1))]) rfl rfl (⟨rfl, rfl, trivial⟩) h
/-- marked ()I, from 0 on -/
def wr_marked (d : Nat) (s : rf_S) (Q : Int32 → rf_S → Prop) : Prop := rf_R (d + 1) 47 (2, [(0, .ref rf_o), (1, .int (Int32.ofInt 0))], [], s) (rf_qI Q)
set_option maxRecDepth 20000 in
theorem wr_marked_ok {d : Nat} {s : rf_S} {Q : Int32 → rf_S → Prop} (h : wr_marked d s Q) : rf_I (d + 1) 47 [(0, .ref rf_o)] s Q := by
  unfold wr_marked at h
  unfold rf_I
  refine rf_R_wv rp_47 (rf_bk am_t47 0 2) 0 [(0, .ref rf_o)] [] s (by repeat (first | exact trivial | refine ⟨rfl, ?_⟩)) (by decide +kernel) ?_
  exact rf_R_le (l := [(0, .ref rf_o), (1, .int (Int32.ofInt 0))]) rfl rfl (⟨rfl, rfl, trivial⟩) h
/-- moved (J)J, from 0 on -/
def wr_moved (d : Nat) (x1 : Int64) (s : rf_S) (Q : Int64 → rf_S → Prop) : Prop := rf_I d 45 [(0, .long x1)] s (fun r1 s1 => ((¬ r1 = (Int32.ofInt 3) → Q x1 s1) ∧ (r1 = (Int32.ofInt 3) → (rf_in (x1.toInt32) 36000 ∧ rf_J d 44 [(0, .int (Int32.ofInt 3)), (1, .int (s1.2.2.1 54 (x1.toInt32).toNatClampNeg))] s1 (fun r2 s2 => Q r2 s2)))))
set_option maxRecDepth 20000 in
theorem wr_moved_ok {d : Nat} {x1 : Int64} {s : rf_S} {Q : Int64 → rf_S → Prop} (h : wr_moved d x1 s Q) : rf_J (d + 1) 48 [(0, .ref rf_o), (1, .long x1)] s Q := by
  unfold wr_moved at h
  unfold rf_J
  refine rf_R_wv rp_48 (rf_bk am_t48 0 1) 0 [(0, .ref rf_o), (1, .long x1)] [] s (by repeat (first | exact trivial | refine ⟨rfl, ?_⟩)) (by decide +kernel) ?_
  refine rf_R_call (pc := 1) (q := ([.long x1], [])) rp_48 rfl rfl (by decide) rp_45 rfl (Nat.le_of_ble_eq_true rfl) ⟨rfl, Nat.le_of_ble_eq_true rfl⟩ h (fun v s1 h => ?_)
  obtain ⟨r1, rfl, h⟩ := h
  refine rf_R_wv rp_48 (rf_bk am_t48 2 2) 4 [(0, .ref rf_o), (1, .long x1)] [.int r1] s1 (by repeat (first | exact trivial | refine ⟨rfl, ?_⟩)) (by decide +kernel) ?_
  refine rf_R_if (b := am_cnd .ne r1 (Int32.ofInt 3)) (p := 22) (q := 8) (fun hb => ?_) (fun hb => ?_)
  · replace h := h.1 (of_decide_eq_true hb)
    refine rf_R_wv rp_48 (rf_bk am_t48 12 1) 22 [(0, .ref rf_o), (1, .long x1)] [] s1 (by repeat (first | exact trivial | refine ⟨rfl, ?_⟩)) (by decide +kernel) ?_
    exact rf_R_ret (pc := 23) (v := some (.long x1)) rp_48 rfl rfl rfl ⟨_, rfl, h⟩
  · replace h := h.2 (Decidable.not_not.mp (of_decide_eq_false hb))
    refine rf_R_wv rp_48 (rf_bk am_t48 4 6) 8 [(0, .ref rf_o), (1, .long x1)] [] s1 (by repeat (first | exact trivial | refine ⟨rfl, ?_⟩)) (by decide +kernel) ?_
    refine And.intro h.1 ?_
    replace h := h.2
    refine rf_R_call (pc := 16) (q := ([.int (Int32.ofInt 3), .int (s1.2.2.1 54 (x1.toInt32).toNatClampNeg)], [])) rp_48 rfl rfl (by decide) rp_44 rfl (Nat.le_of_ble_eq_true rfl) ⟨rfl, Nat.le_of_ble_eq_true rfl⟩ h (fun v s2 h => ?_)
    obtain ⟨r2, rfl, h⟩ := h
    refine rf_R_wv rp_48 (rf_bk am_t48 11 1) 19 [(0, .ref rf_o), (1, .long x1)] [.long r2] s2 (by repeat (first | exact trivial | refine ⟨rfl, ?_⟩)) (by decide +kernel) ?_
    exact rf_R_ret (pc := 23) (v := some (.long r2)) rp_48 rfl rfl rfl ⟨_, rfl, h⟩
/-- sweep ()V, from 357 on -/
def wr_sweep_357 (d : Nat) (x1 : Int32) (x2 : Int32) (x3 : Int32) (s : rf_S) (Q : rf_S → Prop) : Prop := rf_R (d + 1) 49 (217, [(0, .ref rf_o), (1, .int x1), (2, .int x2), (3, .int (x3 + Int32.ofInt 1))], [], s) (rf_qV Q)
set_option maxRecDepth 20000 in
theorem wr_sweep_357_ok {d : Nat} {x1 : Int32} {x2 : Int32} {x3 : Int32} {s : rf_S} {Q : rf_S → Prop} (h : wr_sweep_357 d x1 x2 x3 s Q) : rf_R (d + 1) 49 (357, [(0, .ref rf_o), (1, .int x1), (2, .int x2), (3, .int x3)], [], s) (rf_qV Q) := by
  unfold wr_sweep_357 at h
  refine rf_R_wv rp_49 (rf_bk am_t49 205 2) 357 [(0, .ref rf_o), (1, .int x1), (2, .int x2), (3, .int x3)] [] s (by repeat (first | exact trivial | refine ⟨rfl, ?_⟩)) (by decide +kernel) ?_
  exact rf_R_le (l := [(0, .ref rf_o), (1, .int x1), (2, .int x2), (3, .int (x3 + Int32.ofInt 1))]) rfl rfl (⟨rfl, rfl, rfl, rfl, trivial⟩) h
/-- sweep ()V, from 355 on -/
def wr_sweep_355 (d : Nat) (x1 : Int32) (x3 : Int32) (y0 : Int32) (y1 : Int32) (s : rf_S) (Q : rf_S → Prop) : Prop := wr_sweep_357 d x1 (y1 + y0) x3 s Q
set_option maxRecDepth 20000 in
theorem wr_sweep_355_ok {d : Nat} {x1 : Int32} {x3 : Int32} {y0 : Int32} {y1 : Int32} {s : rf_S} {Q : rf_S → Prop} (h : wr_sweep_355 d x1 x3 y0 y1 s Q) : rf_R (d + 1) 49 (355, [(0, .ref rf_o), (1, .int x1), (3, .int x3)], [.int y0, .int y1], s) (rf_qV Q) := by
  unfold wr_sweep_355 at h
  refine rf_R_wv rp_49 (rf_bk am_t49 203 2) 355 [(0, .ref rf_o), (1, .int x1), (3, .int x3)] [.int y0, .int y1] s (by repeat (first | exact trivial | refine ⟨rfl, ?_⟩)) (by decide +kernel) ?_
  exact rf_R_le (l := [(0, .ref rf_o), (1, .int x1), (2, .int (y1 + y0)), (3, .int x3)]) rfl rfl (⟨rfl, rfl, rfl, rfl, trivial⟩) (wr_sweep_357_ok h)
/-- sweep ()V, from 307 on -/
def wr_sweep_307 (d : Nat) (x1 : Int32) (x2 : Int32) (x3 : Int32) (x5 : Int32) (x6 : Int32) (x7 : Int32) (s : rf_S) (Q : rf_S → Prop) : Prop := ((x6 ≤ x7 → ((¬ x6 = 0 → wr_sweep_355 d x1 x3 x6 x2 s Q) ∧ (x6 = 0 → wr_sweep_355 d x1 x3 (Int32.ofInt 1) x2 s Q))) ∧ (¬ (x6 ≤ x7) → (rf_in (x5 + x7) 47000 ∧ rf_J d 48 [(0, .ref rf_o), (1, .long (s.2.2.2 58 (x5 + x7).toNatClampNeg))] s (fun r1 s1 => (rf_in (x2 + x7) 47000 ∧ rf_R (d + 1) 49 (307, [(0, .ref rf_o), (1, .int x1), (2, .int x2), (3, .int x3), (5, .int x5), (6, .int x6), (7, .int (x7 + Int32.ofInt 1))], [], (rf_sL s1 58 (x2 + x7).toNatClampNeg r1)) (rf_qV Q))))))
set_option maxRecDepth 20000 in
theorem wr_sweep_307_ok {d : Nat} {x1 : Int32} {x2 : Int32} {x3 : Int32} {x5 : Int32} {x6 : Int32} {x7 : Int32} {s : rf_S} {Q : rf_S → Prop} (h : wr_sweep_307 d x1 x2 x3 x5 x6 x7 s Q) : rf_R (d + 1) 49 (307, [(0, .ref rf_o), (1, .int x1), (2, .int x2), (3, .int x3), (5, .int x5), (6, .int x6), (7, .int x7)], [], s) (rf_qV Q) := by
  unfold wr_sweep_307 at h
  refine rf_R_wv rp_49 (rf_bk am_t49 178 3) 307 [(0, .ref rf_o), (1, .int x1), (2, .int x2), (3, .int x3), (5, .int x5), (6, .int x6), (7, .int x7)] [] s (by repeat (first | exact trivial | refine ⟨rfl, ?_⟩)) (by decide +kernel) ?_
  refine rf_R_if (b := am_cnd .ge x7 x6) (p := 343) (q := 314) (fun hb => ?_) (fun hb => ?_)
  · replace h := h.1 (of_decide_eq_true hb)
    refine rf_R_wv rp_49 (rf_bk am_t49 197 3) 343 [(0, .ref rf_o), (1, .int x1), (2, .int x2), (3, .int x3), (5, .int x5), (6, .int x6), (7, .int x7)] [] s (by repeat (first | exact trivial | refine ⟨rfl, ?_⟩)) (by decide +kernel) ?_
    refine rf_R_if (b := am_cnd .ne x6 0) (p := 353) (q := 349) (fun hb => ?_) (fun hb => ?_)
    · replace h := h.1 (of_decide_eq_true hb)
      refine rf_R_wv rp_49 (rf_bk am_t49 202 1) 353 [(0, .ref rf_o), (1, .int x1), (2, .int x2), (3, .int x3), (5, .int x5), (6, .int x6), (7, .int x7)] [.int x2] s (by repeat (first | exact trivial | refine ⟨rfl, ?_⟩)) (by decide +kernel) ?_
      exact rf_R_le (l := [(0, .ref rf_o), (1, .int x1), (3, .int x3)]) rfl rfl (⟨rfl, rfl, rfl, trivial⟩) (wr_sweep_355_ok h)
    · replace h := h.2 (Decidable.not_not.mp (of_decide_eq_false hb))
      refine rf_R_wv rp_49 (rf_bk am_t49 200 2) 349 [(0, .ref rf_o), (1, .int x1), (2, .int x2), (3, .int x3), (5, .int x5), (6, .int x6), (7, .int x7)] [.int x2] s (by repeat (first | exact trivial | refine ⟨rfl, ?_⟩)) (by decide +kernel) ?_
      exact rf_R_le (l := [(0, .ref rf_o), (1, .int x1), (3, .int x3)]) rfl rfl (⟨rfl, rfl, rfl, trivial⟩) (wr_sweep_355_ok h)
  · replace h := h.2 (of_decide_eq_false hb)
    refine rf_R_wv rp_49 (rf_bk am_t49 181 12) 314 [(0, .ref rf_o), (1, .int x1), (2, .int x2), (3, .int x3), (5, .int x5), (6, .int x6), (7, .int x7)] [] s (by repeat (first | exact trivial | refine ⟨rfl, ?_⟩)) (by decide +kernel) ?_
    refine And.intro h.1 ?_
    replace h := h.2
    refine rf_R_call (pc := 333) (q := ([.ref rf_o, .long (s.2.2.2 58 (x5 + x7).toNatClampNeg)], [.int (x2 + x7), .ref (rf_ad 58)])) rp_49 rfl rfl (by decide) rp_48 rfl (Nat.le_of_ble_eq_true rfl) ⟨rfl, Nat.le_of_ble_eq_true rfl⟩ h (fun v s1 h => ?_)
    obtain ⟨r1, rfl, h⟩ := h
    refine rf_R_wv rp_49 (rf_bk am_t49 194 1) 336 [(0, .ref rf_o), (1, .int x1), (2, .int x2), (3, .int x3), (5, .int x5), (6, .int x6), (7, .int x7)] [.long r1, .int (x2 + x7), .ref (rf_ad 58)] s1 (by repeat (first | exact trivial | refine ⟨rfl, ?_⟩)) (by decide +kernel) ?_
    refine And.intro h.1 ?_
    replace h := h.2
    refine rf_R_wv rp_49 (rf_bk am_t49 195 2) 337 [(0, .ref rf_o), (1, .int x1), (2, .int x2), (3, .int x3), (5, .int x5), (6, .int x6), (7, .int x7)] [] (rf_sL s1 58 (x2 + x7).toNatClampNeg r1) (by repeat (first | exact trivial | refine ⟨rfl, ?_⟩)) (by decide +kernel) ?_
    exact rf_R_le (l := [(0, .ref rf_o), (1, .int x1), (2, .int x2), (3, .int x3), (5, .int x5), (6, .int x6), (7, .int (x7 + Int32.ofInt 1))]) rfl rfl (⟨rfl, rfl, rfl, rfl, rfl, rfl, rfl, trivial⟩) h
/-- sweep ()V, from 217 on -/
def wr_sweep_217 (d : Nat) (x1 : Int32) (x2 : Int32) (x3 : Int32) (s : rf_S) (Q : rf_S → Prop) : Prop := (((s.1 48) ≤ x3 → Q (rf_si (rf_si s 48 x1) 57 x2)) ∧ (¬ ((s.1 48) ≤ x3) → (rf_in x3 36000 ∧ ((¬ (s.2.2.1 53 x3.toNatClampNeg) = 0 → (rf_in x3 36000 ∧ rf_in x3 36001 ∧ rf_in x3 36000 ∧ (rf_in x3 36000 ∧ rf_in (s.2.2.1 54 x3.toNatClampNeg) 36000 ∧ (rf_in x3 36000 ∧ rf_in (s.2.2.1 54 x3.toNatClampNeg) 36000 ∧ (rf_in (s.2.2.1 54 x3.toNatClampNeg) 36000 ∧ (rf_in (s.2.2.1 54 x3.toNatClampNeg) 36001 ∧ rf_R (d + 1) 49 (307, [(0, .ref rf_o), (1, .int x1), (2, .int x2), (3, .int x3), (5, .int (s.2.2.1 51 x3.toNatClampNeg)), (6, .int (s.2.2.1 52 x3.toNatClampNeg)), (7, .int (Int32.ofInt 0))], [], (rf_sb (rf_sb (rf_sb (rf_sb s 49 (s.2.2.1 54 x3.toNatClampNeg).toNatClampNeg (s.2.2.1 49 x3.toNatClampNeg)) 50 (s.2.2.1 54 x3.toNatClampNeg).toNatClampNeg (s.2.2.1 50 x3.toNatClampNeg)) 52 (s.2.2.1 54 x3.toNatClampNeg).toNatClampNeg (s.2.2.1 52 x3.toNatClampNeg)) 51 (s.2.2.1 54 x3.toNatClampNeg).toNatClampNeg x2)) (rf_qV Q))))))) ∧ ((s.2.2.1 53 x3.toNatClampNeg) = 0 → wr_sweep_357 d x1 x2 x3 s Q)))))
set_option maxRecDepth 20000 in
theorem wr_sweep_217_ok {d : Nat} {x1 : Int32} {x2 : Int32} {x3 : Int32} {s : rf_S} {Q : rf_S → Prop} (h : wr_sweep_217 d x1 x2 x3 s Q) : rf_R (d + 1) 49 (217, [(0, .ref rf_o), (1, .int x1), (2, .int x2), (3, .int x3)], [], s) (rf_qV Q) := by
  unfold wr_sweep_217 at h
  refine rf_R_wv rp_49 (rf_bk am_t49 125 4) 217 [(0, .ref rf_o), (1, .int x1), (2, .int x2), (3, .int x3)] [] s (by repeat (first | exact trivial | refine ⟨rfl, ?_⟩)) (by decide +kernel) ?_
  refine rf_R_if (b := am_cnd .ge x3 (s.1 48)) (p := 363) (q := 225) (fun hb => ?_) (fun hb => ?_)
  · replace h := h.1 (of_decide_eq_true hb)
    refine rf_R_wv rp_49 (rf_bk am_t49 207 3) 363 [(0, .ref rf_o), (1, .int x1), (2, .int x2), (3, .int x3)] [] s (by repeat (first | exact trivial | refine ⟨rfl, ?_⟩)) (by decide +kernel) ?_
    refine And.intro rfl ?_
    refine rf_R_wv rp_49 (rf_bk am_t49 210 3) 368 [(0, .ref rf_o), (1, .int x1), (2, .int x2), (3, .int x3)] [] (rf_si s 48 x1) (by repeat (first | exact trivial | refine ⟨rfl, ?_⟩)) (by decide +kernel) ?_
    refine And.intro rfl ?_
    exact rf_R_ret (pc := 373) rp_49 rfl rfl rfl ⟨rfl, h⟩
  · replace h := h.2 (of_decide_eq_false hb)
    refine rf_R_wv rp_49 (rf_bk am_t49 129 5) 225 [(0, .ref rf_o), (1, .int x1), (2, .int x2), (3, .int x3)] [] s (by repeat (first | exact trivial | refine ⟨rfl, ?_⟩)) (by decide +kernel) ?_
    refine And.intro h.1 ?_
    replace h := h.2
    refine rf_R_if (b := am_cnd .ne (s.2.2.1 53 x3.toNatClampNeg) 0) (p := 237) (q := 234) (fun hb => ?_) (fun hb => ?_)
    · replace h := h.1 (of_decide_eq_true hb)
      refine rf_R_wv rp_49 (rf_bk am_t49 135 14) 237 [(0, .ref rf_o), (1, .int x1), (2, .int x2), (3, .int x3)] [] s (by repeat (first | exact trivial | refine ⟨rfl, ?_⟩)) (by decide +kernel) ?_
      refine And.intro h.1 ?_
      replace h := h.2
      refine And.intro h.1 ?_
      replace h := h.2
      refine And.intro h.1 ?_
      replace h := h.2
      refine rf_R_wv rp_49 (rf_bk am_t49 149 9) 259 [(5, .int (s.2.2.1 51 x3.toNatClampNeg)), (4, .int (s.2.2.1 54 x3.toNatClampNeg)), (0, .ref rf_o), (1, .int x1), (2, .int x2), (3, .int x3)] [.int (s.2.2.1 52 x3.toNatClampNeg)] s (by repeat (first | exact trivial | refine ⟨rfl, ?_⟩)) (by decide +kernel) ?_
      refine And.intro h.1 ?_
      replace h := h.2
      refine And.intro h.1 ?_
      replace h := h.2
      refine rf_R_wv rp_49 (rf_bk am_t49 158 8) 274 [(6, .int (s.2.2.1 52 x3.toNatClampNeg)), (5, .int (s.2.2.1 51 x3.toNatClampNeg)), (4, .int (s.2.2.1 54 x3.toNatClampNeg)), (0, .ref rf_o), (1, .int x1), (2, .int x2), (3, .int x3)] [] (rf_sb s 49 (s.2.2.1 54 x3.toNatClampNeg).toNatClampNeg (s.2.2.1 49 x3.toNatClampNeg)) (by repeat (first | exact trivial | refine ⟨rfl, ?_⟩)) (by decide +kernel) ?_
      refine And.intro h.1 ?_
      replace h := h.2
      refine And.intro h.1 ?_
      replace h := h.2
      refine rf_R_wv rp_49 (rf_bk am_t49 166 5) 287 [(6, .int (s.2.2.1 52 x3.toNatClampNeg)), (5, .int (s.2.2.1 51 x3.toNatClampNeg)), (4, .int (s.2.2.1 54 x3.toNatClampNeg)), (0, .ref rf_o), (1, .int x1), (2, .int x2), (3, .int x3)] [] (rf_sb (rf_sb s 49 (s.2.2.1 54 x3.toNatClampNeg).toNatClampNeg (s.2.2.1 49 x3.toNatClampNeg)) 50 (s.2.2.1 54 x3.toNatClampNeg).toNatClampNeg (s.2.2.1 50 x3.toNatClampNeg)) (by repeat (first | exact trivial | refine ⟨rfl, ?_⟩)) (by decide +kernel) ?_
      refine And.intro h.1 ?_
      replace h := h.2
      refine rf_R_wv rp_49 (rf_bk am_t49 171 5) 296 [(6, .int (s.2.2.1 52 x3.toNatClampNeg)), (5, .int (s.2.2.1 51 x3.toNatClampNeg)), (4, .int (s.2.2.1 54 x3.toNatClampNeg)), (0, .ref rf_o), (1, .int x1), (2, .int x2), (3, .int x3)] [] (rf_sb (rf_sb (rf_sb s 49 (s.2.2.1 54 x3.toNatClampNeg).toNatClampNeg (s.2.2.1 49 x3.toNatClampNeg)) 50 (s.2.2.1 54 x3.toNatClampNeg).toNatClampNeg (s.2.2.1 50 x3.toNatClampNeg)) 52 (s.2.2.1 54 x3.toNatClampNeg).toNatClampNeg (s.2.2.1 52 x3.toNatClampNeg)) (by repeat (first | exact trivial | refine ⟨rfl, ?_⟩)) (by decide +kernel) ?_
      refine And.intro h.1 ?_
      replace h := h.2
      refine rf_R_wv rp_49 (rf_bk am_t49 176 2) 304 [(6, .int (s.2.2.1 52 x3.toNatClampNeg)), (5, .int (s.2.2.1 51 x3.toNatClampNeg)), (4, .int (s.2.2.1 54 x3.toNatClampNeg)), (0, .ref rf_o), (1, .int x1), (2, .int x2), (3, .int x3)] [] (rf_sb (rf_sb (rf_sb (rf_sb s 49 (s.2.2.1 54 x3.toNatClampNeg).toNatClampNeg (s.2.2.1 49 x3.toNatClampNeg)) 50 (s.2.2.1 54 x3.toNatClampNeg).toNatClampNeg (s.2.2.1 50 x3.toNatClampNeg)) 52 (s.2.2.1 54 x3.toNatClampNeg).toNatClampNeg (s.2.2.1 52 x3.toNatClampNeg)) 51 (s.2.2.1 54 x3.toNatClampNeg).toNatClampNeg x2) (by repeat (first | exact trivial | refine ⟨rfl, ?_⟩)) (by decide +kernel) ?_
      exact rf_R_le (l := [(0, .ref rf_o), (1, .int x1), (2, .int x2), (3, .int x3), (5, .int (s.2.2.1 51 x3.toNatClampNeg)), (6, .int (s.2.2.1 52 x3.toNatClampNeg)), (7, .int (Int32.ofInt 0))]) rfl rfl (⟨rfl, rfl, rfl, rfl, rfl, rfl, rfl, trivial⟩) h
    · replace h := h.2 (Decidable.not_not.mp (of_decide_eq_false hb))
      refine rf_R_wv rp_49 (rf_bk am_t49 134 1) 234 [(0, .ref rf_o), (1, .int x1), (2, .int x2), (3, .int x3)] [] s (by repeat (first | exact trivial | refine ⟨rfl, ?_⟩)) (by decide +kernel) ?_
      exact rf_R_le (l := [(0, .ref rf_o), (1, .int x1), (2, .int x2), (3, .int x3)]) rfl rfl (⟨rfl, rfl, rfl, rfl, trivial⟩) (wr_sweep_357_ok h)
/-- sweep ()V, from 207 on -/
def wr_sweep_207 (d : Nat) (x1 : Int32) (x2 : Int32) (s : rf_S) (Q : rf_S → Prop) : Prop := rf_R (d + 1) 49 (173, [(0, .ref rf_o), (1, .int x1), (2, .int (x2 + Int32.ofInt 1))], [], s) (rf_qV Q)
set_option maxRecDepth 20000 in
theorem wr_sweep_207_ok {d : Nat} {x1 : Int32} {x2 : Int32} {s : rf_S} {Q : rf_S → Prop} (h : wr_sweep_207 d x1 x2 s Q) : rf_R (d + 1) 49 (207, [(0, .ref rf_o), (1, .int x1), (2, .int x2)], [], s) (rf_qV Q) := by
  unfold wr_sweep_207 at h
  refine rf_R_wv rp_49 (rf_bk am_t49 119 2) 207 [(0, .ref rf_o), (1, .int x1), (2, .int x2)] [] s (by repeat (first | exact trivial | refine ⟨rfl, ?_⟩)) (by decide +kernel) ?_
  exact rf_R_le (l := [(0, .ref rf_o), (1, .int x1), (2, .int (x2 + Int32.ofInt 1))]) rfl rfl (⟨rfl, rfl, rfl, trivial⟩) h
/-- sweep ()V, from 173 on -/
def wr_sweep_173 (d : Nat) (x1 : Int32) (x2 : Int32) (s : rf_S) (Q : rf_S → Prop) : Prop := (((s.1 41) ≤ x2 → rf_R (d + 1) 49 (217, [(0, .ref rf_o), (1, .int x1), (2, .int (Int32.ofInt 0)), (3, .int (Int32.ofInt 0))], [], s) (rf_qV Q)) ∧ (¬ ((s.1 41) ≤ x2) → (rf_in x2 700 ∧ ((¬ (s.2.2.1 63 x2.toNatClampNeg) = (Int32.ofInt 2) → wr_sweep_207 d x1 x2 s Q) ∧ ((s.2.2.1 63 x2.toNatClampNeg) = (Int32.ofInt 2) → (rf_in x2 700 ∧ rf_J d 48 [(0, .ref rf_o), (1, .long (s.2.2.2 64 x2.toNatClampNeg))] s (fun r1 s1 => (rf_in x2 700 ∧ wr_sweep_207 d x1 x2 (rf_sL s1 64 x2.toNatClampNeg r1) Q))))))))
set_option maxRecDepth 20000 in
theorem wr_sweep_173_ok {d : Nat} {x1 : Int32} {x2 : Int32} {s : rf_S} {Q : rf_S → Prop} (h : wr_sweep_173 d x1 x2 s Q) : rf_R (d + 1) 49 (173, [(0, .ref rf_o), (1, .int x1), (2, .int x2)], [], s) (rf_qV Q) := by
  unfold wr_sweep_173 at h
  refine rf_R_wv rp_49 (rf_bk am_t49 99 4) 173 [(0, .ref rf_o), (1, .int x1), (2, .int x2)] [] s (by repeat (first | exact trivial | refine ⟨rfl, ?_⟩)) (by decide +kernel) ?_
  refine rf_R_if (b := am_cnd .ge x2 (s.1 41)) (p := 213) (q := 181) (fun hb => ?_) (fun hb => ?_)
  · replace h := h.1 (of_decide_eq_true hb)
    refine rf_R_wv rp_49 (rf_bk am_t49 121 4) 213 [(0, .ref rf_o), (1, .int x1), (2, .int x2)] [] s (by repeat (first | exact trivial | refine ⟨rfl, ?_⟩)) (by decide +kernel) ?_
    exact rf_R_le (l := [(0, .ref rf_o), (1, .int x1), (2, .int (Int32.ofInt 0)), (3, .int (Int32.ofInt 0))]) rfl rfl (⟨rfl, rfl, rfl, rfl, trivial⟩) h
  · replace h := h.2 (of_decide_eq_false hb)
    refine rf_R_wv rp_49 (rf_bk am_t49 103 6) 181 [(0, .ref rf_o), (1, .int x1), (2, .int x2)] [] s (by repeat (first | exact trivial | refine ⟨rfl, ?_⟩)) (by decide +kernel) ?_
    refine And.intro h.1 ?_
    replace h := h.2
    refine rf_R_if (b := am_cnd .ne (s.2.2.1 63 x2.toNatClampNeg) (Int32.ofInt 2)) (p := 207) (q := 191) (fun hb => ?_) (fun hb => ?_)
    · replace h := h.1 (of_decide_eq_true hb)
      exact rf_R_le (l := [(0, .ref rf_o), (1, .int x1), (2, .int x2)]) rfl rfl (⟨rfl, rfl, rfl, trivial⟩) (wr_sweep_207_ok h)
    · replace h := h.2 (Decidable.not_not.mp (of_decide_eq_false hb))
      refine rf_R_wv rp_49 (rf_bk am_t49 109 8) 191 [(0, .ref rf_o), (1, .int x1), (2, .int x2)] [] s (by repeat (first | exact trivial | refine ⟨rfl, ?_⟩)) (by decide +kernel) ?_
      refine And.intro h.1 ?_
      replace h := h.2
      refine rf_R_call (pc := 203) (q := ([.ref rf_o, .long (s.2.2.2 64 x2.toNatClampNeg)], [.int x2, .ref (rf_ad 64)])) rp_49 rfl rfl (by decide) rp_48 rfl (Nat.le_of_ble_eq_true rfl) ⟨rfl, Nat.le_of_ble_eq_true rfl⟩ h (fun v s1 h => ?_)
      obtain ⟨r1, rfl, h⟩ := h
      refine rf_R_wv rp_49 (rf_bk am_t49 118 1) 206 [(0, .ref rf_o), (1, .int x1), (2, .int x2)] [.long r1, .int x2, .ref (rf_ad 64)] s1 (by repeat (first | exact trivial | refine ⟨rfl, ?_⟩)) (by decide +kernel) ?_
      refine And.intro h.1 ?_
      replace h := h.2
      exact rf_R_le (l := [(0, .ref rf_o), (1, .int x1), (2, .int x2)]) rfl rfl (⟨rfl, rfl, rfl, trivial⟩) (wr_sweep_207_ok h)
/-- sweep ()V, from 171 on -/
def wr_sweep_171 (d : Nat) (x1 : Int32) (s : rf_S) (Q : rf_S → Prop) : Prop := rf_R (d + 1) 49 (173, [(0, .ref rf_o), (1, .int x1), (2, .int (Int32.ofInt 0))], [], s) (rf_qV Q)
set_option maxRecDepth 20000 in
theorem wr_sweep_171_ok {d : Nat} {x1 : Int32} {s : rf_S} {Q : rf_S → Prop} (h : wr_sweep_171 d x1 s Q) : rf_R (d + 1) 49 (171, [(0, .ref rf_o), (1, .int x1)], [], s) (rf_qV Q) := by
  unfold wr_sweep_171 at h
  refine rf_R_wv rp_49 (rf_bk am_t49 97 2) 171 [(0, .ref rf_o), (1, .int x1)] [] s (by repeat (first | exact trivial | refine ⟨rfl, ?_⟩)) (by decide +kernel) ?_
  exact rf_R_le (l := [(0, .ref rf_o), (1, .int x1), (2, .int (Int32.ofInt 0))]) rfl rfl (⟨rfl, rfl, rfl, trivial⟩) h
/-- sweep ()V, from 159 on -/
def wr_sweep_159 (d : Nat) (x1 : Int32) (s : rf_S) (Q : rf_S → Prop) : Prop := rf_J d 48 [(0, .ref rf_o), (1, .long (s.2.1 77))] s (fun r1 s1 => wr_sweep_171 d x1 (rf_sj s1 77 r1) Q)
set_option maxRecDepth 20000 in
theorem wr_sweep_159_ok {d : Nat} {x1 : Int32} {s : rf_S} {Q : rf_S → Prop} (h : wr_sweep_159 d x1 s Q) : rf_R (d + 1) 49 (159, [(0, .ref rf_o), (1, .int x1)], [], s) (rf_qV Q) := by
  unfold wr_sweep_159 at h
  refine rf_R_wv rp_49 (rf_bk am_t49 91 4) 159 [(0, .ref rf_o), (1, .int x1)] [] s (by repeat (first | exact trivial | refine ⟨rfl, ?_⟩)) (by decide +kernel) ?_
  refine rf_R_call (pc := 165) (q := ([.ref rf_o, .long (s.2.1 77)], [.ref rf_o])) rp_49 rfl rfl (by decide) rp_48 rfl (Nat.le_of_ble_eq_true rfl) ⟨rfl, Nat.le_of_ble_eq_true rfl⟩ h (fun v s1 h => ?_)
  obtain ⟨r1, rfl, h⟩ := h
  refine rf_R_wv rp_49 (rf_bk am_t49 96 1) 168 [(0, .ref rf_o), (1, .int x1)] [.long r1, .ref rf_o] s1 (by repeat (first | exact trivial | refine ⟨rfl, ?_⟩)) (by decide +kernel) ?_
  refine And.intro rfl ?_
  exact rf_R_le (l := [(0, .ref rf_o), (1, .int x1)]) rfl rfl (⟨rfl, rfl, trivial⟩) (wr_sweep_171_ok h)
/-- sweep ()V, from 143 on -/
def wr_sweep_143 (d : Nat) (x1 : Int32) (s : rf_S) (Q : rf_S → Prop) : Prop := (((s.1 74) = (Int32.ofInt 1) → wr_sweep_159 d x1 s Q) ∧ (¬ ((s.1 74) = (Int32.ofInt 1)) → ((¬ (s.1 74) = (Int32.ofInt 2) → wr_sweep_171 d x1 s Q) ∧ ((s.1 74) = (Int32.ofInt 2) → wr_sweep_159 d x1 s Q))))
set_option maxRecDepth 20000 in
theorem wr_sweep_143_ok {d : Nat} {x1 : Int32} {s : rf_S} {Q : rf_S → Prop} (h : wr_sweep_143 d x1 s Q) : rf_R (d + 1) 49 (143, [(0, .ref rf_o), (1, .int x1)], [], s) (rf_qV Q) := by
  unfold wr_sweep_143 at h
  refine rf_R_wv rp_49 (rf_bk am_t49 83 4) 143 [(0, .ref rf_o), (1, .int x1)] [] s (by repeat (first | exact trivial | refine ⟨rfl, ?_⟩)) (by decide +kernel) ?_
  refine rf_R_if (b := am_cnd .eq (s.1 74) (Int32.ofInt 1)) (p := 159) (q := 151) (fun hb => ?_) (fun hb => ?_)
  · replace h := h.1 (of_decide_eq_true hb)
    exact rf_R_le (l := [(0, .ref rf_o), (1, .int x1)]) rfl rfl (⟨rfl, rfl, trivial⟩) (wr_sweep_159_ok h)
  · replace h := h.2 (of_decide_eq_false hb)
    refine rf_R_wv rp_49 (rf_bk am_t49 87 4) 151 [(0, .ref rf_o), (1, .int x1)] [] s (by repeat (first | exact trivial | refine ⟨rfl, ?_⟩)) (by decide +kernel) ?_
    refine rf_R_if (b := am_cnd .ne (s.1 74) (Int32.ofInt 2)) (p := 171) (q := 159) (fun hb => ?_) (fun hb => ?_)
    · replace h := h.1 (of_decide_eq_true hb)
      exact rf_R_le (l := [(0, .ref rf_o), (1, .int x1)]) rfl rfl (⟨rfl, rfl, trivial⟩) (wr_sweep_171_ok h)
    · replace h := h.2 (Decidable.not_not.mp (of_decide_eq_false hb))
      exact rf_R_le (l := [(0, .ref rf_o), (1, .int x1)]) rfl rfl (⟨rfl, rfl, trivial⟩) (wr_sweep_159_ok h)
/-- sweep ()V, from 96 on -/
def wr_sweep_96 (d : Nat) (x1 : Int32) (x2 : Int32) (s : rf_S) (Q : rf_S → Prop) : Prop := (rf_in ((s.1 76) + (Int32.ofInt 1)) 2101 ∧ (((s.2.2.1 20 ((s.1 76) + (Int32.ofInt 1)).toNatClampNeg) ≤ x2 → wr_sweep_143 d x1 s Q) ∧ (¬ ((s.2.2.1 20 ((s.1 76) + (Int32.ofInt 1)).toNatClampNeg) ≤ x2) → (rf_in x2 131072 ∧ rf_in x2 131072 ∧ rf_in (s.2.2.1 21 x2.toNatClampNeg) 1100 ∧ rf_J d 48 [(0, .ref rf_o), (1, .long (s.2.2.2 78 (s.2.2.1 21 x2.toNatClampNeg).toNatClampNeg))] s (fun r1 s1 => (rf_in (s.2.2.1 21 x2.toNatClampNeg) 1100 ∧ rf_R (d + 1) 49 (96, [(0, .ref rf_o), (1, .int x1), (2, .int (x2 + Int32.ofInt 1))], [], (rf_sL s1 78 (s.2.2.1 21 x2.toNatClampNeg).toNatClampNeg r1)) (rf_qV Q)))))))
set_option maxRecDepth 20000 in
theorem wr_sweep_96_ok {d : Nat} {x1 : Int32} {x2 : Int32} {s : rf_S} {Q : rf_S → Prop} (h : wr_sweep_96 d x1 x2 s Q) : rf_R (d + 1) 49 (96, [(0, .ref rf_o), (1, .int x1), (2, .int x2)], [], s) (rf_qV Q) := by
  unfold wr_sweep_96 at h
  refine rf_R_wv rp_49 (rf_bk am_t49 56 9) 96 [(0, .ref rf_o), (1, .int x1), (2, .int x2)] [] s (by repeat (first | exact trivial | refine ⟨rfl, ?_⟩)) (by decide +kernel) ?_
  refine And.intro h.1 ?_
  replace h := h.2
  refine rf_R_if (b := am_cnd .ge x2 (s.2.2.1 20 ((s.1 76) + (Int32.ofInt 1)).toNatClampNeg)) (p := 143) (q := 111) (fun hb => ?_) (fun hb => ?_)
  · replace h := h.1 (of_decide_eq_true hb)
    exact rf_R_le (l := [(0, .ref rf_o), (1, .int x1)]) rfl rfl (⟨rfl, rfl, trivial⟩) (wr_sweep_143_ok h)
  · replace h := h.2 (of_decide_eq_false hb)
    refine rf_R_wv rp_49 (rf_bk am_t49 65 14) 111 [(0, .ref rf_o), (1, .int x1), (2, .int x2)] [] s (by repeat (first | exact trivial | refine ⟨rfl, ?_⟩)) (by decide +kernel) ?_
    refine And.intro h.1 ?_
    replace h := h.2
    refine And.intro h.1 ?_
    replace h := h.2
    refine And.intro h.1 ?_
    replace h := h.2
    refine rf_R_call (pc := 133) (q := ([.ref rf_o, .long (s.2.2.2 78 (s.2.2.1 21 x2.toNatClampNeg).toNatClampNeg)], [.int (s.2.2.1 21 x2.toNatClampNeg), .ref (rf_ad 78)])) rp_49 rfl rfl (by decide) rp_48 rfl (Nat.le_of_ble_eq_true rfl) ⟨rfl, Nat.le_of_ble_eq_true rfl⟩ h (fun v s1 h => ?_)
    obtain ⟨r1, rfl, h⟩ := h
    refine rf_R_wv rp_49 (rf_bk am_t49 80 1) 136 [(0, .ref rf_o), (1, .int x1), (2, .int x2)] [.long r1, .int (s.2.2.1 21 x2.toNatClampNeg), .ref (rf_ad 78)] s1 (by repeat (first | exact trivial | refine ⟨rfl, ?_⟩)) (by decide +kernel) ?_
    refine And.intro h.1 ?_
    replace h := h.2
    refine rf_R_wv rp_49 (rf_bk am_t49 81 2) 137 [(0, .ref rf_o), (1, .int x1), (2, .int x2)] [] (rf_sL s1 78 (s.2.2.1 21 x2.toNatClampNeg).toNatClampNeg r1) (by repeat (first | exact trivial | refine ⟨rfl, ?_⟩)) (by decide +kernel) ?_
    exact rf_R_le (l := [(0, .ref rf_o), (1, .int x1), (2, .int (x2 + Int32.ofInt 1))]) rfl rfl (⟨rfl, rfl, rfl, trivial⟩) h
/-- sweep ()V, from 44 on -/
def wr_sweep_44 (d : Nat) (x1 : Int32) (x2 : Int32) (s : rf_S) (Q : rf_S → Prop) : Prop := (rf_in (s.1 65) 1601 ∧ (((s.2.2.1 70 (s.1 65).toNatClampNeg) ≤ x2 → ((¬ (s.1 74) = 0 → wr_sweep_143 d x1 s Q) ∧ ((s.1 74) = 0 → (rf_in (s.1 76) 2101 ∧ rf_R (d + 1) 49 (96, [(0, .ref rf_o), (1, .int x1), (2, .int (s.2.2.1 20 (s.1 76).toNatClampNeg))], [], s) (rf_qV Q))))) ∧ (¬ ((s.2.2.1 70 (s.1 65).toNatClampNeg) ≤ x2) → (rf_in x2 6000 ∧ rf_J d 48 [(0, .ref rf_o), (1, .long (s.2.2.2 71 x2.toNatClampNeg))] s (fun r1 s1 => (rf_in x2 6000 ∧ rf_R (d + 1) 49 (44, [(0, .ref rf_o), (1, .int x1), (2, .int (x2 + Int32.ofInt 1))], [], (rf_sL s1 71 x2.toNatClampNeg r1)) (rf_qV Q)))))))
set_option maxRecDepth 20000 in
theorem wr_sweep_44_ok {d : Nat} {x1 : Int32} {x2 : Int32} {s : rf_S} {Q : rf_S → Prop} (h : wr_sweep_44 d x1 x2 s Q) : rf_R (d + 1) 49 (44, [(0, .ref rf_o), (1, .int x1), (2, .int x2)], [], s) (rf_qV Q) := by
  unfold wr_sweep_44 at h
  refine rf_R_wv rp_49 (rf_bk am_t49 28 7) 44 [(0, .ref rf_o), (1, .int x1), (2, .int x2)] [] s (by repeat (first | exact trivial | refine ⟨rfl, ?_⟩)) (by decide +kernel) ?_
  refine And.intro h.1 ?_
  replace h := h.2
  refine rf_R_if (b := am_cnd .ge x2 (s.2.2.1 70 (s.1 65).toNatClampNeg)) (p := 79) (q := 57) (fun hb => ?_) (fun hb => ?_)
  · replace h := h.1 (of_decide_eq_true hb)
    refine rf_R_wv rp_49 (rf_bk am_t49 47 3) 79 [(0, .ref rf_o), (1, .int x1), (2, .int x2)] [] s (by repeat (first | exact trivial | refine ⟨rfl, ?_⟩)) (by decide +kernel) ?_
    refine rf_R_if (b := am_cnd .ne (s.1 74) 0) (p := 143) (q := 86) (fun hb => ?_) (fun hb => ?_)
    · replace h := h.1 (of_decide_eq_true hb)
      exact rf_R_le (l := [(0, .ref rf_o), (1, .int x1)]) rfl rfl (⟨rfl, rfl, trivial⟩) (wr_sweep_143_ok h)
    · replace h := h.2 (Decidable.not_not.mp (of_decide_eq_false hb))
      refine rf_R_wv rp_49 (rf_bk am_t49 50 6) 86 [(0, .ref rf_o), (1, .int x1), (2, .int x2)] [] s (by repeat (first | exact trivial | refine ⟨rfl, ?_⟩)) (by decide +kernel) ?_
      refine And.intro h.1 ?_
      replace h := h.2
      exact rf_R_le (l := [(0, .ref rf_o), (1, .int x1), (2, .int (s.2.2.1 20 (s.1 76).toNatClampNeg))]) rfl rfl (⟨rfl, rfl, rfl, trivial⟩) h
  · replace h := h.2 (of_decide_eq_false hb)
    refine rf_R_wv rp_49 (rf_bk am_t49 35 8) 57 [(0, .ref rf_o), (1, .int x1), (2, .int x2)] [] s (by repeat (first | exact trivial | refine ⟨rfl, ?_⟩)) (by decide +kernel) ?_
    refine And.intro h.1 ?_
    replace h := h.2
    refine rf_R_call (pc := 69) (q := ([.ref rf_o, .long (s.2.2.2 71 x2.toNatClampNeg)], [.int x2, .ref (rf_ad 71)])) rp_49 rfl rfl (by decide) rp_48 rfl (Nat.le_of_ble_eq_true rfl) ⟨rfl, Nat.le_of_ble_eq_true rfl⟩ h (fun v s1 h => ?_)
    obtain ⟨r1, rfl, h⟩ := h
    refine rf_R_wv rp_49 (rf_bk am_t49 44 1) 72 [(0, .ref rf_o), (1, .int x1), (2, .int x2)] [.long r1, .int x2, .ref (rf_ad 71)] s1 (by repeat (first | exact trivial | refine ⟨rfl, ?_⟩)) (by decide +kernel) ?_
    refine And.intro h.1 ?_
    replace h := h.2
    refine rf_R_wv rp_49 (rf_bk am_t49 45 2) 73 [(0, .ref rf_o), (1, .int x1), (2, .int x2)] [] (rf_sL s1 71 x2.toNatClampNeg r1) (by repeat (first | exact trivial | refine ⟨rfl, ?_⟩)) (by decide +kernel) ?_
    exact rf_R_le (l := [(0, .ref rf_o), (1, .int x1), (2, .int (x2 + Int32.ofInt 1))]) rfl rfl (⟨rfl, rfl, rfl, trivial⟩) h
/-- sweep ()V, from 34 on -/
def wr_sweep_34 (d : Nat) (x2 : Int32) (y0 : Int32) (y1 : Int32) (s : rf_S) (Q : rf_S → Prop) : Prop := rf_R (d + 1) 49 (4, [(0, .ref rf_o), (1, .int (y1 + y0)), (2, .int (x2 + Int32.ofInt 1))], [], s) (rf_qV Q)
set_option maxRecDepth 20000 in
theorem wr_sweep_34_ok {d : Nat} {x2 : Int32} {y0 : Int32} {y1 : Int32} {s : rf_S} {Q : rf_S → Prop} (h : wr_sweep_34 d x2 y0 y1 s Q) : rf_R (d + 1) 49 (34, [(0, .ref rf_o), (2, .int x2)], [.int y0, .int y1], s) (rf_qV Q) := by
  unfold wr_sweep_34 at h
  refine rf_R_wv rp_49 (rf_bk am_t49 22 4) 34 [(0, .ref rf_o), (2, .int x2)] [.int y0, .int y1] s (by repeat (first | exact trivial | refine ⟨rfl, ?_⟩)) (by decide +kernel) ?_
  exact rf_R_le (l := [(0, .ref rf_o), (1, .int (y1 + y0)), (2, .int (x2 + Int32.ofInt 1))]) rfl rfl (⟨rfl, rfl, rfl, trivial⟩) h
/-- sweep ()V, from 4 on -/
def wr_sweep_4 (d : Nat) (x1 : Int32) (x2 : Int32) (s : rf_S) (Q : rf_S → Prop) : Prop := (((s.1 48) ≤ x2 → rf_R (d + 1) 49 (44, [(0, .ref rf_o), (1, .int x1), (2, .int (Int32.ofInt 0))], [], s) (rf_qV Q)) ∧ (¬ ((s.1 48) ≤ x2) → (rf_in x2 36000 ∧ (rf_in x2 36000 ∧ (((s.2.2.1 53 x2.toNatClampNeg) = 0 → wr_sweep_34 d x2 (Int32.ofInt 0) x1 (rf_sb s 54 x2.toNatClampNeg x1) Q) ∧ (¬ ((s.2.2.1 53 x2.toNatClampNeg) = 0) → wr_sweep_34 d x2 (Int32.ofInt 1) x1 (rf_sb s 54 x2.toNatClampNeg x1) Q))))))
set_option maxRecDepth 20000 in
theorem wr_sweep_4_ok {d : Nat} {x1 : Int32} {x2 : Int32} {s : rf_S} {Q : rf_S → Prop} (h : wr_sweep_4 d x1 x2 s Q) : rf_R (d + 1) 49 (4, [(0, .ref rf_o), (1, .int x1), (2, .int x2)], [], s) (rf_qV Q) := by
  unfold wr_sweep_4 at h
  refine rf_R_wv rp_49 (rf_bk am_t49 4 4) 4 [(0, .ref rf_o), (1, .int x1), (2, .int x2)] [] s (by repeat (first | exact trivial | refine ⟨rfl, ?_⟩)) (by decide +kernel) ?_
  refine rf_R_if (b := am_cnd .ge x2 (s.1 48)) (p := 42) (q := 12) (fun hb => ?_) (fun hb => ?_)
  · replace h := h.1 (of_decide_eq_true hb)
    refine rf_R_wv rp_49 (rf_bk am_t49 26 2) 42 [(0, .ref rf_o), (1, .int x1), (2, .int x2)] [] s (by repeat (first | exact trivial | refine ⟨rfl, ?_⟩)) (by decide +kernel) ?_
    exact rf_R_le (l := [(0, .ref rf_o), (1, .int x1), (2, .int (Int32.ofInt 0))]) rfl rfl (⟨rfl, rfl, rfl, trivial⟩) h
  · replace h := h.2 (of_decide_eq_false hb)
    refine rf_R_wv rp_49 (rf_bk am_t49 8 5) 12 [(0, .ref rf_o), (1, .int x1), (2, .int x2)] [] s (by repeat (first | exact trivial | refine ⟨rfl, ?_⟩)) (by decide +kernel) ?_
    refine And.intro h.1 ?_
    replace h := h.2
    refine rf_R_wv rp_49 (rf_bk am_t49 13 6) 19 [(0, .ref rf_o), (1, .int x1), (2, .int x2)] [] (rf_sb s 54 x2.toNatClampNeg x1) (by repeat (first | exact trivial | refine ⟨rfl, ?_⟩)) (by decide +kernel) ?_
    refine And.intro h.1 ?_
    replace h := h.2
    refine rf_R_if (b := am_cnd .eq (s.2.2.1 53 x2.toNatClampNeg) 0) (p := 33) (q := 29) (fun hb => ?_) (fun hb => ?_)
    · replace h := h.1 (of_decide_eq_true hb)
      refine rf_R_wv rp_49 (rf_bk am_t49 21 1) 33 [(0, .ref rf_o), (1, .int x1), (2, .int x2)] [.int x1] (rf_sb s 54 x2.toNatClampNeg x1) (by repeat (first | exact trivial | refine ⟨rfl, ?_⟩)) (by decide +kernel) ?_
      exact rf_R_le (l := [(0, .ref rf_o), (2, .int x2)]) rfl rfl (⟨rfl, rfl, trivial⟩) (wr_sweep_34_ok h)
    · replace h := h.2 (of_decide_eq_false hb)
      refine rf_R_wv rp_49 (rf_bk am_t49 19 2) 29 [(0, .ref rf_o), (1, .int x1), (2, .int x2)] [.int x1] (rf_sb s 54 x2.toNatClampNeg x1) (by repeat (first | exact trivial | refine ⟨rfl, ?_⟩)) (by decide +kernel) ?_
      exact rf_R_le (l := [(0, .ref rf_o), (2, .int x2)]) rfl rfl (⟨rfl, rfl, trivial⟩) (wr_sweep_34_ok h)
/-- sweep ()V, from 0 on -/
def wr_sweep (d : Nat) (s : rf_S) (Q : rf_S → Prop) : Prop := rf_R (d + 1) 49 (4, [(0, .ref rf_o), (1, .int (Int32.ofInt 0)), (2, .int (Int32.ofInt 0))], [], s) (rf_qV Q)
set_option maxRecDepth 20000 in
theorem wr_sweep_ok {d : Nat} {s : rf_S} {Q : rf_S → Prop} (h : wr_sweep d s Q) : rf_V (d + 1) 49 [(0, .ref rf_o)] s Q := by
  unfold wr_sweep at h
  unfold rf_V
  refine rf_R_wv rp_49 (rf_bk am_t49 0 4) 0 [(0, .ref rf_o)] [] s (by repeat (first | exact trivial | refine ⟨rfl, ?_⟩)) (by decide +kernel) ?_
  exact rf_R_le (l := [(0, .ref rf_o), (1, .int (Int32.ofInt 0)), (2, .int (Int32.ofInt 0))]) rfl rfl (⟨rfl, rfl, rfl, trivial⟩) h
/-- hasRoom (I)Z, from 0 on -/
def wr_hasRoom (d : Nat) (x1 : Int32) (s : rf_S) (Q : Int32 → rf_S → Prop) : Prop := ((x1 = 0 → Q (Int32.ofInt 1) s) ∧ (¬ (x1 = 0) → (((s.1 60) < ((s.1 61) + x1) → rf_I d 47 [(0, .ref rf_o)] s (fun r1 s1 => rf_V d 49 [(0, .ref rf_o)] (rf_si s1 61 r1) (fun s2 => (((s2.1 60) < ((s2.1 61) + x1) → Q (Int32.ofInt 0) s2) ∧ (¬ ((s2.1 60) < ((s2.1 61) + x1)) → Q (Int32.ofInt 1) s2))))) ∧ (¬ ((s.1 60) < ((s.1 61) + x1)) → Q (Int32.ofInt 1) s))))
set_option maxRecDepth 20000 in
theorem wr_hasRoom_ok {d : Nat} {x1 : Int32} {s : rf_S} {Q : Int32 → rf_S → Prop} (h : wr_hasRoom d x1 s Q) : rf_I (d + 1) 50 [(0, .ref rf_o), (1, .int x1)] s Q := by
  unfold wr_hasRoom at h
  unfold rf_I
  refine rf_R_wv rp_50 (rf_bk am_t50 0 2) 0 [(0, .ref rf_o), (1, .int x1)] [] s (by repeat (first | exact trivial | refine ⟨rfl, ?_⟩)) (by decide +kernel) ?_
  refine rf_R_if (b := am_cnd .eq x1 0) (p := 17) (q := 4) (fun hb => ?_) (fun hb => ?_)
  · replace h := h.1 (of_decide_eq_true hb)
    refine rf_R_wv rp_50 (rf_bk am_t50 9 1) 17 [(0, .ref rf_o), (1, .int x1)] [] s (by repeat (first | exact trivial | refine ⟨rfl, ?_⟩)) (by decide +kernel) ?_
    exact rf_R_ret (pc := 18) (v := some (.int (Int32.ofInt 1))) rp_50 rfl rfl rfl ⟨_, rfl, h⟩
  · replace h := h.2 (of_decide_eq_false hb)
    refine rf_R_wv rp_50 (rf_bk am_t50 2 7) 4 [(0, .ref rf_o), (1, .int x1)] [] s (by repeat (first | exact trivial | refine ⟨rfl, ?_⟩)) (by decide +kernel) ?_
    refine rf_R_if (b := am_cnd .gt ((s.1 61) + x1) (s.1 60)) (p := 19) (q := 17) (fun hb => ?_) (fun hb => ?_)
    · replace h := h.1 (of_decide_eq_true hb)
      refine rf_R_wv rp_50 (rf_bk am_t50 11 2) 19 [(0, .ref rf_o), (1, .int x1)] [] s (by repeat (first | exact trivial | refine ⟨rfl, ?_⟩)) (by decide +kernel) ?_
      refine rf_R_call (pc := 21) (q := ([.ref rf_o], [.ref rf_o])) rp_50 rfl rfl (by decide) rp_47 rfl (Nat.le_of_ble_eq_true rfl) ⟨rfl, Nat.le_of_ble_eq_true rfl⟩ h (fun v s1 h => ?_)
      obtain ⟨r1, rfl, h⟩ := h
      refine rf_R_wv rp_50 (rf_bk am_t50 14 1) 24 [(0, .ref rf_o), (1, .int x1)] [.int r1, .ref rf_o] s1 (by repeat (first | exact trivial | refine ⟨rfl, ?_⟩)) (by decide +kernel) ?_
      refine And.intro rfl ?_
      refine rf_R_wv rp_50 (rf_bk am_t50 15 1) 27 [(0, .ref rf_o), (1, .int x1)] [] (rf_si s1 61 r1) (by repeat (first | exact trivial | refine ⟨rfl, ?_⟩)) (by decide +kernel) ?_
      refine rf_R_call (pc := 28) (q := ([.ref rf_o], [])) rp_50 rfl rfl (by decide) rp_49 rfl (Nat.le_of_ble_eq_true rfl) ⟨rfl, Nat.le_of_ble_eq_true rfl⟩ h (fun v s2 h => ?_)
      obtain ⟨rfl, h⟩ := h
      refine rf_R_wv rp_50 (rf_bk am_t50 17 7) 31 [(0, .ref rf_o), (1, .int x1)] [] s2 (by repeat (first | exact trivial | refine ⟨rfl, ?_⟩)) (by decide +kernel) ?_
      refine rf_R_if (b := am_cnd .gt ((s2.1 61) + x1) (s2.1 60)) (p := 48) (q := 44) (fun hb => ?_) (fun hb => ?_)
      · replace h := h.1 (of_decide_eq_true hb)
        refine rf_R_wv rp_50 (rf_bk am_t50 26 1) 48 [(0, .ref rf_o), (1, .int x1)] [] s2 (by repeat (first | exact trivial | refine ⟨rfl, ?_⟩)) (by decide +kernel) ?_
        exact rf_R_ret (pc := 49) (v := some (.int (Int32.ofInt 0))) rp_50 rfl rfl rfl ⟨_, rfl, h⟩
      · replace h := h.2 (of_decide_eq_false hb)
        refine rf_R_wv rp_50 (rf_bk am_t50 24 2) 44 [(0, .ref rf_o), (1, .int x1)] [] s2 (by repeat (first | exact trivial | refine ⟨rfl, ?_⟩)) (by decide +kernel) ?_
        exact rf_R_ret (pc := 49) (v := some (.int (Int32.ofInt 1))) rp_50 rfl rfl rfl ⟨_, rfl, h⟩
    · replace h := h.2 (of_decide_eq_false hb)
      refine rf_R_wv rp_50 (rf_bk am_t50 9 1) 17 [(0, .ref rf_o), (1, .int x1)] [] s (by repeat (first | exact trivial | refine ⟨rfl, ?_⟩)) (by decide +kernel) ?_
      exact rf_R_ret (pc := 18) (v := some (.int (Int32.ofInt 1))) rp_50 rfl rfl rfl ⟨_, rfl, h⟩
/-- object (III)I, from 55 on -/
def wr_object_55 (d : Nat) (x3 : Int32) (x4 : Int32) (y0 : Int32) (y1 : Int32) (s : rf_S) (Q : Int32 → rf_S → Prop) : Prop := Q x4 (rf_si (rf_si (rf_si (rf_si s 57 (y1 + y0)) 48 ((s.1 48) + (Int32.ofInt 1))) 61 ((s.1 61) + ((Int32.ofInt 2) + x3))) 62 ((s.1 62) + ((Int32.ofInt 2) + x3)))
set_option maxRecDepth 20000 in
theorem wr_object_55_ok {d : Nat} {x3 : Int32} {x4 : Int32} {y0 : Int32} {y1 : Int32} {s : rf_S} {Q : Int32 → rf_S → Prop} (h : wr_object_55 d x3 x4 y0 y1 s Q) : rf_R d 51 (55, [(0, .ref rf_o), (3, .int x3), (4, .int x4)], [.int y0, .int y1, .ref rf_o], s) (rf_qI Q) := by
  unfold wr_object_55 at h
  refine rf_R_wv rp_51 (rf_bk am_t51 32 2) 55 [(0, .ref rf_o), (3, .int x3), (4, .int x4)] [.int y0, .int y1, .ref rf_o] s (by repeat (first | exact trivial | refine ⟨rfl, ?_⟩)) (by decide +kernel) ?_
  refine And.intro rfl ?_
  refine rf_R_wv rp_51 (rf_bk am_t51 34 6) 59 [(0, .ref rf_o), (3, .int x3), (4, .int x4)] [] (rf_si s 57 (y1 + y0)) (by repeat (first | exact trivial | refine ⟨rfl, ?_⟩)) (by decide +kernel) ?_
  refine And.intro rfl ?_
  refine rf_R_wv rp_51 (rf_bk am_t51 40 8) 69 [(0, .ref rf_o), (3, .int x3), (4, .int x4)] [] (rf_si (rf_si s 57 (y1 + y0)) 48 ((s.1 48) + (Int32.ofInt 1))) (by repeat (first | exact trivial | refine ⟨rfl, ?_⟩)) (by decide +kernel) ?_
  refine And.intro rfl ?_
  refine rf_R_wv rp_51 (rf_bk am_t51 48 8) 81 [(0, .ref rf_o), (3, .int x3), (4, .int x4)] [] (rf_si (rf_si (rf_si s 57 (y1 + y0)) 48 ((s.1 48) + (Int32.ofInt 1))) 61 ((s.1 61) + ((Int32.ofInt 2) + x3))) (by repeat (first | exact trivial | refine ⟨rfl, ?_⟩)) (by decide +kernel) ?_
  refine And.intro rfl ?_
  refine rf_R_wv rp_51 (rf_bk am_t51 56 1) 93 [(0, .ref rf_o), (3, .int x3), (4, .int x4)] [] (rf_si (rf_si (rf_si (rf_si s 57 (y1 + y0)) 48 ((s.1 48) + (Int32.ofInt 1))) 61 ((s.1 61) + ((Int32.ofInt 2) + x3))) 62 ((s.1 62) + ((Int32.ofInt 2) + x3))) (by repeat (first | exact trivial | refine ⟨rfl, ?_⟩)) (by decide +kernel) ?_
  exact rf_R_ret (pc := 95) (v := some (.int x4)) rp_51 rfl rfl rfl ⟨_, rfl, h⟩
/-- object (III)I, from 0 on -/
def wr_object (d : Nat) (x1 : Int32) (x2 : Int32) (x3 : Int32) (s : rf_S) (Q : Int32 → rf_S → Prop) : Prop := (rf_in (s.1 48) 36000 ∧ (rf_in (s.1 48) 36000 ∧ (rf_in (s.1 48) 36000 ∧ (rf_in (s.1 48) 36001 ∧ ((¬ x3 = 0 → wr_object_55 d x3 (s.1 48) x3 (s.1 57) (rf_sb (rf_sb (rf_sb (rf_sb s 49 (s.1 48).toNatClampNeg x1) 50 (s.1 48).toNatClampNeg x2) 52 (s.1 48).toNatClampNeg x3) 51 (s.1 48).toNatClampNeg (s.1 57)) Q) ∧ (x3 = 0 → wr_object_55 d x3 (s.1 48) (Int32.ofInt 1) (s.1 57) (rf_sb (rf_sb (rf_sb (rf_sb s 49 (s.1 48).toNatClampNeg x1) 50 (s.1 48).toNatClampNeg x2) 52 (s.1 48).toNatClampNeg x3) 51 (s.1 48).toNatClampNeg (s.1 57)) Q))))))
set_option maxRecDepth 20000 in
theorem wr_object_ok {d : Nat} {x1 : Int32} {x2 : Int32} {x3 : Int32} {s : rf_S} {Q : Int32 → rf_S → Prop} (h : wr_object d x1 x2 x3 s Q) : rf_I d 51 [(0, .ref rf_o), (1, .int x1), (2, .int x2), (3, .int x3)] s Q := by
  unfold wr_object at h
  unfold rf_I
  refine rf_R_wv rp_51 (rf_bk am_t51 0 8) 0 [(0, .ref rf_o), (1, .int x1), (2, .int x2), (3, .int x3)] [] s (by repeat (first | exact trivial | refine ⟨rfl, ?_⟩)) (by decide +kernel) ?_
  refine And.intro h.1 ?_
  replace h := h.2
  refine rf_R_wv rp_51 (rf_bk am_t51 8 5) 14 [(4, .int (s.1 48)), (0, .ref rf_o), (1, .int x1), (2, .int x2), (3, .int x3)] [] (rf_sb s 49 (s.1 48).toNatClampNeg x1) (by repeat (first | exact trivial | refine ⟨rfl, ?_⟩)) (by decide +kernel) ?_
  refine And.intro h.1 ?_
  replace h := h.2
  refine rf_R_wv rp_51 (rf_bk am_t51 13 5) 22 [(4, .int (s.1 48)), (0, .ref rf_o), (1, .int x1), (2, .int x2), (3, .int x3)] [] (rf_sb (rf_sb s 49 (s.1 48).toNatClampNeg x1) 50 (s.1 48).toNatClampNeg x2) (by repeat (first | exact trivial | refine ⟨rfl, ?_⟩)) (by decide +kernel) ?_
  refine And.intro h.1 ?_
  replace h := h.2
  refine rf_R_wv rp_51 (rf_bk am_t51 18 6) 30 [(4, .int (s.1 48)), (0, .ref rf_o), (1, .int x1), (2, .int x2), (3, .int x3)] [] (rf_sb (rf_sb (rf_sb s 49 (s.1 48).toNatClampNeg x1) 50 (s.1 48).toNatClampNeg x2) 52 (s.1 48).toNatClampNeg x3) (by repeat (first | exact trivial | refine ⟨rfl, ?_⟩)) (by decide +kernel) ?_
  refine And.intro h.1 ?_
  replace h := h.2
  refine rf_R_wv rp_51 (rf_bk am_t51 24 5) 41 [(4, .int (s.1 48)), (0, .ref rf_o), (1, .int x1), (2, .int x2), (3, .int x3)] [] (rf_sb (rf_sb (rf_sb (rf_sb s 49 (s.1 48).toNatClampNeg x1) 50 (s.1 48).toNatClampNeg x2) 52 (s.1 48).toNatClampNeg x3) 51 (s.1 48).toNatClampNeg (s.1 57)) (by repeat (first | exact trivial | refine ⟨rfl, ?_⟩)) (by decide +kernel) ?_
  refine rf_R_if (b := am_cnd .ne x3 0) (p := 54) (q := 50) (fun hb => ?_) (fun hb => ?_)
  · replace h := h.1 (of_decide_eq_true hb)
    refine rf_R_wv rp_51 (rf_bk am_t51 31 1) 54 [(4, .int (s.1 48)), (0, .ref rf_o), (1, .int x1), (2, .int x2), (3, .int x3)] [.int (s.1 57), .ref rf_o] (rf_sb (rf_sb (rf_sb (rf_sb s 49 (s.1 48).toNatClampNeg x1) 50 (s.1 48).toNatClampNeg x2) 52 (s.1 48).toNatClampNeg x3) 51 (s.1 48).toNatClampNeg (s.1 57)) (by repeat (first | exact trivial | refine ⟨rfl, ?_⟩)) (by decide +kernel) ?_
    exact rf_R_le (l := [(0, .ref rf_o), (3, .int x3), (4, .int (s.1 48))]) rfl rfl (⟨rfl, rfl, rfl, trivial⟩) (wr_object_55_ok h)
  · replace h := h.2 (Decidable.not_not.mp (of_decide_eq_false hb))
    refine rf_R_wv rp_51 (rf_bk am_t51 29 2) 50 [(4, .int (s.1 48)), (0, .ref rf_o), (1, .int x1), (2, .int x2), (3, .int x3)] [.int (s.1 57), .ref rf_o] (rf_sb (rf_sb (rf_sb (rf_sb s 49 (s.1 48).toNatClampNeg x1) 50 (s.1 48).toNatClampNeg x2) 52 (s.1 48).toNatClampNeg x3) 51 (s.1 48).toNatClampNeg (s.1 57)) (by repeat (first | exact trivial | refine ⟨rfl, ?_⟩)) (by decide +kernel) ?_
    exact rf_R_le (l := [(0, .ref rf_o), (3, .int x3), (4, .int (s.1 48))]) rfl rfl (⟨rfl, rfl, rfl, trivial⟩) (wr_object_55_ok h)
/-- cellsOfFrame (I)I, from 54 on -/
def wr_cellsOfFrame_54 (d : Nat) (x1 : Int32) (s : rf_S) (Q : Int32 → rf_S → Prop) : Prop := (rf_in (x1 + (Int32.ofInt 1)) 1601 ∧ rf_in x1 1601 ∧ Q (((Int32.ofInt 2) + (s.2.2.1 70 (x1 + (Int32.ofInt 1)).toNatClampNeg)) - (s.2.2.1 70 x1.toNatClampNeg)) s)
set_option maxRecDepth 20000 in
theorem wr_cellsOfFrame_54_ok {d : Nat} {x1 : Int32} {s : rf_S} {Q : Int32 → rf_S → Prop} (h : wr_cellsOfFrame_54 d x1 s Q) : rf_R d 52 (54, [(0, .ref rf_o), (1, .int x1)], [], s) (rf_qI Q) := by
  unfold wr_cellsOfFrame_54 at h
  refine rf_R_wv rp_52 (rf_bk am_t52 11 13) 54 [(0, .ref rf_o), (1, .int x1)] [] s (by repeat (first | exact trivial | refine ⟨rfl, ?_⟩)) (by decide +kernel) ?_
  refine And.intro h.1 ?_
  replace h := h.2
  refine And.intro h.1 ?_
  replace h := h.2
  exact rf_R_ret (pc := 71) (v := some (.int (((Int32.ofInt 2) + (s.2.2.1 70 (x1 + (Int32.ofInt 1)).toNatClampNeg)) - (s.2.2.1 70 x1.toNatClampNeg)))) rp_52 rfl rfl rfl ⟨_, rfl, h⟩
/-- cellsOfFrame (I)I, from 0 on -/
def wr_cellsOfFrame (d : Nat) (x1 : Int32) (s : rf_S) (Q : Int32 → rf_S → Prop) : Prop := (rf_in x1 1600 ∧ (((s.2.2.1 66 x1.toNatClampNeg) = 0 → Q (Int32.ofInt 3) s) ∧ (¬ ((s.2.2.1 66 x1.toNatClampNeg) = 0) → (((s.2.2.1 66 x1.toNatClampNeg) = 1 → wr_cellsOfFrame_54 d x1 s Q) ∧ (¬ ((s.2.2.1 66 x1.toNatClampNeg) = 1) → (((s.2.2.1 66 x1.toNatClampNeg) = 2 → wr_cellsOfFrame_54 d x1 s Q) ∧ (¬ ((s.2.2.1 66 x1.toNatClampNeg) = 2) → (((s.2.2.1 66 x1.toNatClampNeg) = 3 → Q (Int32.ofInt 3) s) ∧ (¬ ((s.2.2.1 66 x1.toNatClampNeg) = 3) → (((s.2.2.1 66 x1.toNatClampNeg) = 4 → wr_cellsOfFrame_54 d x1 s Q) ∧ (¬ ((s.2.2.1 66 x1.toNatClampNeg) = 4) → (((s.2.2.1 66 x1.toNatClampNeg) = 5 → Q (Int32.ofInt 2) s) ∧ (¬ ((s.2.2.1 66 x1.toNatClampNeg) = 5) → (((s.2.2.1 66 x1.toNatClampNeg) = 6 → Q (Int32.ofInt 4) s) ∧ (¬ ((s.2.2.1 66 x1.toNatClampNeg) = 6) → wr_cellsOfFrame_54 d x1 s Q)))))))))))))))
set_option maxRecDepth 20000 in
theorem wr_cellsOfFrame_ok {d : Nat} {x1 : Int32} {s : rf_S} {Q : Int32 → rf_S → Prop} (h : wr_cellsOfFrame d x1 s Q) : rf_I d 52 [(0, .ref rf_o), (1, .int x1)] s Q := by
  unfold wr_cellsOfFrame at h
  unfold rf_I
  refine rf_R_wv rp_52 (rf_bk am_t52 0 5) 0 [(0, .ref rf_o), (1, .int x1)] [] s (by repeat (first | exact trivial | refine ⟨rfl, ?_⟩)) (by decide +kernel) ?_
  refine And.intro h.1 ?_
  replace h := h.2
  refine rf_R_sw (fun hb => ?_) (fun hb => ?_)
  · replace h := h.1 hb
    refine rf_R_wv rp_52 (rf_bk am_t52 5 1) 48 [(0, .ref rf_o), (1, .int x1)] [] s (by repeat (first | exact trivial | refine ⟨rfl, ?_⟩)) (by decide +kernel) ?_
    exact rf_R_ret (pc := 49) (v := some (.int (Int32.ofInt 3))) rp_52 rfl rfl rfl ⟨_, rfl, h⟩
  replace h := h.2 hb
  refine rf_R_sw (fun hb => ?_) (fun hb => ?_)
  · replace h := h.1 hb
    exact rf_R_le (l := [(0, .ref rf_o), (1, .int x1)]) rfl rfl (⟨rfl, rfl, trivial⟩) (wr_cellsOfFrame_54_ok h)
  replace h := h.2 hb
  refine rf_R_sw (fun hb => ?_) (fun hb => ?_)
  · replace h := h.1 hb
    exact rf_R_le (l := [(0, .ref rf_o), (1, .int x1)]) rfl rfl (⟨rfl, rfl, trivial⟩) (wr_cellsOfFrame_54_ok h)
  replace h := h.2 hb
  refine rf_R_sw (fun hb => ?_) (fun hb => ?_)
  · replace h := h.1 hb
    refine rf_R_wv rp_52 (rf_bk am_t52 5 1) 48 [(0, .ref rf_o), (1, .int x1)] [] s (by repeat (first | exact trivial | refine ⟨rfl, ?_⟩)) (by decide +kernel) ?_
    exact rf_R_ret (pc := 49) (v := some (.int (Int32.ofInt 3))) rp_52 rfl rfl rfl ⟨_, rfl, h⟩
  replace h := h.2 hb
  refine rf_R_sw (fun hb => ?_) (fun hb => ?_)
  · replace h := h.1 hb
    exact rf_R_le (l := [(0, .ref rf_o), (1, .int x1)]) rfl rfl (⟨rfl, rfl, trivial⟩) (wr_cellsOfFrame_54_ok h)
  replace h := h.2 hb
  refine rf_R_sw (fun hb => ?_) (fun hb => ?_)
  · replace h := h.1 hb
    refine rf_R_wv rp_52 (rf_bk am_t52 7 1) 50 [(0, .ref rf_o), (1, .int x1)] [] s (by repeat (first | exact trivial | refine ⟨rfl, ?_⟩)) (by decide +kernel) ?_
    exact rf_R_ret (pc := 51) (v := some (.int (Int32.ofInt 2))) rp_52 rfl rfl rfl ⟨_, rfl, h⟩
  replace h := h.2 hb
  refine rf_R_sw (fun hb => ?_) (fun hb => ?_)
  · replace h := h.1 hb
    refine rf_R_wv rp_52 (rf_bk am_t52 9 1) 52 [(0, .ref rf_o), (1, .int x1)] [] s (by repeat (first | exact trivial | refine ⟨rfl, ?_⟩)) (by decide +kernel) ?_
    exact rf_R_ret (pc := 53) (v := some (.int (Int32.ofInt 4))) rp_52 rfl rfl rfl ⟨_, rfl, h⟩
  replace h := h.2 hb
  show rf_R d 52 (54, _, _, _) _
  exact rf_R_le (l := [(0, .ref rf_o), (1, .int x1)]) rfl rfl (⟨rfl, rfl, trivial⟩) (wr_cellsOfFrame_54_ok h)
/-- push (IIIZ)V, from 0 on -/
def wr_push (d : Nat) (x1 : Int32) (x2 : Int32) (x3 : Int32) (x4 : Int32) (s : rf_S) (Q : rf_S → Prop) : Prop := (rf_in (s.1 65) 1600 ∧ (rf_in (s.1 65) 1600 ∧ (rf_in (s.1 65) 1600 ∧ (rf_in (s.1 65) 1600 ∧ (rf_in (((s.1 65) + (Int32.ofInt 1)) - (Int32.ofInt 1)) 1601 ∧ rf_in ((s.1 65) + (Int32.ofInt 1)) 1601 ∧ Q (rf_sb (rf_si (rf_sb (rf_sb (rf_sb (rf_sb s 66 (s.1 65).toNatClampNeg x1) 67 (s.1 65).toNatClampNeg x2) 68 (s.1 65).toNatClampNeg x3) 69 (s.1 65).toNatClampNeg (vp_nar .boolean x4)) 65 ((s.1 65) + (Int32.ofInt 1))) 70 ((s.1 65) + (Int32.ofInt 1)).toNatClampNeg (s.2.2.1 70 (((s.1 65) + (Int32.ofInt 1)) - (Int32.ofInt 1)).toNatClampNeg)))))))
set_option maxRecDepth 20000 in
theorem wr_push_ok {d : Nat} {x1 : Int32} {x2 : Int32} {x3 : Int32} {x4 : Int32} {s : rf_S} {Q : rf_S → Prop} (h : wr_push d x1 x2 x3 x4 s Q) : rf_V d 53 [(0, .ref rf_o), (1, .int x1), (2, .int x2), (3, .int x3), (4, .int x4)] s Q := by
  unfold wr_push at h
  unfold rf_V
  refine rf_R_wv rp_53 (rf_bk am_t53 0 6) 0 [(0, .ref rf_o), (1, .int x1), (2, .int x2), (3, .int x3), (4, .int x4)] [] s (by repeat (first | exact trivial | refine ⟨rfl, ?_⟩)) (by decide +kernel) ?_
  refine And.intro h.1 ?_
  replace h := h.2
  refine rf_R_wv rp_53 (rf_bk am_t53 6 6) 10 [(0, .ref rf_o), (1, .int x1), (2, .int x2), (3, .int x3), (4, .int x4)] [] (rf_sb s 66 (s.1 65).toNatClampNeg x1) (by repeat (first | exact trivial | refine ⟨rfl, ?_⟩)) (by decide +kernel) ?_
  refine And.intro h.1 ?_
  replace h := h.2
  refine rf_R_wv rp_53 (rf_bk am_t53 12 6) 20 [(0, .ref rf_o), (1, .int x1), (2, .int x2), (3, .int x3), (4, .int x4)] [] (rf_sb (rf_sb s 66 (s.1 65).toNatClampNeg x1) 67 (s.1 65).toNatClampNeg x2) (by repeat (first | exact trivial | refine ⟨rfl, ?_⟩)) (by decide +kernel) ?_
  refine And.intro h.1 ?_
  replace h := h.2
  refine rf_R_wv rp_53 (rf_bk am_t53 18 6) 30 [(0, .ref rf_o), (1, .int x1), (2, .int x2), (3, .int x3), (4, .int x4)] [] (rf_sb (rf_sb (rf_sb s 66 (s.1 65).toNatClampNeg x1) 67 (s.1 65).toNatClampNeg x2) 68 (s.1 65).toNatClampNeg x3) (by repeat (first | exact trivial | refine ⟨rfl, ?_⟩)) (by decide +kernel) ?_
  refine And.intro h.1 ?_
  replace h := h.2
  refine rf_R_wv rp_53 (rf_bk am_t53 24 6) 41 [(0, .ref rf_o), (1, .int x1), (2, .int x2), (3, .int x3), (4, .int x4)] [] (rf_sb (rf_sb (rf_sb (rf_sb s 66 (s.1 65).toNatClampNeg x1) 67 (s.1 65).toNatClampNeg x2) 68 (s.1 65).toNatClampNeg x3) 69 (s.1 65).toNatClampNeg (vp_nar .boolean x4)) (by repeat (first | exact trivial | refine ⟨rfl, ?_⟩)) (by decide +kernel) ?_
  refine And.intro rfl ?_
  refine rf_R_wv rp_53 (rf_bk am_t53 30 12) 51 [(0, .ref rf_o), (1, .int x1), (2, .int x2), (3, .int x3), (4, .int x4)] [] (rf_si (rf_sb (rf_sb (rf_sb (rf_sb s 66 (s.1 65).toNatClampNeg x1) 67 (s.1 65).toNatClampNeg x2) 68 (s.1 65).toNatClampNeg x3) 69 (s.1 65).toNatClampNeg (vp_nar .boolean x4)) 65 ((s.1 65) + (Int32.ofInt 1))) (by repeat (first | exact trivial | refine ⟨rfl, ?_⟩)) (by decide +kernel) ?_
  refine And.intro h.1 ?_
  replace h := h.2
  refine And.intro h.1 ?_
  replace h := h.2
  exact rf_R_ret (pc := 71) rp_53 rfl rfl rfl ⟨rfl, h⟩
/-- lay (J)V, from 0 on -/
def wr_lay (d : Nat) (x1 : Int64) (s : rf_S) (Q : rf_S → Prop) : Prop := (rf_in (s.1 65) 1601 ∧ rf_in (s.2.2.1 70 (s.1 65).toNatClampNeg) 6000 ∧ (rf_in (s.1 65) 1601 ∧ rf_in (s.1 65) 1601 ∧ Q (rf_sb (rf_sL s 71 (s.2.2.1 70 (s.1 65).toNatClampNeg).toNatClampNeg x1) 70 (s.1 65).toNatClampNeg ((s.2.2.1 70 (s.1 65).toNatClampNeg) + (Int32.ofInt 1)))))
set_option maxRecDepth 20000 in
theorem wr_lay_ok {d : Nat} {x1 : Int64} {s : rf_S} {Q : rf_S → Prop} (h : wr_lay d x1 s Q) : rf_V d 54 [(0, .ref rf_o), (1, .long x1)] s Q := by
  unfold wr_lay at h
  unfold rf_V
  refine rf_R_wv rp_54 (rf_bk am_t54 0 9) 0 [(0, .ref rf_o), (1, .long x1)] [] s (by repeat (first | exact trivial | refine ⟨rfl, ?_⟩)) (by decide +kernel) ?_
  refine And.intro h.1 ?_
  replace h := h.2
  refine And.intro h.1 ?_
  replace h := h.2
  refine rf_R_wv rp_54 (rf_bk am_t54 9 9) 15 [(0, .ref rf_o), (1, .long x1)] [] (rf_sL s 71 (s.2.2.1 70 (s.1 65).toNatClampNeg).toNatClampNeg x1) (by repeat (first | exact trivial | refine ⟨rfl, ?_⟩)) (by decide +kernel) ?_
  refine And.intro h.1 ?_
  replace h := h.2
  refine And.intro h.1 ?_
  replace h := h.2
  exact rf_R_ret (pc := 28) rp_54 rfl rfl rfl ⟨rfl, h⟩
/-- laid ()V, from 0 on -/
def wr_laid (d : Nat) (s : rf_S) (Q : rf_S → Prop) : Prop := rf_I d 52 [(0, .ref rf_o), (1, .int ((s.1 65) - (Int32.ofInt 1)))] s (fun r1 s1 => Q (rf_si s1 72 ((s.1 72) + r1)))
set_option maxRecDepth 20000 in
theorem wr_laid_ok {d : Nat} {s : rf_S} {Q : rf_S → Prop} (h : wr_laid d s Q) : rf_V (d + 1) 55 [(0, .ref rf_o)] s Q := by
  unfold wr_laid at h
  unfold rf_V
  refine rf_R_wv rp_55 (rf_bk am_t55 0 8) 0 [(0, .ref rf_o)] [] s (by repeat (first | exact trivial | refine ⟨rfl, ?_⟩)) (by decide +kernel) ?_
  refine rf_R_call (pc := 12) (q := ([.ref rf_o, .int ((s.1 65) - (Int32.ofInt 1))], [.int (s.1 72), .ref rf_o])) rp_55 rfl rfl (by decide) rp_52 rfl (Nat.le_of_ble_eq_true rfl) ⟨rfl, Nat.le_of_ble_eq_true rfl⟩ h (fun v s1 h => ?_)
  obtain ⟨r1, rfl, h⟩ := h
  refine rf_R_wv rp_55 (rf_bk am_t55 9 2) 15 [(0, .ref rf_o)] [.int r1, .int (s.1 72), .ref rf_o] s1 (by repeat (first | exact trivial | refine ⟨rfl, ?_⟩)) (by decide +kernel) ?_
  refine And.intro rfl ?_
  exact rf_R_ret (pc := 19) rp_55 rfl rfl rfl ⟨rfl, h⟩
/-- layFree (I)V, from 7 on -/
def wr_layFree_7 (d : Nat) (x1 : Int32) (x2 : Int32) (s : rf_S) (Q : rf_S → Prop) : Prop := (rf_in (x1 + (Int32.ofInt 1)) 2101 ∧ (((s.2.2.1 20 (x1 + (Int32.ofInt 1)).toNatClampNeg) ≤ x2 → rf_V d 55 [(0, .ref rf_o)] s (fun s1 => Q s1)) ∧ (¬ ((s.2.2.1 20 (x1 + (Int32.ofInt 1)).toNatClampNeg) ≤ x2) → (rf_in x2 131072 ∧ rf_in (s.2.2.1 21 x2.toNatClampNeg) 1100 ∧ rf_V d 54 [(0, .ref rf_o), (1, .long (s.2.2.2 78 (s.2.2.1 21 x2.toNatClampNeg).toNatClampNeg))] s (fun s2 => rf_R (d + 1) 56 (7, [(0, .ref rf_o), (1, .int x1), (2, .int (x2 + Int32.ofInt 1))], [], s2) (rf_qV Q))))))
set_option maxRecDepth 20000 in
theorem wr_layFree_7_ok {d : Nat} {x1 : Int32} {x2 : Int32} {s : rf_S} {Q : rf_S → Prop} (h : wr_layFree_7 d x1 x2 s Q) : rf_R (d + 1) 56 (7, [(0, .ref rf_o), (1, .int x1), (2, .int x2)], [], s) (rf_qV Q) := by
  unfold wr_layFree_7 at h
  refine rf_R_wv rp_56 (rf_bk am_t56 5 8) 7 [(0, .ref rf_o), (1, .int x1), (2, .int x2)] [] s (by repeat (first | exact trivial | refine ⟨rfl, ?_⟩)) (by decide +kernel) ?_
  refine And.intro h.1 ?_
  replace h := h.2
  refine rf_R_if (b := am_cnd .ge x2 (s.2.2.1 20 (x1 + (Int32.ofInt 1)).toNatClampNeg)) (p := 40) (q := 19) (fun hb => ?_) (fun hb => ?_)
  · replace h := h.1 (of_decide_eq_true hb)
    refine rf_R_wv rp_56 (rf_bk am_t56 24 1) 40 [(0, .ref rf_o), (1, .int x1), (2, .int x2)] [] s (by repeat (first | exact trivial | refine ⟨rfl, ?_⟩)) (by decide +kernel) ?_
    refine rf_R_call (pc := 41) (q := ([.ref rf_o], [])) rp_56 rfl rfl (by decide) rp_55 rfl (Nat.le_of_ble_eq_true rfl) ⟨rfl, Nat.le_of_ble_eq_true rfl⟩ h (fun v s1 h => ?_)
    obtain ⟨rfl, h⟩ := h
    exact rf_R_ret (pc := 44) rp_56 rfl rfl rfl ⟨rfl, h⟩
  · replace h := h.2 (of_decide_eq_false hb)
    refine rf_R_wv rp_56 (rf_bk am_t56 13 8) 19 [(0, .ref rf_o), (1, .int x1), (2, .int x2)] [] s (by repeat (first | exact trivial | refine ⟨rfl, ?_⟩)) (by decide +kernel) ?_
    refine And.intro h.1 ?_
    replace h := h.2
    refine And.intro h.1 ?_
    replace h := h.2
    refine rf_R_call (pc := 31) (q := ([.ref rf_o, .long (s.2.2.2 78 (s.2.2.1 21 x2.toNatClampNeg).toNatClampNeg)], [])) rp_56 rfl rfl (by decide) rp_54 rfl (Nat.le_of_ble_eq_true rfl) ⟨rfl, Nat.le_of_ble_eq_true rfl⟩ h (fun v s2 h => ?_)
    obtain ⟨rfl, h⟩ := h
    refine rf_R_wv rp_56 (rf_bk am_t56 22 2) 34 [(0, .ref rf_o), (1, .int x1), (2, .int x2)] [] s2 (by repeat (first | exact trivial | refine ⟨rfl, ?_⟩)) (by decide +kernel) ?_
    exact rf_R_le (l := [(0, .ref rf_o), (1, .int x1), (2, .int (x2 + Int32.ofInt 1))]) rfl rfl (⟨rfl, rfl, rfl, trivial⟩) h
/-- layFree (I)V, from 0 on -/
def wr_layFree (d : Nat) (x1 : Int32) (s : rf_S) (Q : rf_S → Prop) : Prop := (rf_in x1 2101 ∧ rf_R (d + 1) 56 (7, [(0, .ref rf_o), (1, .int x1), (2, .int (s.2.2.1 20 x1.toNatClampNeg))], [], s) (rf_qV Q))
set_option maxRecDepth 20000 in
theorem wr_layFree_ok {d : Nat} {x1 : Int32} {s : rf_S} {Q : rf_S → Prop} (h : wr_layFree d x1 s Q) : rf_V (d + 1) 56 [(0, .ref rf_o), (1, .int x1)] s Q := by
  unfold wr_layFree at h
  unfold rf_V
  refine rf_R_wv rp_56 (rf_bk am_t56 0 5) 0 [(0, .ref rf_o), (1, .int x1)] [] s (by repeat (first | exact trivial | refine ⟨rfl, ?_⟩)) (by decide +kernel) ?_
  refine And.intro h.1 ?_
  replace h := h.2
  exact rf_R_le (l := [(0, .ref rf_o), (1, .int x1), (2, .int (s.2.2.1 20 x1.toNatClampNeg))]) rfl rfl (⟨rfl, rfl, rfl, trivial⟩) h
/-- pop ()V, from 0 on -/
def wr_pop (d : Nat) (s : rf_S) (Q : rf_S → Prop) : Prop := rf_I d 52 [(0, .ref rf_o), (1, .int ((s.1 65) - (Int32.ofInt 1)))] (rf_si s 65 ((s.1 65) - (Int32.ofInt 1))) (fun r1 s1 => Q (rf_si s1 72 ((s.1 72) - r1)))
set_option maxRecDepth 20000 in
theorem wr_pop_ok {d : Nat} {s : rf_S} {Q : rf_S → Prop} (h : wr_pop d s Q) : rf_V (d + 1) 57 [(0, .ref rf_o)] s Q := by
  unfold wr_pop at h
  unfold rf_V
  refine rf_R_wv rp_57 (rf_bk am_t57 0 6) 0 [(0, .ref rf_o)] [] s (by repeat (first | exact trivial | refine ⟨rfl, ?_⟩)) (by decide +kernel) ?_
  refine And.intro rfl ?_
  refine rf_R_wv rp_57 (rf_bk am_t57 6 6) 10 [(0, .ref rf_o)] [] (rf_si s 65 ((s.1 65) - (Int32.ofInt 1))) (by repeat (first | exact trivial | refine ⟨rfl, ?_⟩)) (by decide +kernel) ?_
  refine rf_R_call (pc := 20) (q := ([.ref rf_o, .int ((s.1 65) - (Int32.ofInt 1))], [.int (s.1 72), .ref rf_o])) rp_57 rfl rfl (by decide) rp_52 rfl (Nat.le_of_ble_eq_true rfl) ⟨rfl, Nat.le_of_ble_eq_true rfl⟩ h (fun v s1 h => ?_)
  obtain ⟨r1, rfl, h⟩ := h
  refine rf_R_wv rp_57 (rf_bk am_t57 13 2) 23 [(0, .ref rf_o)] [.int r1, .int (s.1 72), .ref rf_o] s1 (by repeat (first | exact trivial | refine ⟨rfl, ?_⟩)) (by decide +kernel) ?_
  refine And.intro rfl ?_
  exact rf_R_ret (pc := 27) rp_57 rfl rfl rfl ⟨rfl, h⟩
/-- stops (I)V, from 0 on -/
def wr_stops (d : Nat) (x1 : Int32) (s : rf_S) (Q : rf_S → Prop) : Prop := Q (rf_si (rf_si (rf_si (rf_si s 75 x1) 74 (Int32.ofInt 3)) 65 (Int32.ofInt 0)) 72 (Int32.ofInt 0))
set_option maxRecDepth 20000 in
theorem wr_stops_ok {d : Nat} {x1 : Int32} {s : rf_S} {Q : rf_S → Prop} (h : wr_stops d x1 s Q) : rf_V d 58 [(0, .ref rf_o), (1, .int x1)] s Q := by
  unfold wr_stops at h
  unfold rf_V
  refine rf_R_wv rp_58 (rf_bk am_t58 0 3) 0 [(0, .ref rf_o), (1, .int x1)] [] s (by repeat (first | exact trivial | refine ⟨rfl, ?_⟩)) (by decide +kernel) ?_
  refine And.intro rfl ?_
  refine rf_R_wv rp_58 (rf_bk am_t58 3 3) 5 [(0, .ref rf_o), (1, .int x1)] [] (rf_si s 75 x1) (by repeat (first | exact trivial | refine ⟨rfl, ?_⟩)) (by decide +kernel) ?_
  refine And.intro rfl ?_
  refine rf_R_wv rp_58 (rf_bk am_t58 6 3) 10 [(0, .ref rf_o), (1, .int x1)] [] (rf_si (rf_si s 75 x1) 74 (Int32.ofInt 3)) (by repeat (first | exact trivial | refine ⟨rfl, ?_⟩)) (by decide +kernel) ?_
  refine And.intro rfl ?_
  refine rf_R_wv rp_58 (rf_bk am_t58 9 3) 15 [(0, .ref rf_o), (1, .int x1)] [] (rf_si (rf_si (rf_si s 75 x1) 74 (Int32.ofInt 3)) 65 (Int32.ofInt 0)) (by repeat (first | exact trivial | refine ⟨rfl, ?_⟩)) (by decide +kernel) ?_
  refine And.intro rfl ?_
  exact rf_R_ret (pc := 20) rp_58 rfl rfl rfl ⟨rfl, h⟩
/-- may (II)Z, from 0 on -/
def wr_may (d : Nat) (x1 : Int32) (x2 : Int32) (s : rf_S) (Q : Int32 → rf_S → Prop) : Prop := ((((s.1 72) + x1) ≤ ((Int16.ofInt 3000).toInt32) → rf_I d 50 [(0, .ref rf_o), (1, .int x2)] s (fun r1 s1 => ((r1 = 0 → rf_V d 58 [(0, .ref rf_o), (1, .int ((Int8.ofInt 6).toInt32))] s1 (fun s2 => Q (Int32.ofInt 0) s2)) ∧ (¬ (r1 = 0) → Q (Int32.ofInt 1) s1)))) ∧ (¬ (((s.1 72) + x1) ≤ ((Int16.ofInt 3000).toInt32)) → rf_V d 58 [(0, .ref rf_o), (1, .int ((Int8.ofInt 7).toInt32))] s (fun s3 => Q (Int32.ofInt 0) s3)))
set_option maxRecDepth 20000 in
theorem wr_may_ok {d : Nat} {x1 : Int32} {x2 : Int32} {s : rf_S} {Q : Int32 → rf_S → Prop} (h : wr_may d x1 x2 s Q) : rf_I (d + 1) 59 [(0, .ref rf_o), (1, .int x1), (2, .int x2)] s Q := by
  unfold wr_may at h
  unfold rf_I
  refine rf_R_wv rp_59 (rf_bk am_t59 0 6) 0 [(0, .ref rf_o), (1, .int x1), (2, .int x2)] [] s (by repeat (first | exact trivial | refine ⟨rfl, ?_⟩)) (by decide +kernel) ?_
  refine rf_R_if (b := am_cnd .le ((s.1 72) + x1) ((Int16.ofInt 3000).toInt32)) (p := 20) (q := 12) (fun hb => ?_) (fun hb => ?_)
  · replace h := h.1 (of_decide_eq_true hb)
    refine rf_R_wv rp_59 (rf_bk am_t59 11 2) 20 [(0, .ref rf_o), (1, .int x1), (2, .int x2)] [] s (by repeat (first | exact trivial | refine ⟨rfl, ?_⟩)) (by decide +kernel) ?_
    refine rf_R_call (pc := 22) (q := ([.ref rf_o, .int x2], [])) rp_59 rfl rfl (by decide) rp_50 rfl (Nat.le_of_ble_eq_true rfl) ⟨rfl, Nat.le_of_ble_eq_true rfl⟩ h (fun v s1 h => ?_)
    obtain ⟨r1, rfl, h⟩ := h
    refine rf_R_wv rp_59 (rf_bk am_t59 14 1) 25 [(0, .ref rf_o), (1, .int x1), (2, .int x2)] [.int r1] s1 (by repeat (first | exact trivial | refine ⟨rfl, ?_⟩)) (by decide +kernel) ?_
    refine rf_R_if (b := am_cnd .eq r1 0) (p := 30) (q := 28) (fun hb => ?_) (fun hb => ?_)
    · replace h := h.1 (of_decide_eq_true hb)
      refine rf_R_wv rp_59 (rf_bk am_t59 17 2) 30 [(0, .ref rf_o), (1, .int x1), (2, .int x2)] [] s1 (by repeat (first | exact trivial | refine ⟨rfl, ?_⟩)) (by decide +kernel) ?_
      refine rf_R_call (pc := 33) (q := ([.ref rf_o, .int ((Int8.ofInt 6).toInt32)], [])) rp_59 rfl rfl (by decide) rp_58 rfl (Nat.le_of_ble_eq_true rfl) ⟨rfl, Nat.le_of_ble_eq_true rfl⟩ h (fun v s2 h => ?_)
      obtain ⟨rfl, h⟩ := h
      refine rf_R_wv rp_59 (rf_bk am_t59 20 1) 36 [(0, .ref rf_o), (1, .int x1), (2, .int x2)] [] s2 (by repeat (first | exact trivial | refine ⟨rfl, ?_⟩)) (by decide +kernel) ?_
      exact rf_R_ret (pc := 37) (v := some (.int (Int32.ofInt 0))) rp_59 rfl rfl rfl ⟨_, rfl, h⟩
    · replace h := h.2 (of_decide_eq_false hb)
      refine rf_R_wv rp_59 (rf_bk am_t59 15 1) 28 [(0, .ref rf_o), (1, .int x1), (2, .int x2)] [] s1 (by repeat (first | exact trivial | refine ⟨rfl, ?_⟩)) (by decide +kernel) ?_
      exact rf_R_ret (pc := 29) (v := some (.int (Int32.ofInt 1))) rp_59 rfl rfl rfl ⟨_, rfl, h⟩
  · replace h := h.2 (of_decide_eq_false hb)
    refine rf_R_wv rp_59 (rf_bk am_t59 6 2) 12 [(0, .ref rf_o), (1, .int x1), (2, .int x2)] [] s (by repeat (first | exact trivial | refine ⟨rfl, ?_⟩)) (by decide +kernel) ?_
    refine rf_R_call (pc := 15) (q := ([.ref rf_o, .int ((Int8.ofInt 7).toInt32)], [])) rp_59 rfl rfl (by decide) rp_58 rfl (Nat.le_of_ble_eq_true rfl) ⟨rfl, Nat.le_of_ble_eq_true rfl⟩ h (fun v s3 h => ?_)
    obtain ⟨rfl, h⟩ := h
    refine rf_R_wv rp_59 (rf_bk am_t59 9 1) 18 [(0, .ref rf_o), (1, .int x1), (2, .int x2)] [] s3 (by repeat (first | exact trivial | refine ⟨rfl, ?_⟩)) (by decide +kernel) ?_
    exact rf_R_ret (pc := 19) (v := some (.int (Int32.ofInt 0))) rp_59 rfl rfl rfl ⟨_, rfl, h⟩
/-- isSimple (I)Z, from 0 on -/
def wr_isSimple (d : Nat) (x1 : Int32) (s : rf_S) (Q : Int32 → rf_S → Prop) : Prop := (rf_in x1 2100 ∧ (((Int32.ofInt 2) < (s.2.2.1 12 x1.toNatClampNeg) → Q (Int32.ofInt 0) s) ∧ (¬ ((Int32.ofInt 2) < (s.2.2.1 12 x1.toNatClampNeg)) → Q (Int32.ofInt 1) s)))
set_option maxRecDepth 20000 in
theorem wr_isSimple_ok {d : Nat} {x1 : Int32} {s : rf_S} {Q : Int32 → rf_S → Prop} (h : wr_isSimple d x1 s Q) : rf_I d 60 [(0, .ref rf_o), (1, .int x1)] s Q := by
  unfold wr_isSimple at h
  unfold rf_I
  refine rf_R_wv rp_60 (rf_bk am_t60 0 6) 0 [(0, .ref rf_o), (1, .int x1)] [] s (by repeat (first | exact trivial | refine ⟨rfl, ?_⟩)) (by decide +kernel) ?_
  refine And.intro h.1 ?_
  replace h := h.2
  refine rf_R_if (b := am_cnd .gt (s.2.2.1 12 x1.toNatClampNeg) (Int32.ofInt 2)) (p := 14) (q := 10) (fun hb => ?_) (fun hb => ?_)
  · replace h := h.1 (of_decide_eq_true hb)
    refine rf_R_wv rp_60 (rf_bk am_t60 8 1) 14 [(0, .ref rf_o), (1, .int x1)] [] s (by repeat (first | exact trivial | refine ⟨rfl, ?_⟩)) (by decide +kernel) ?_
    exact rf_R_ret (pc := 15) (v := some (.int (Int32.ofInt 0))) rp_60 rfl rfl rfl ⟨_, rfl, h⟩
  · replace h := h.2 (of_decide_eq_false hb)
    refine rf_R_wv rp_60 (rf_bk am_t60 6 2) 10 [(0, .ref rf_o), (1, .int x1)] [] s (by repeat (first | exact trivial | refine ⟨rfl, ?_⟩)) (by decide +kernel) ?_
    exact rf_R_ret (pc := 15) (v := some (.int (Int32.ofInt 1))) rp_60 rfl rfl rfl ⟨_, rfl, h⟩
/-- isPlainDatum (I)Z, from 18 on -/
def wr_isPlainDatum_18 (d : Nat) (x1 : Int32) (x2 : Int32) (x3 : Int32) (s : rf_S) (Q : Int32 → rf_S → Prop) : Prop := (rf_in x1 2100 ∧ (((s.2.2.1 14 x1.toNatClampNeg) ≤ x3 → (am_fit .boolean (.int x2) = true ∧ Q x2 s)) ∧ (¬ ((s.2.2.1 14 x1.toNatClampNeg) ≤ x3) → ((x2 = 0 → (am_fit .boolean (.int x2) = true ∧ Q x2 s)) ∧ (¬ (x2 = 0) → (rf_in x1 2100 ∧ rf_in ((s.2.2.1 13 x1.toNatClampNeg) + x3) 9000 ∧ rf_I d 60 [(0, .ref rf_o), (1, .int (s.2.2.1 17 ((s.2.2.1 13 x1.toNatClampNeg) + x3).toNatClampNeg))] s (fun r1 s1 => rf_R (d + 1) 61 (18, [(0, .ref rf_o), (1, .int x1), (2, .int r1), (3, .int (x3 + Int32.ofInt 1))], [], s1) (rf_qI Q))))))))
set_option maxRecDepth 20000 in
theorem wr_isPlainDatum_18_ok {d : Nat} {x1 : Int32} {x2 : Int32} {x3 : Int32} {s : rf_S} {Q : Int32 → rf_S → Prop} (h : wr_isPlainDatum_18 d x1 x2 x3 s Q) : rf_R (d + 1) 61 (18, [(0, .ref rf_o), (1, .int x1), (2, .int x2), (3, .int x3)], [], s) (rf_qI Q) := by
  unfold wr_isPlainDatum_18 at h
  refine rf_R_wv rp_61 (rf_bk am_t61 12 6) 18 [(0, .ref rf_o), (1, .int x1), (2, .int x2), (3, .int x3)] [] s (by repeat (first | exact trivial | refine ⟨rfl, ?_⟩)) (by decide +kernel) ?_
  refine And.intro h.1 ?_
  replace h := h.2
  refine rf_R_if (b := am_cnd .ge x3 (s.2.2.1 14 x1.toNatClampNeg)) (p := 56) (q := 28) (fun hb => ?_) (fun hb => ?_)
  · replace h := h.1 (of_decide_eq_true hb)
    refine rf_R_wv rp_61 (rf_bk am_t61 34 1) 56 [(0, .ref rf_o), (1, .int x1), (2, .int x2), (3, .int x3)] [] s (by repeat (first | exact trivial | refine ⟨rfl, ?_⟩)) (by decide +kernel) ?_
    exact rf_R_retF (pc := 57) rp_61 rfl rfl h.1 ⟨_, rfl, h.2⟩
  · replace h := h.2 (of_decide_eq_false hb)
    refine rf_R_wv rp_61 (rf_bk am_t61 18 2) 28 [(0, .ref rf_o), (1, .int x1), (2, .int x2), (3, .int x3)] [] s (by repeat (first | exact trivial | refine ⟨rfl, ?_⟩)) (by decide +kernel) ?_
    refine rf_R_if (b := am_cnd .eq x2 0) (p := 56) (q := 32) (fun hb => ?_) (fun hb => ?_)
    · replace h := h.1 (of_decide_eq_true hb)
      refine rf_R_wv rp_61 (rf_bk am_t61 34 1) 56 [(0, .ref rf_o), (1, .int x1), (2, .int x2), (3, .int x3)] [] s (by repeat (first | exact trivial | refine ⟨rfl, ?_⟩)) (by decide +kernel) ?_
      exact rf_R_retF (pc := 57) rp_61 rfl rfl h.1 ⟨_, rfl, h.2⟩
    · replace h := h.2 (of_decide_eq_false hb)
      refine rf_R_wv rp_61 (rf_bk am_t61 20 10) 32 [(0, .ref rf_o), (1, .int x1), (2, .int x2), (3, .int x3)] [] s (by repeat (first | exact trivial | refine ⟨rfl, ?_⟩)) (by decide +kernel) ?_
      refine And.intro h.1 ?_
      replace h := h.2
      refine And.intro h.1 ?_
      replace h := h.2
      refine rf_R_call (pc := 46) (q := ([.ref rf_o, .int (s.2.2.1 17 ((s.2.2.1 13 x1.toNatClampNeg) + x3).toNatClampNeg)], [])) rp_61 rfl rfl (by decide) rp_60 rfl (Nat.le_of_ble_eq_true rfl) ⟨rfl, Nat.le_of_ble_eq_true rfl⟩ h (fun v s1 h => ?_)
      obtain ⟨r1, rfl, h⟩ := h
      refine rf_R_wv rp_61 (rf_bk am_t61 31 3) 49 [(0, .ref rf_o), (1, .int x1), (2, .int x2), (3, .int x3)] [.int r1] s1 (by repeat (first | exact trivial | refine ⟨rfl, ?_⟩)) (by decide +kernel) ?_
      exact rf_R_le (l := [(0, .ref rf_o), (1, .int x1), (2, .int r1), (3, .int (x3 + Int32.ofInt 1))]) rfl rfl (⟨rfl, rfl, rfl, rfl, trivial⟩) h
/-- isPlainDatum (I)Z, from 15 on -/
def wr_isPlainDatum_15 (d : Nat) (x1 : Int32) (y0 : Int32) (s : rf_S) (Q : Int32 → rf_S → Prop) : Prop := rf_R (d + 1) 61 (18, [(0, .ref rf_o), (1, .int x1), (2, .int y0), (3, .int (Int32.ofInt 0))], [], s) (rf_qI Q)
set_option maxRecDepth 20000 in
theorem wr_isPlainDatum_15_ok {d : Nat} {x1 : Int32} {y0 : Int32} {s : rf_S} {Q : Int32 → rf_S → Prop} (h : wr_isPlainDatum_15 d x1 y0 s Q) : rf_R (d + 1) 61 (15, [(0, .ref rf_o), (1, .int x1)], [.int y0], s) (rf_qI Q) := by
  unfold wr_isPlainDatum_15 at h
  refine rf_R_wv rp_61 (rf_bk am_t61 9 3) 15 [(0, .ref rf_o), (1, .int x1)] [.int y0] s (by repeat (first | exact trivial | refine ⟨rfl, ?_⟩)) (by decide +kernel) ?_
  exact rf_R_le (l := [(0, .ref rf_o), (1, .int x1), (2, .int y0), (3, .int (Int32.ofInt 0))]) rfl rfl (⟨rfl, rfl, rfl, rfl, trivial⟩) h
/-- isPlainDatum (I)Z, from 0 on -/
def wr_isPlainDatum (d : Nat) (x1 : Int32) (s : rf_S) (Q : Int32 → rf_S → Prop) : Prop := (rf_in x1 2100 ∧ ((¬ (s.2.2.1 12 x1.toNatClampNeg) = (Int32.ofInt 4) → wr_isPlainDatum_15 d x1 (Int32.ofInt 0) s Q) ∧ ((s.2.2.1 12 x1.toNatClampNeg) = (Int32.ofInt 4) → wr_isPlainDatum_15 d x1 (Int32.ofInt 1) s Q)))
set_option maxRecDepth 20000 in
theorem wr_isPlainDatum_ok {d : Nat} {x1 : Int32} {s : rf_S} {Q : Int32 → rf_S → Prop} (h : wr_isPlainDatum d x1 s Q) : rf_I (d + 1) 61 [(0, .ref rf_o), (1, .int x1)] s Q := by
  unfold wr_isPlainDatum at h
  unfold rf_I
  refine rf_R_wv rp_61 (rf_bk am_t61 0 6) 0 [(0, .ref rf_o), (1, .int x1)] [] s (by repeat (first | exact trivial | refine ⟨rfl, ?_⟩)) (by decide +kernel) ?_
  refine And.intro h.1 ?_
  replace h := h.2
  refine rf_R_if (b := am_cnd .ne (s.2.2.1 12 x1.toNatClampNeg) (Int32.ofInt 4)) (p := 14) (q := 10) (fun hb => ?_) (fun hb => ?_)
  · replace h := h.1 (of_decide_eq_true hb)
    refine rf_R_wv rp_61 (rf_bk am_t61 8 1) 14 [(0, .ref rf_o), (1, .int x1)] [] s (by repeat (first | exact trivial | refine ⟨rfl, ?_⟩)) (by decide +kernel) ?_
    exact rf_R_le (l := [(0, .ref rf_o), (1, .int x1)]) rfl rfl (⟨rfl, rfl, trivial⟩) (wr_isPlainDatum_15_ok h)
  · replace h := h.2 (Decidable.not_not.mp (of_decide_eq_false hb))
    refine rf_R_wv rp_61 (rf_bk am_t61 6 2) 10 [(0, .ref rf_o), (1, .int x1)] [] s (by repeat (first | exact trivial | refine ⟨rfl, ?_⟩)) (by decide +kernel) ?_
    exact rf_R_le (l := [(0, .ref rf_o), (1, .int x1)]) rfl rfl (⟨rfl, rfl, trivial⟩) (wr_isPlainDatum_15_ok h)
