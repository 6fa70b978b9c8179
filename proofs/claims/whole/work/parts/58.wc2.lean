/-! PART 58: the class, decompiled: Binder.cellsOf, Bytes.addFour, Bytes.addPiece, Bytes.addNumber, Heap.clear, Heap.used, Heap.made, Heap.hasRoom, Heap.make, Heap.header, Heap.about, Heap.slots, Heap.slotsOf, Heap.slot, Heap.setSlot, Heap.kindOf, Heap.makeBusy, Heap.makeDone, Heap.doneBy, Heap.keep, Heap.move, Heap.finishMove, Machine.exists, Machine.shown, Machine.stepsDone, Machine.cellsMade, Machine.frameCells, Machine.frameCount, Machine.delaysWorked, Machine.cellsReached, Machine.remove, Machine.clear, Machine.begin, Machine.run, Machine.isRunning, Machine.evaluateNext, Machine.enterNext, Machine.giveNext, Machine.fail -/
/-- LazyHouse$Binder.cellsOf (I)I, from 0 on -/
def wc_Binder_cellsOf (d : Nat) (x1 : Int32) (s : cf_S) (Q : Int32 → cf_S → Prop) : Prop := (((tb_get s 18 x1 ((Int8.ofInt 13).toInt32)) = 0 → Q (Int32.ofInt 0) s) ∧ (¬ ((tb_get s 18 x1 ((Int8.ofInt 13).toInt32)) = 0) → (((tb_get s 18 x1 ((Int8.ofInt 13).toInt32)) = 2 → Q ((Int32.ofInt 2) + (tb_get s 18 x1 (Int32.ofInt 4))) s) ∧ (¬ ((tb_get s 18 x1 ((Int8.ofInt 13).toInt32)) = 2) → cf_V (d + 9) 235 [(0, .ref 3), (1, .int x1)] s (fun s1 => Q ((Int32.ofInt 2) + (tb_get s1 18 x1 ((Int8.ofInt 12).toInt32))) s1)))))
set_option maxRecDepth 20000 in
theorem wc_Binder_cellsOf_ok {d : Nat} {x1 : Int32} {s : cf_S} {Q : Int32 → cf_S → Prop} (h : wc_Binder_cellsOf d x1 s Q) : cf_I (d + 10) 116 [(0, .ref 24), (1, .int x1)] s Q := by
  unfold wc_Binder_cellsOf at h
  unfold cf_I
  refine cf_R_w rp_116 (rf_bk am_t116 0 4) 0 [(0, .ref 24), (1, .int x1)] [] s (by repeat (first | exact trivial | refine ⟨rfl, ?_⟩)) (by decide +kernel) ?_
  refine cf_R_prim (pc := 7) (q := ([.ref 18, .int x1, .int ((Int8.ofInt 13).toInt32)], [])) rp_116 rfl rfl (by decide) (by decide) rp_273 rfl (Nat.le_of_ble_eq_true rfl) ⟨rfl, Nat.le_of_ble_eq_true rfl⟩ (cq_get rfl) ?_
  refine cf_R_w rp_116 (rf_bk am_t116 5 1) 10 [(0, .ref 24), (1, .int x1)] [.int (tb_get s 18 x1 ((Int8.ofInt 13).toInt32))] s (by repeat (first | exact trivial | refine ⟨rfl, ?_⟩)) (by decide +kernel) ?_
  refine cf_R_sw (fun hb => ?_) (fun hb => ?_)
  · replace h := h.1 hb
    refine cf_R_w rp_116 (rf_bk am_t116 6 1) 36 [(0, .ref 24), (1, .int x1)] [] s (by repeat (first | exact trivial | refine ⟨rfl, ?_⟩)) (by decide +kernel) ?_
    exact cf_R_ret (pc := 37) (v := some (.int (Int32.ofInt 0))) rp_116 rfl rfl rfl ⟨_, rfl, h⟩
  replace h := h.2 hb
  refine cf_R_sw (fun hb => ?_) (fun hb => ?_)
  · replace h := h.1 hb
    refine cf_R_w rp_116 (rf_bk am_t116 8 5) 38 [(0, .ref 24), (1, .int x1)] [] s (by repeat (first | exact trivial | refine ⟨rfl, ?_⟩)) (by decide +kernel) ?_
    refine cf_R_prim (pc := 45) (q := ([.ref 18, .int x1, .int (Int32.ofInt 4)], [.int (Int32.ofInt 2)])) rp_116 rfl rfl (by decide) (by decide) rp_273 rfl (Nat.le_of_ble_eq_true rfl) ⟨rfl, Nat.le_of_ble_eq_true rfl⟩ (cq_get rfl) ?_
    refine cf_R_w rp_116 (rf_bk am_t116 14 1) 48 [(0, .ref 24), (1, .int x1)] [.int (tb_get s 18 x1 (Int32.ofInt 4)), .int (Int32.ofInt 2)] s (by repeat (first | exact trivial | refine ⟨rfl, ?_⟩)) (by decide +kernel) ?_
    exact cf_R_ret (pc := 49) (v := some (.int ((Int32.ofInt 2) + (tb_get s 18 x1 (Int32.ofInt 4))))) rp_116 rfl rfl rfl ⟨_, rfl, h⟩
  replace h := h.2 hb
  show cf_R (d + 10) 116 (50, _, _, _) _
  refine cf_R_w rp_116 (rf_bk am_t116 16 3) 50 [(0, .ref 24), (1, .int x1)] [] s (by repeat (first | exact trivial | refine ⟨rfl, ?_⟩)) (by decide +kernel) ?_
  refine cf_R_call (pc := 55) (q := ([.ref 3, .int x1], [])) rp_116 rfl rfl (by decide) (by decide) rp_235 rfl (Nat.le_of_ble_eq_true rfl) ⟨rfl, Nat.le_of_ble_eq_true rfl⟩ h (fun v s1 h => ?_)
  obtain ⟨rfl, h⟩ := h
  refine cf_R_w rp_116 (rf_bk am_t116 20 5) 58 [(0, .ref 24), (1, .int x1)] [] s1 (by repeat (first | exact trivial | refine ⟨rfl, ?_⟩)) (by decide +kernel) ?_
  refine cf_R_prim (pc := 66) (q := ([.ref 18, .int x1, .int ((Int8.ofInt 12).toInt32)], [.int (Int32.ofInt 2)])) rp_116 rfl rfl (by decide) (by decide) rp_273 rfl (Nat.le_of_ble_eq_true rfl) ⟨rfl, Nat.le_of_ble_eq_true rfl⟩ (cq_get rfl) ?_
  refine cf_R_w rp_116 (rf_bk am_t116 26 1) 69 [(0, .ref 24), (1, .int x1)] [.int (tb_get s1 18 x1 ((Int8.ofInt 12).toInt32)), .int (Int32.ofInt 2)] s1 (by repeat (first | exact trivial | refine ⟨rfl, ?_⟩)) (by decide +kernel) ?_
  exact cf_R_ret (pc := 70) (v := some (.int ((Int32.ofInt 2) + (tb_get s1 18 x1 ((Int8.ofInt 12).toInt32))))) rp_116 rfl rfl rfl ⟨_, rfl, h⟩
/-- LazyHouse$Bytes.addFour (I)V, from 0 on -/
def wc_Bytes_addFour (d : Nat) (o : Nat) (x1 : Int32) (s : cf_S) (Q : cf_S → Prop) : Prop := (cf_cls o = some 3 ∧ (cf_cls o = some 3 ∧ (cf_cls o = some 3 ∧ (cf_cls o = some 3 ∧ Q (by_a (by_a (by_a (by_a s o (x1 >>> (((Int8.ofInt 24).toInt32) &&& 31))) o (x1 >>> (((Int8.ofInt 16).toInt32) &&& 31))) o (x1 >>> (((Int8.ofInt 8).toInt32) &&& 31))) o x1)))))
set_option maxRecDepth 20000 in
theorem wc_Bytes_addFour_ok {d : Nat} {o : Nat} {x1 : Int32} {s : cf_S} {Q : cf_S → Prop} (h : wc_Bytes_addFour d o x1 s Q) : cf_V (d + 10) 123 [(0, .ref o), (1, .int x1)] s Q := by
  unfold wc_Bytes_addFour at h
  unfold cf_V
  refine cf_R_w rp_123 (rf_bk am_t123 0 4) 0 [(0, .ref o), (1, .int x1)] [] s (by repeat (first | exact trivial | refine ⟨rfl, ?_⟩)) (by decide +kernel) ?_
  have hc := h.1
  replace h := h.2
  refine cf_R_prim (pc := 5) (q := ([.ref o, .int (x1 >>> (((Int8.ofInt 24).toInt32) &&& 31))], [])) rp_123 rfl rfl (by decide) (by decide) rp_122 rfl (Nat.le_of_ble_eq_true rfl) ⟨decide_eq_true hc, Nat.le_of_ble_eq_true rfl⟩ (cq_add hc) ?_
  refine cf_R_w rp_123 (rf_bk am_t123 5 4) 8 [(0, .ref o), (1, .int x1)] [] (by_a s o (x1 >>> (((Int8.ofInt 24).toInt32) &&& 31))) (by repeat (first | exact trivial | refine ⟨rfl, ?_⟩)) (by decide +kernel) ?_
  have hc := h.1
  replace h := h.2
  refine cf_R_prim (pc := 13) (q := ([.ref o, .int (x1 >>> (((Int8.ofInt 16).toInt32) &&& 31))], [])) rp_123 rfl rfl (by decide) (by decide) rp_122 rfl (Nat.le_of_ble_eq_true rfl) ⟨decide_eq_true hc, Nat.le_of_ble_eq_true rfl⟩ (cq_add hc) ?_
  refine cf_R_w rp_123 (rf_bk am_t123 10 4) 16 [(0, .ref o), (1, .int x1)] [] (by_a (by_a s o (x1 >>> (((Int8.ofInt 24).toInt32) &&& 31))) o (x1 >>> (((Int8.ofInt 16).toInt32) &&& 31))) (by repeat (first | exact trivial | refine ⟨rfl, ?_⟩)) (by decide +kernel) ?_
  have hc := h.1
  replace h := h.2
  refine cf_R_prim (pc := 21) (q := ([.ref o, .int (x1 >>> (((Int8.ofInt 8).toInt32) &&& 31))], [])) rp_123 rfl rfl (by decide) (by decide) rp_122 rfl (Nat.le_of_ble_eq_true rfl) ⟨decide_eq_true hc, Nat.le_of_ble_eq_true rfl⟩ (cq_add hc) ?_
  refine cf_R_w rp_123 (rf_bk am_t123 15 2) 24 [(0, .ref o), (1, .int x1)] [] (by_a (by_a (by_a s o (x1 >>> (((Int8.ofInt 24).toInt32) &&& 31))) o (x1 >>> (((Int8.ofInt 16).toInt32) &&& 31))) o (x1 >>> (((Int8.ofInt 8).toInt32) &&& 31))) (by repeat (first | exact trivial | refine ⟨rfl, ?_⟩)) (by decide +kernel) ?_
  have hc := h.1
  replace h := h.2
  refine cf_R_prim (pc := 26) (q := ([.ref o, .int x1], [])) rp_123 rfl rfl (by decide) (by decide) rp_122 rfl (Nat.le_of_ble_eq_true rfl) ⟨decide_eq_true hc, Nat.le_of_ble_eq_true rfl⟩ (cq_add hc) ?_
  exact cf_R_ret (pc := 29) rp_123 rfl rfl rfl ⟨rfl, h⟩
/-- LazyHouse$Bytes.addPiece (LLazyHouse$Bytes;II)V, from 3 on -/
def wc_Bytes_addPiece_3 (d : Nat) (x0 : Nat) (x1 : Nat) (x2 : Int32) (x3 : Int32) (x4 : Int32) (s : cf_S) (Q : cf_S → Prop) : Prop := ((x3 ≤ x4 → Q s) ∧ (¬ (x3 ≤ x4) → (cf_cls x1 = some 3 ∧ (cf_cls x0 = some 3 ∧ cf_R (d + 10) 125 (3, [(0, .ref x0), (1, .ref x1), (2, .int x2), (3, .int x3), (4, .int (x4 + Int32.ofInt 1))], [], (by_a s x0 (by_g s x1 (x2 + x4)))) (cf_qV Q)))))
set_option maxRecDepth 20000 in
theorem wc_Bytes_addPiece_3_ok {d : Nat} {x0 : Nat} {x1 : Nat} {x2 : Int32} {x3 : Int32} {x4 : Int32} {s : cf_S} {Q : cf_S → Prop} (h : wc_Bytes_addPiece_3 d x0 x1 x2 x3 x4 s Q) : cf_R (d + 10) 125 (3, [(0, .ref x0), (1, .ref x1), (2, .int x2), (3, .int x3), (4, .int x4)], [], s) (cf_qV Q) := by
  unfold wc_Bytes_addPiece_3 at h
  refine cf_R_w rp_125 (rf_bk am_t125 2 3) 3 [(0, .ref x0), (1, .ref x1), (2, .int x2), (3, .int x3), (4, .int x4)] [] s (by repeat (first | exact trivial | refine ⟨rfl, ?_⟩)) (by decide +kernel) ?_
  refine cf_R_if (b := am_cnd .ge x4 x3) (p := 27) (q := 9) (fun hb => ?_) (fun hb => ?_)
  · replace h := h.1 (of_decide_eq_true hb)
    exact cf_R_ret (pc := 27) rp_125 rfl rfl rfl ⟨rfl, h⟩
  · replace h := h.2 (of_decide_eq_false hb)
    refine cf_R_w rp_125 (rf_bk am_t125 5 5) 9 [(0, .ref x0), (1, .ref x1), (2, .int x2), (3, .int x3), (4, .int x4)] [] s (by repeat (first | exact trivial | refine ⟨rfl, ?_⟩)) (by decide +kernel) ?_
    have hc := h.1
    replace h := h.2
    refine cf_R_prim (pc := 15) (q := ([.ref x1, .int (x2 + x4)], [.ref x0])) rp_125 rfl rfl (by decide) (by decide) rp_120 rfl (Nat.le_of_ble_eq_true rfl) ⟨decide_eq_true hc, Nat.le_of_ble_eq_true rfl⟩ (cq_at hc) ?_
    have hc := h.1
    replace h := h.2
    refine cf_R_prim (pc := 18) (q := ([.ref x0, .int (by_g s x1 (x2 + x4))], [])) rp_125 rfl rfl (by decide) (by decide) rp_122 rfl (Nat.le_of_ble_eq_true rfl) ⟨decide_eq_true hc, Nat.le_of_ble_eq_true rfl⟩ (cq_add hc) ?_
    refine cf_R_w rp_125 (rf_bk am_t125 12 2) 21 [(0, .ref x0), (1, .ref x1), (2, .int x2), (3, .int x3), (4, .int x4)] [] (by_a s x0 (by_g s x1 (x2 + x4))) (by repeat (first | exact trivial | refine ⟨rfl, ?_⟩)) (by decide +kernel) ?_
    exact cf_R_le (l := [(0, .ref x0), (1, .ref x1), (2, .int x2), (3, .int x3), (4, .int (x4 + Int32.ofInt 1))]) rfl rfl (⟨rfl, rfl, rfl, rfl, rfl, trivial⟩) h
/-- LazyHouse$Bytes.addPiece (LLazyHouse$Bytes;II)V, from 0 on -/
def wc_Bytes_addPiece (d : Nat) (o : Nat) (x1 : Nat) (x2 : Int32) (x3 : Int32) (s : cf_S) (Q : cf_S → Prop) : Prop := cf_R (d + 10) 125 (3, [(0, .ref o), (1, .ref x1), (2, .int x2), (3, .int x3), (4, .int (Int32.ofInt 0))], [], s) (cf_qV Q)
set_option maxRecDepth 20000 in
theorem wc_Bytes_addPiece_ok {d : Nat} {o : Nat} {x1 : Nat} {x2 : Int32} {x3 : Int32} {s : cf_S} {Q : cf_S → Prop} (h : wc_Bytes_addPiece d o x1 x2 x3 s Q) : cf_V (d + 10) 125 [(0, .ref o), (1, .ref x1), (2, .int x2), (3, .int x3)] s Q := by
  unfold wc_Bytes_addPiece at h
  unfold cf_V
  refine cf_R_w rp_125 (rf_bk am_t125 0 2) 0 [(0, .ref o), (1, .ref x1), (2, .int x2), (3, .int x3)] [] s (by repeat (first | exact trivial | refine ⟨rfl, ?_⟩)) (by decide +kernel) ?_
  exact cf_R_le (l := [(0, .ref o), (1, .ref x1), (2, .int x2), (3, .int x3), (4, .int (Int32.ofInt 0))]) rfl rfl (⟨rfl, rfl, rfl, rfl, rfl, trivial⟩) h
/-- LazyHouse$Bytes.addNumber (I)V, from 56 on -/
def wc_Bytes_addNumber_56 (d : Nat) (x0 : Nat) (x2 : Int64) (x4 : Int64) (s : cf_S) (Q : cf_S → Prop) : Prop := (((lg_cmp x4 (Int64.ofNat 0)) ≤ 0 → Q s) ∧ (¬ ((lg_cmp x4 (Int64.ofNat 0)) ≤ 0) → (¬ x4 = 0 ∧ (cf_cls x0 = some 3 ∧ cf_R (d + 10) 126 (56, [(0, .ref x0), (2, .long x2), (4, .long (x4 / (Int64.ofNat 10)))], [], (by_a s x0 (((Int8.ofInt 48).toInt32) + (((x2 / x4) - (x2 / x4) / (Int64.ofNat 10) * (Int64.ofNat 10)).toInt32)))) (cf_qV Q)))))
set_option maxRecDepth 20000 in
theorem wc_Bytes_addNumber_56_ok {d : Nat} {x0 : Nat} {x2 : Int64} {x4 : Int64} {s : cf_S} {Q : cf_S → Prop} (h : wc_Bytes_addNumber_56 d x0 x2 x4 s Q) : cf_R (d + 10) 126 (56, [(0, .ref x0), (2, .long x2), (4, .long x4)], [], s) (cf_qV Q) := by
  unfold wc_Bytes_addNumber_56 at h
  refine cf_R_w rp_126 (rf_bk am_t126 32 4) 56 [(0, .ref x0), (2, .long x2), (4, .long x4)] [] s (by repeat (first | exact trivial | refine ⟨rfl, ?_⟩)) (by decide +kernel) ?_
  refine cf_R_if (b := am_cnd .le (lg_cmp x4 (Int64.ofNat 0)) 0) (p := 90) (q := 63) (fun hb => ?_) (fun hb => ?_)
  · replace h := h.1 (of_decide_eq_true hb)
    exact cf_R_ret (pc := 90) rp_126 rfl rfl rfl ⟨rfl, h⟩
  · replace h := h.2 (of_decide_eq_false hb)
    refine cf_R_w rp_126 (rf_bk am_t126 36 4) 63 [(0, .ref x0), (2, .long x2), (4, .long x4)] [] s (by repeat (first | exact trivial | refine ⟨rfl, ?_⟩)) (by decide +kernel) ?_
    refine cf_R_sk (pc := 69) rp_126 rfl rfl (cf_sk_ldiv h.1) ?_
    replace h := h.2
    refine cf_R_w rp_126 (rf_bk am_t126 41 1) 70 [(0, .ref x0), (2, .long x2), (4, .long x4)] [.long (x2 / x4), .int ((Int8.ofInt 48).toInt32), .ref x0] s (by repeat (first | exact trivial | refine ⟨rfl, ?_⟩)) (by decide +kernel) ?_
    refine cf_R_sk (pc := 73) rp_126 rfl rfl (cf_sk_lrem (by decide)) ?_
    refine cf_R_w rp_126 (rf_bk am_t126 43 2) 74 [(0, .ref x0), (2, .long x2), (4, .long x4)] [.long ((x2 / x4) - (x2 / x4) / (Int64.ofNat 10) * (Int64.ofNat 10)), .int ((Int8.ofInt 48).toInt32), .ref x0] s (by repeat (first | exact trivial | refine ⟨rfl, ?_⟩)) (by decide +kernel) ?_
    have hc := h.1
    replace h := h.2
    refine cf_R_prim (pc := 76) (q := ([.ref x0, .int (((Int8.ofInt 48).toInt32) + (((x2 / x4) - (x2 / x4) / (Int64.ofNat 10) * (Int64.ofNat 10)).toInt32))], [])) rp_126 rfl rfl (by decide) (by decide) rp_122 rfl (Nat.le_of_ble_eq_true rfl) ⟨decide_eq_true hc, Nat.le_of_ble_eq_true rfl⟩ (cq_add hc) ?_
    refine cf_R_w rp_126 (rf_bk am_t126 46 2) 79 [(0, .ref x0), (2, .long x2), (4, .long x4)] [] (by_a s x0 (((Int8.ofInt 48).toInt32) + (((x2 / x4) - (x2 / x4) / (Int64.ofNat 10) * (Int64.ofNat 10)).toInt32))) (by repeat (first | exact trivial | refine ⟨rfl, ?_⟩)) (by decide +kernel) ?_
    refine cf_R_sk (pc := 84) rp_126 rfl rfl (cf_sk_ldiv (by decide)) ?_
    refine cf_R_w rp_126 (rf_bk am_t126 49 2) 85 [(0, .ref x0), (2, .long x2), (4, .long x4)] [.long (x4 / (Int64.ofNat 10))] (by_a s x0 (((Int8.ofInt 48).toInt32) + (((x2 / x4) - (x2 / x4) / (Int64.ofNat 10) * (Int64.ofNat 10)).toInt32))) (by repeat (first | exact trivial | refine ⟨rfl, ?_⟩)) (by decide +kernel) ?_
    exact cf_R_le (l := [(0, .ref x0), (2, .long x2), (4, .long (x4 / (Int64.ofNat 10)))]) rfl rfl (⟨rfl, rfl, rfl, trivial⟩) h
/-- LazyHouse$Bytes.addNumber (I)V, from 24 on -/
def wc_Bytes_addNumber_24 (d : Nat) (x0 : Nat) (x2 : Int64) (x4 : Int64) (x6 : Int32) (s : cf_S) (Q : cf_S → Prop) : Prop := ((((Int8.ofInt 9).toInt32) ≤ x6 → cf_R (d + 10) 126 (56, [(0, .ref x0), (2, .long x2), (4, .long x4)], [], s) (cf_qV Q)) ∧ (¬ (((Int8.ofInt 9).toInt32) ≤ x6) → ((0 < (lg_cmp (x4 * (Int64.ofNat 10)) x2) → cf_R (d + 10) 126 (56, [(0, .ref x0), (2, .long x2), (4, .long x4)], [], s) (cf_qV Q)) ∧ (¬ (0 < (lg_cmp (x4 * (Int64.ofNat 10)) x2)) → cf_R (d + 10) 126 (24, [(0, .ref x0), (2, .long x2), (4, .long (x4 * (Int64.ofNat 10))), (6, .int (x6 + Int32.ofInt 1))], [], s) (cf_qV Q)))))
set_option maxRecDepth 20000 in
theorem wc_Bytes_addNumber_24_ok {d : Nat} {x0 : Nat} {x2 : Int64} {x4 : Int64} {x6 : Int32} {s : cf_S} {Q : cf_S → Prop} (h : wc_Bytes_addNumber_24 d x0 x2 x4 x6 s Q) : cf_R (d + 10) 126 (24, [(0, .ref x0), (2, .long x2), (4, .long x4), (6, .int x6)], [], s) (cf_qV Q) := by
  unfold wc_Bytes_addNumber_24 at h
  refine cf_R_w rp_126 (rf_bk am_t126 17 3) 24 [(0, .ref x0), (2, .long x2), (4, .long x4), (6, .int x6)] [] s (by repeat (first | exact trivial | refine ⟨rfl, ?_⟩)) (by decide +kernel) ?_
  refine cf_R_if (b := am_cnd .ge x6 ((Int8.ofInt 9).toInt32)) (p := 56) (q := 31) (fun hb => ?_) (fun hb => ?_)
  · replace h := h.1 (of_decide_eq_true hb)
    exact cf_R_le (l := [(0, .ref x0), (2, .long x2), (4, .long x4)]) rfl rfl (⟨rfl, rfl, rfl, trivial⟩) h
  · replace h := h.2 (of_decide_eq_false hb)
    refine cf_R_w rp_126 (rf_bk am_t126 20 6) 31 [(0, .ref x0), (2, .long x2), (4, .long x4), (6, .int x6)] [] s (by repeat (first | exact trivial | refine ⟨rfl, ?_⟩)) (by decide +kernel) ?_
    refine cf_R_if (b := am_cnd .gt (lg_cmp (x4 * (Int64.ofNat 10)) x2) 0) (p := 56) (q := 42) (fun hb => ?_) (fun hb => ?_)
    · replace h := h.1 (of_decide_eq_true hb)
      exact cf_R_le (l := [(0, .ref x0), (2, .long x2), (4, .long x4)]) rfl rfl (⟨rfl, rfl, rfl, trivial⟩) h
    · replace h := h.2 (of_decide_eq_false hb)
      refine cf_R_w rp_126 (rf_bk am_t126 26 6) 42 [(0, .ref x0), (2, .long x2), (4, .long x4), (6, .int x6)] [] s (by repeat (first | exact trivial | refine ⟨rfl, ?_⟩)) (by decide +kernel) ?_
      exact cf_R_le (l := [(0, .ref x0), (2, .long x2), (4, .long (x4 * (Int64.ofNat 10))), (6, .int (x6 + Int32.ofInt 1))]) rfl rfl (⟨rfl, rfl, rfl, rfl, trivial⟩) h
/-- LazyHouse$Bytes.addNumber (I)V, from 18 on -/
def wc_Bytes_addNumber_18 (d : Nat) (x0 : Nat) (x2 : Int64) (s : cf_S) (Q : cf_S → Prop) : Prop := cf_R (d + 10) 126 (24, [(0, .ref x0), (2, .long x2), (4, .long (Int64.ofNat 1)), (6, .int (Int32.ofInt 0))], [], s) (cf_qV Q)
set_option maxRecDepth 20000 in
theorem wc_Bytes_addNumber_18_ok {d : Nat} {x0 : Nat} {x2 : Int64} {s : cf_S} {Q : cf_S → Prop} (h : wc_Bytes_addNumber_18 d x0 x2 s Q) : cf_R (d + 10) 126 (18, [(0, .ref x0), (2, .long x2)], [], s) (cf_qV Q) := by
  unfold wc_Bytes_addNumber_18 at h
  refine cf_R_w rp_126 (rf_bk am_t126 13 4) 18 [(0, .ref x0), (2, .long x2)] [] s (by repeat (first | exact trivial | refine ⟨rfl, ?_⟩)) (by decide +kernel) ?_
  exact cf_R_le (l := [(0, .ref x0), (2, .long x2), (4, .long (Int64.ofNat 1)), (6, .int (Int32.ofInt 0))]) rfl rfl (⟨rfl, rfl, rfl, rfl, trivial⟩) h
/-- LazyHouse$Bytes.addNumber (I)V, from 0 on -/
def wc_Bytes_addNumber (d : Nat) (o : Nat) (x1 : Int32) (s : cf_S) (Q : cf_S → Prop) : Prop := ((0 ≤ (lg_cmp (x1.toInt64) (Int64.ofNat 0)) → wc_Bytes_addNumber_18 d o (x1.toInt64) s Q) ∧ (¬ (0 ≤ (lg_cmp (x1.toInt64) (Int64.ofNat 0))) → (cf_cls o = some 3 ∧ wc_Bytes_addNumber_18 d o (-(x1.toInt64)) (by_a s o ((Int8.ofInt 45).toInt32)) Q)))
set_option maxRecDepth 20000 in
theorem wc_Bytes_addNumber_ok {d : Nat} {o : Nat} {x1 : Int32} {s : cf_S} {Q : cf_S → Prop} (h : wc_Bytes_addNumber d o x1 s Q) : cf_V (d + 10) 126 [(0, .ref o), (1, .int x1)] s Q := by
  unfold wc_Bytes_addNumber at h
  unfold cf_V
  refine cf_R_w rp_126 (rf_bk am_t126 0 7) 0 [(0, .ref o), (1, .int x1)] [] s (by repeat (first | exact trivial | refine ⟨rfl, ?_⟩)) (by decide +kernel) ?_
  refine cf_R_if (b := am_cnd .ge (lg_cmp (x1.toInt64) (Int64.ofNat 0)) 0) (p := 18) (q := 9) (fun hb => ?_) (fun hb => ?_)
  · replace h := h.1 (of_decide_eq_true hb)
    exact cf_R_le (l := [(0, .ref o), (2, .long (x1.toInt64))]) rfl rfl (⟨rfl, rfl, trivial⟩) (wc_Bytes_addNumber_18_ok h)
  · replace h := h.2 (of_decide_eq_false hb)
    refine cf_R_w rp_126 (rf_bk am_t126 7 2) 9 [(2, .long (x1.toInt64)), (0, .ref o), (1, .int x1)] [] s (by repeat (first | exact trivial | refine ⟨rfl, ?_⟩)) (by decide +kernel) ?_
    have hc := h.1
    replace h := h.2
    refine cf_R_prim (pc := 12) (q := ([.ref o, .int ((Int8.ofInt 45).toInt32)], [])) rp_126 rfl rfl (by decide) (by decide) rp_122 rfl (Nat.le_of_ble_eq_true rfl) ⟨decide_eq_true hc, Nat.le_of_ble_eq_true rfl⟩ (cq_add hc) ?_
    refine cf_R_w rp_126 (rf_bk am_t126 10 3) 15 [(2, .long (x1.toInt64)), (0, .ref o), (1, .int x1)] [] (by_a s o ((Int8.ofInt 45).toInt32)) (by repeat (first | exact trivial | refine ⟨rfl, ?_⟩)) (by decide +kernel) ?_
    exact cf_R_le (l := [(0, .ref o), (2, .long (-(x1.toInt64)))]) rfl rfl (⟨rfl, rfl, trivial⟩) (wc_Bytes_addNumber_18_ok h)
/-- LazyHouse$Heap.clear (I)V, from 0 on -/
def wc_Heap_clear (d : Nat) (x1 : Int32) (s : cf_S) (Q : cf_S → Prop) : Prop := Q (cf_si (cf_si (cf_si s 26 2 x1) 26 3 (Int32.ofInt 0)) 26 4 (Int32.ofInt 0))
set_option maxRecDepth 20000 in
theorem wc_Heap_clear_ok {d : Nat} {x1 : Int32} {s : cf_S} {Q : cf_S → Prop} (h : wc_Heap_clear d x1 s Q) : cf_V d 128 [(0, .ref 26), (1, .int x1)] s Q := by
  unfold wc_Heap_clear at h
  unfold cf_V
  refine cf_R_w rp_128 (rf_bk am_t128 0 3) 0 [(0, .ref 26), (1, .int x1)] [] s (by repeat (first | exact trivial | refine ⟨rfl, ?_⟩)) (by decide +kernel) ?_
  refine And.intro rfl ?_
  refine cf_R_w rp_128 (rf_bk am_t128 3 3) 5 [(0, .ref 26), (1, .int x1)] [] (cf_si s 26 2 x1) (by repeat (first | exact trivial | refine ⟨rfl, ?_⟩)) (by decide +kernel) ?_
  refine And.intro rfl ?_
  refine cf_R_w rp_128 (rf_bk am_t128 6 3) 10 [(0, .ref 26), (1, .int x1)] [] (cf_si (cf_si s 26 2 x1) 26 3 (Int32.ofInt 0)) (by repeat (first | exact trivial | refine ⟨rfl, ?_⟩)) (by decide +kernel) ?_
  refine And.intro rfl ?_
  exact cf_R_ret (pc := 15) rp_128 rfl rfl rfl ⟨rfl, h⟩
/-- LazyHouse$Heap.used ()I, from 0 on -/
def wc_Heap_used (d : Nat) (s : cf_S) (Q : Int32 → cf_S → Prop) : Prop := Q (s.1 26 3) s
set_option maxRecDepth 20000 in
theorem wc_Heap_used_ok {d : Nat} {s : cf_S} {Q : Int32 → cf_S → Prop} (h : wc_Heap_used d s Q) : cf_I d 129 [(0, .ref 26)] s Q := by
  unfold wc_Heap_used at h
  unfold cf_I
  refine cf_R_w rp_129 (rf_bk am_t129 0 2) 0 [(0, .ref 26)] [] s (by repeat (first | exact trivial | refine ⟨rfl, ?_⟩)) (by decide +kernel) ?_
  exact cf_R_ret (pc := 4) (v := some (.int (s.1 26 3))) rp_129 rfl rfl rfl ⟨_, rfl, h⟩
/-- LazyHouse$Heap.made ()I, from 0 on -/
def wc_Heap_made (d : Nat) (s : cf_S) (Q : Int32 → cf_S → Prop) : Prop := Q (s.1 26 4) s
set_option maxRecDepth 20000 in
theorem wc_Heap_made_ok {d : Nat} {s : cf_S} {Q : Int32 → cf_S → Prop} (h : wc_Heap_made d s Q) : cf_I d 130 [(0, .ref 26)] s Q := by
  unfold wc_Heap_made at h
  unfold cf_I
  refine cf_R_w rp_130 (rf_bk am_t130 0 2) 0 [(0, .ref 26)] [] s (by repeat (first | exact trivial | refine ⟨rfl, ?_⟩)) (by decide +kernel) ?_
  exact cf_R_ret (pc := 4) (v := some (.int (s.1 26 4))) rp_130 rfl rfl rfl ⟨_, rfl, h⟩
/-- LazyHouse$Heap.hasRoom (I)Z, from 0 on -/
def wc_Heap_hasRoom (d : Nat) (x1 : Int32) (s : cf_S) (Q : Int32 → cf_S → Prop) : Prop := ((((s.1 26 2) - (s.1 26 3)) < x1 → Q (Int32.ofInt 0) s) ∧ (¬ (((s.1 26 2) - (s.1 26 3)) < x1) → Q (Int32.ofInt 1) s))
set_option maxRecDepth 20000 in
theorem wc_Heap_hasRoom_ok {d : Nat} {x1 : Int32} {s : cf_S} {Q : Int32 → cf_S → Prop} (h : wc_Heap_hasRoom d x1 s Q) : cf_I d 131 [(0, .ref 26), (1, .int x1)] s Q := by
  unfold wc_Heap_hasRoom at h
  unfold cf_I
  refine cf_R_w rp_131 (rf_bk am_t131 0 7) 0 [(0, .ref 26), (1, .int x1)] [] s (by repeat (first | exact trivial | refine ⟨rfl, ?_⟩)) (by decide +kernel) ?_
  refine cf_R_if (b := am_cnd .gt x1 ((s.1 26 2) - (s.1 26 3))) (p := 17) (q := 13) (fun hb => ?_) (fun hb => ?_)
  · replace h := h.1 (of_decide_eq_true hb)
    refine cf_R_w rp_131 (rf_bk am_t131 9 1) 17 [(0, .ref 26), (1, .int x1)] [] s (by repeat (first | exact trivial | refine ⟨rfl, ?_⟩)) (by decide +kernel) ?_
    exact cf_R_ret (pc := 18) (v := some (.int (Int32.ofInt 0))) rp_131 rfl rfl rfl ⟨_, rfl, h⟩
  · replace h := h.2 (of_decide_eq_false hb)
    refine cf_R_w rp_131 (rf_bk am_t131 7 2) 13 [(0, .ref 26), (1, .int x1)] [] s (by repeat (first | exact trivial | refine ⟨rfl, ?_⟩)) (by decide +kernel) ?_
    exact cf_R_ret (pc := 18) (v := some (.int (Int32.ofInt 1))) rp_131 rfl rfl rfl ⟨_, rfl, h⟩
/-- LazyHouse$Heap.make (III)I, from 0 on -/
def wc_Heap_make (d : Nat) (x1 : Int32) (x2 : Int32) (x3 : Int32) (s : cf_S) (Q : Int32 → cf_S → Prop) : Prop := (cf_cls (cf_h s) = some 11 ∧ cf_N (cf_si (cf_si s 26 3 ((s.1 26 3) + ((Int32.ofInt 2) + x3))) 26 4 ((s.1 26 4) + ((Int32.ofInt 2) + x3))) + 1 < 1000000000 ∧ cf_J (d + 9) 133 [(0, .int x1), (1, .int x2), (2, .int x3)] (wd_f (cf_si (cf_si s 26 3 ((s.1 26 3) + ((Int32.ofInt 2) + x3))) 26 4 ((s.1 26 4) + ((Int32.ofInt 2) + x3))) (cf_h s) ((s.1 26 3) + ((Int32.ofInt 2) + x3))) (fun r1 s1 => (cf_cls (cf_h s) = some 11 ∧ (cf_cls (cf_h s1) = some 11 ∧ Q (s.1 26 3) (wd_s (wd_s s1 (cf_h s) (s.1 26 3) r1) (cf_h s1) ((s.1 26 3) + (Int32.ofInt 1)) (Int64.ofNat 0))))))
set_option maxRecDepth 20000 in
theorem wc_Heap_make_ok {d : Nat} {x1 : Int32} {x2 : Int32} {x3 : Int32} {s : cf_S} {Q : Int32 → cf_S → Prop} (h : wc_Heap_make d x1 x2 x3 s Q) : cf_I (d + 10) 132 [(0, .ref 26), (1, .int x1), (2, .int x2), (3, .int x3)] s Q := by
  unfold wc_Heap_make at h
  unfold cf_I
  refine cf_R_w rp_132 (rf_bk am_t132 0 11) 0 [(0, .ref 26), (1, .int x1), (2, .int x2), (3, .int x3)] [] s (by repeat (first | exact trivial | refine ⟨rfl, ?_⟩)) (by decide +kernel) ?_
  refine And.intro rfl ?_
  refine cf_R_w rp_132 (rf_bk am_t132 11 8) 18 [(4, .int (s.1 26 3)), (0, .ref 26), (1, .int x1), (2, .int x2), (3, .int x3)] [] (cf_si s 26 3 ((s.1 26 3) + ((Int32.ofInt 2) + x3))) (by repeat (first | exact trivial | refine ⟨rfl, ?_⟩)) (by decide +kernel) ?_
  refine And.intro rfl ?_
  refine cf_R_w rp_132 (rf_bk am_t132 19 4) 30 [(4, .int (s.1 26 3)), (0, .ref 26), (1, .int x1), (2, .int x2), (3, .int x3)] [] (cf_si (cf_si s 26 3 ((s.1 26 3) + ((Int32.ofInt 2) + x3))) 26 4 ((s.1 26 4) + ((Int32.ofInt 2) + x3))) (by repeat (first | exact trivial | refine ⟨rfl, ?_⟩)) (by decide +kernel) ?_
  have hc := h.1
  replace h := h.2
  have hr := h.1
  replace h := h.2
  refine cf_R_prim (pc := 38) (q := ([.ref (cf_h s), .int ((s.1 26 3) + ((Int32.ofInt 2) + x3))], [])) rp_132 rfl rfl (by decide) (by decide) rp_279 rfl (Nat.le_of_ble_eq_true rfl) ⟨decide_eq_true hc, Nat.le_of_ble_eq_true rfl⟩ (cq_fit hc hr) ?_
  refine cf_R_w rp_132 (rf_bk am_t132 24 6) 41 [(4, .int (s.1 26 3)), (0, .ref 26), (1, .int x1), (2, .int x2), (3, .int x3)] [] (wd_f (cf_si (cf_si s 26 3 ((s.1 26 3) + ((Int32.ofInt 2) + x3))) 26 4 ((s.1 26 4) + ((Int32.ofInt 2) + x3))) (cf_h s) ((s.1 26 3) + ((Int32.ofInt 2) + x3))) (by repeat (first | exact trivial | refine ⟨rfl, ?_⟩)) (by decide +kernel) ?_
  refine cf_R_call (pc := 50) (q := ([.int x1, .int x2, .int x3], [.int (s.1 26 3), .ref (cf_h s)])) rp_132 rfl rfl (by decide) (by decide) rp_133 rfl (Nat.le_of_ble_eq_true rfl) ⟨rfl, Nat.le_of_ble_eq_true rfl⟩ h (fun v s1 h => ?_)
  obtain ⟨r1, rfl, h⟩ := h
  have hc := h.1
  replace h := h.2
  refine cf_R_prim (pc := 53) (q := ([.ref (cf_h s), .int (s.1 26 3), .long r1], [])) rp_132 rfl rfl (by decide) (by decide) rp_281 rfl (Nat.le_of_ble_eq_true rfl) ⟨decide_eq_true hc, Nat.le_of_ble_eq_true rfl⟩ (cq_wset hc) ?_
  refine cf_R_w rp_132 (rf_bk am_t132 32 6) 56 [(4, .int (s.1 26 3)), (0, .ref 26), (1, .int x1), (2, .int x2), (3, .int x3)] [] (wd_s s1 (cf_h s) (s.1 26 3) r1) (by repeat (first | exact trivial | refine ⟨rfl, ?_⟩)) (by decide +kernel) ?_
  have hc := h.1
  replace h := h.2
  refine cf_R_prim (pc := 65) (q := ([.ref (cf_h s1), .int ((s.1 26 3) + (Int32.ofInt 1)), .long (Int64.ofNat 0)], [])) rp_132 rfl rfl (by decide) (by decide) rp_281 rfl (Nat.le_of_ble_eq_true rfl) ⟨decide_eq_true hc, Nat.le_of_ble_eq_true rfl⟩ (cq_wset hc) ?_
  refine cf_R_w rp_132 (rf_bk am_t132 39 1) 68 [(4, .int (s.1 26 3)), (0, .ref 26), (1, .int x1), (2, .int x2), (3, .int x3)] [] (wd_s (wd_s s1 (cf_h s) (s.1 26 3) r1) (cf_h s1) ((s.1 26 3) + (Int32.ofInt 1)) (Int64.ofNat 0)) (by repeat (first | exact trivial | refine ⟨rfl, ?_⟩)) (by decide +kernel) ?_
  exact cf_R_ret (pc := 70) (v := some (.int (s.1 26 3))) rp_132 rfl rfl rfl ⟨_, rfl, h⟩
/-- LazyHouse$Heap.header (III)J, from 0 on -/
def wc_Heap_header (d : Nat) (x0 : Int32) (x1 : Int32) (x2 : Int32) (s : cf_S) (Q : Int64 → cf_S → Prop) : Prop := Q ((((x1.toInt64) <<< (((Int8.ofInt 32).toInt32).toInt64 &&& 63)) ||| ((x2.toInt64) <<< (((Int8.ofInt 8).toInt32).toInt64 &&& 63))) ||| (x0.toInt64)) s
set_option maxRecDepth 20000 in
theorem wc_Heap_header_ok {d : Nat} {x0 : Int32} {x1 : Int32} {x2 : Int32} {s : cf_S} {Q : Int64 → cf_S → Prop} (h : wc_Heap_header d x0 x1 x2 s Q) : cf_J d 133 [(0, .int x0), (1, .int x1), (2, .int x2)] s Q := by
  unfold wc_Heap_header at h
  unfold cf_J
  refine cf_R_w rp_133 (rf_bk am_t133 0 12) 0 [(0, .int x0), (1, .int x1), (2, .int x2)] [] s (by repeat (first | exact trivial | refine ⟨rfl, ?_⟩)) (by decide +kernel) ?_
  exact cf_R_ret (pc := 14) (v := some (.long ((((x1.toInt64) <<< (((Int8.ofInt 32).toInt32).toInt64 &&& 63)) ||| ((x2.toInt64) <<< (((Int8.ofInt 8).toInt32).toInt64 &&& 63))) ||| (x0.toInt64)))) rp_133 rfl rfl rfl ⟨_, rfl, h⟩
/-- LazyHouse$Heap.about (I)I, from 0 on -/
def wc_Heap_about (d : Nat) (x1 : Int32) (s : cf_S) (Q : Int32 → cf_S → Prop) : Prop := (cf_cls (cf_h s) = some 11 ∧ Q (((wd_g s (cf_h s) x1) >>> (((Int8.ofInt 32).toInt32).toInt64 &&& 63)).toInt32) s)
set_option maxRecDepth 20000 in
theorem wc_Heap_about_ok {d : Nat} {x1 : Int32} {s : cf_S} {Q : Int32 → cf_S → Prop} (h : wc_Heap_about d x1 s Q) : cf_I (d + 10) 134 [(0, .ref 26), (1, .int x1)] s Q := by
  unfold wc_Heap_about at h
  unfold cf_I
  refine cf_R_w rp_134 (rf_bk am_t134 0 3) 0 [(0, .ref 26), (1, .int x1)] [] s (by repeat (first | exact trivial | refine ⟨rfl, ?_⟩)) (by decide +kernel) ?_
  have hc := h.1
  replace h := h.2
  refine cf_R_prim (pc := 5) (q := ([.ref (cf_h s), .int x1], [])) rp_134 rfl rfl (by decide) (by decide) rp_280 rfl (Nat.le_of_ble_eq_true rfl) ⟨decide_eq_true hc, Nat.le_of_ble_eq_true rfl⟩ (cq_wget hc) ?_
  refine cf_R_w rp_134 (rf_bk am_t134 4 3) 8 [(0, .ref 26), (1, .int x1)] [.long (wd_g s (cf_h s) x1)] s (by repeat (first | exact trivial | refine ⟨rfl, ?_⟩)) (by decide +kernel) ?_
  exact cf_R_ret (pc := 12) (v := some (.int (((wd_g s (cf_h s) x1) >>> (((Int8.ofInt 32).toInt32).toInt64 &&& 63)).toInt32))) rp_134 rfl rfl rfl ⟨_, rfl, h⟩
/-- LazyHouse$Heap.slots (I)I, from 0 on -/
def wc_Heap_slots (d : Nat) (x1 : Int32) (s : cf_S) (Q : Int32 → cf_S → Prop) : Prop := (cf_cls (cf_h s) = some 11 ∧ cf_I (d + 9) 136 [(0, .long (wd_g s (cf_h s) x1))] s (fun r1 s1 => Q r1 s1))
set_option maxRecDepth 20000 in
theorem wc_Heap_slots_ok {d : Nat} {x1 : Int32} {s : cf_S} {Q : Int32 → cf_S → Prop} (h : wc_Heap_slots d x1 s Q) : cf_I (d + 10) 135 [(0, .ref 26), (1, .int x1)] s Q := by
  unfold wc_Heap_slots at h
  unfold cf_I
  refine cf_R_w rp_135 (rf_bk am_t135 0 3) 0 [(0, .ref 26), (1, .int x1)] [] s (by repeat (first | exact trivial | refine ⟨rfl, ?_⟩)) (by decide +kernel) ?_
  have hc := h.1
  replace h := h.2
  refine cf_R_prim (pc := 5) (q := ([.ref (cf_h s), .int x1], [])) rp_135 rfl rfl (by decide) (by decide) rp_280 rfl (Nat.le_of_ble_eq_true rfl) ⟨decide_eq_true hc, Nat.le_of_ble_eq_true rfl⟩ (cq_wget hc) ?_
  refine cf_R_call (pc := 8) (q := ([.long (wd_g s (cf_h s) x1)], [])) rp_135 rfl rfl (by decide) (by decide) rp_136 rfl (Nat.le_of_ble_eq_true rfl) ⟨rfl, Nat.le_of_ble_eq_true rfl⟩ h (fun v s1 h => ?_)
  obtain ⟨r1, rfl, h⟩ := h
  exact cf_R_ret (pc := 11) (v := some (.int r1)) rp_135 rfl rfl rfl ⟨_, rfl, h⟩
/-- LazyHouse$Heap.slotsOf (J)I, from 0 on -/
def wc_Heap_slotsOf (d : Nat) (x0 : Int64) (s : cf_S) (Q : Int32 → cf_S → Prop) : Prop := Q (((x0 >>> (((Int8.ofInt 8).toInt32).toInt64 &&& 63)) &&& (Int64.ofNat 16777215)).toInt32) s
set_option maxRecDepth 20000 in
theorem wc_Heap_slotsOf_ok {d : Nat} {x0 : Int64} {s : cf_S} {Q : Int32 → cf_S → Prop} (h : wc_Heap_slotsOf d x0 s Q) : cf_I d 136 [(0, .long x0)] s Q := by
  unfold wc_Heap_slotsOf at h
  unfold cf_I
  refine cf_R_w rp_136 (rf_bk am_t136 0 6) 0 [(0, .long x0)] [] s (by repeat (first | exact trivial | refine ⟨rfl, ?_⟩)) (by decide +kernel) ?_
  exact cf_R_ret (pc := 9) (v := some (.int (((x0 >>> (((Int8.ofInt 8).toInt32).toInt64 &&& 63)) &&& (Int64.ofNat 16777215)).toInt32))) rp_136 rfl rfl rfl ⟨_, rfl, h⟩
/-- LazyHouse$Heap.slot (II)J, from 0 on -/
def wc_Heap_slot (d : Nat) (x1 : Int32) (x2 : Int32) (s : cf_S) (Q : Int64 → cf_S → Prop) : Prop := (cf_cls (cf_h s) = some 11 ∧ Q (wd_g s (cf_h s) ((x1 + (Int32.ofInt 2)) + x2)) s)
set_option maxRecDepth 20000 in
theorem wc_Heap_slot_ok {d : Nat} {x1 : Int32} {x2 : Int32} {s : cf_S} {Q : Int64 → cf_S → Prop} (h : wc_Heap_slot d x1 x2 s Q) : cf_J (d + 10) 137 [(0, .ref 26), (1, .int x1), (2, .int x2)] s Q := by
  unfold wc_Heap_slot at h
  unfold cf_J
  refine cf_R_w rp_137 (rf_bk am_t137 0 7) 0 [(0, .ref 26), (1, .int x1), (2, .int x2)] [] s (by repeat (first | exact trivial | refine ⟨rfl, ?_⟩)) (by decide +kernel) ?_
  have hc := h.1
  replace h := h.2
  refine cf_R_prim (pc := 9) (q := ([.ref (cf_h s), .int ((x1 + (Int32.ofInt 2)) + x2)], [])) rp_137 rfl rfl (by decide) (by decide) rp_280 rfl (Nat.le_of_ble_eq_true rfl) ⟨decide_eq_true hc, Nat.le_of_ble_eq_true rfl⟩ (cq_wget hc) ?_
  exact cf_R_ret (pc := 12) (v := some (.long (wd_g s (cf_h s) ((x1 + (Int32.ofInt 2)) + x2)))) rp_137 rfl rfl rfl ⟨_, rfl, h⟩
/-- LazyHouse$Heap.setSlot (IIJ)V, from 0 on -/
def wc_Heap_setSlot (d : Nat) (x1 : Int32) (x2 : Int32) (x3 : Int64) (s : cf_S) (Q : cf_S → Prop) : Prop := (cf_cls (cf_h s) = some 11 ∧ Q (wd_s s (cf_h s) ((x1 + (Int32.ofInt 2)) + x2) x3))
set_option maxRecDepth 20000 in
theorem wc_Heap_setSlot_ok {d : Nat} {x1 : Int32} {x2 : Int32} {x3 : Int64} {s : cf_S} {Q : cf_S → Prop} (h : wc_Heap_setSlot d x1 x2 x3 s Q) : cf_V (d + 10) 138 [(0, .ref 26), (1, .int x1), (2, .int x2), (3, .long x3)] s Q := by
  unfold wc_Heap_setSlot at h
  unfold cf_V
  refine cf_R_w rp_138 (rf_bk am_t138 0 8) 0 [(0, .ref 26), (1, .int x1), (2, .int x2), (3, .long x3)] [] s (by repeat (first | exact trivial | refine ⟨rfl, ?_⟩)) (by decide +kernel) ?_
  have hc := h.1
  replace h := h.2
  refine cf_R_prim (pc := 10) (q := ([.ref (cf_h s), .int ((x1 + (Int32.ofInt 2)) + x2), .long x3], [])) rp_138 rfl rfl (by decide) (by decide) rp_281 rfl (Nat.le_of_ble_eq_true rfl) ⟨decide_eq_true hc, Nat.le_of_ble_eq_true rfl⟩ (cq_wset hc) ?_
  exact cf_R_ret (pc := 13) rp_138 rfl rfl rfl ⟨rfl, h⟩
/-- LazyHouse$Heap.kindOf (J)I, from 0 on -/
def wc_Heap_kindOf (d : Nat) (x1 : Int64) (s : cf_S) (Q : Int32 → cf_S → Prop) : Prop := ((¬ (rf_isOf x1) = (Int32.ofInt 3) → Q (Int32.ofInt 0) s) ∧ ((rf_isOf x1) = (Int32.ofInt 3) → (cf_cls (cf_h s) = some 11 ∧ Q (((wd_g s (cf_h s) (x1.toInt32)) &&& (Int64.ofNat 255)).toInt32) s)))
set_option maxRecDepth 20000 in
theorem wc_Heap_kindOf_ok {d : Nat} {x1 : Int64} {s : cf_S} {Q : Int32 → cf_S → Prop} (h : wc_Heap_kindOf d x1 s Q) : cf_I (d + 10) 139 [(0, .ref 26), (1, .long x1)] s Q := by
  unfold wc_Heap_kindOf at h
  unfold cf_I
  refine cf_R_w rp_139 (rf_bk am_t139 0 1) 0 [(0, .ref 26), (1, .long x1)] [] s (by repeat (first | exact trivial | refine ⟨rfl, ?_⟩)) (by decide +kernel) ?_
  refine cf_R_prim (pc := 1) (q := ([.long x1], [])) rp_139 rfl rfl (by decide) (by decide) rp_276 rfl (Nat.le_of_ble_eq_true rfl) ⟨rfl, Nat.le_of_ble_eq_true rfl⟩ (cq_tag) ?_
  refine cf_R_w rp_139 (rf_bk am_t139 2 2) 4 [(0, .ref 26), (1, .long x1)] [.int (rf_isOf x1)] s (by repeat (first | exact trivial | refine ⟨rfl, ?_⟩)) (by decide +kernel) ?_
  refine cf_R_if (b := am_cnd .ne (rf_isOf x1) (Int32.ofInt 3)) (p := 27) (q := 8) (fun hb => ?_) (fun hb => ?_)
  · replace h := h.1 (of_decide_eq_true hb)
    refine cf_R_w rp_139 (rf_bk am_t139 13 1) 27 [(0, .ref 26), (1, .long x1)] [] s (by repeat (first | exact trivial | refine ⟨rfl, ?_⟩)) (by decide +kernel) ?_
    exact cf_R_ret (pc := 28) (v := some (.int (Int32.ofInt 0))) rp_139 rfl rfl rfl ⟨_, rfl, h⟩
  · replace h := h.2 (Decidable.not_not.mp (of_decide_eq_false hb))
    refine cf_R_w rp_139 (rf_bk am_t139 4 3) 8 [(0, .ref 26), (1, .long x1)] [] s (by repeat (first | exact trivial | refine ⟨rfl, ?_⟩)) (by decide +kernel) ?_
    refine cf_R_prim (pc := 13) (q := ([.long x1], [.ref (cf_h s)])) rp_139 rfl rfl (by decide) (by decide) rp_277 rfl (Nat.le_of_ble_eq_true rfl) ⟨rfl, Nat.le_of_ble_eq_true rfl⟩ (cq_value) ?_
    have hc := h.1
    replace h := h.2
    refine cf_R_prim (pc := 16) (q := ([.ref (cf_h s), .int (x1.toInt32)], [])) rp_139 rfl rfl (by decide) (by decide) rp_280 rfl (Nat.le_of_ble_eq_true rfl) ⟨decide_eq_true hc, Nat.le_of_ble_eq_true rfl⟩ (cq_wget hc) ?_
    refine cf_R_w rp_139 (rf_bk am_t139 9 4) 19 [(0, .ref 26), (1, .long x1)] [.long (wd_g s (cf_h s) (x1.toInt32))] s (by repeat (first | exact trivial | refine ⟨rfl, ?_⟩)) (by decide +kernel) ?_
    exact cf_R_ret (pc := 28) (v := some (.int (((wd_g s (cf_h s) (x1.toInt32)) &&& (Int64.ofNat 255)).toInt32))) rp_139 rfl rfl rfl ⟨_, rfl, h⟩
/-- LazyHouse$Heap.makeBusy (I)V, from 0 on -/
def wc_Heap_makeBusy (d : Nat) (x1 : Int32) (s : cf_S) (Q : cf_S → Prop) : Prop := cf_J (d + 9) 133 [(0, .int (Int32.ofInt 2)), (1, .int (Int32.ofInt 0)), (2, .int (Int32.ofInt 0))] s (fun r1 s1 => (cf_cls (cf_h s) = some 11 ∧ Q (wd_s s1 (cf_h s) x1 r1)))
set_option maxRecDepth 20000 in
theorem wc_Heap_makeBusy_ok {d : Nat} {x1 : Int32} {s : cf_S} {Q : cf_S → Prop} (h : wc_Heap_makeBusy d x1 s Q) : cf_V (d + 10) 140 [(0, .ref 26), (1, .int x1)] s Q := by
  unfold wc_Heap_makeBusy at h
  unfold cf_V
  refine cf_R_w rp_140 (rf_bk am_t140 0 6) 0 [(0, .ref 26), (1, .int x1)] [] s (by repeat (first | exact trivial | refine ⟨rfl, ?_⟩)) (by decide +kernel) ?_
  refine cf_R_call (pc := 8) (q := ([.int (Int32.ofInt 2), .int (Int32.ofInt 0), .int (Int32.ofInt 0)], [.int x1, .ref (cf_h s)])) rp_140 rfl rfl (by decide) (by decide) rp_133 rfl (Nat.le_of_ble_eq_true rfl) ⟨rfl, Nat.le_of_ble_eq_true rfl⟩ h (fun v s1 h => ?_)
  obtain ⟨r1, rfl, h⟩ := h
  have hc := h.1
  replace h := h.2
  refine cf_R_prim (pc := 11) (q := ([.ref (cf_h s), .int x1, .long r1], [])) rp_140 rfl rfl (by decide) (by decide) rp_281 rfl (Nat.le_of_ble_eq_true rfl) ⟨decide_eq_true hc, Nat.le_of_ble_eq_true rfl⟩ (cq_wset hc) ?_
  exact cf_R_ret (pc := 14) rp_140 rfl rfl rfl ⟨rfl, h⟩
/-- LazyHouse$Heap.makeDone (IJ)V, from 0 on -/
def wc_Heap_makeDone (d : Nat) (x1 : Int32) (x2 : Int64) (s : cf_S) (Q : cf_S → Prop) : Prop := cf_J (d + 9) 133 [(0, .int (Int32.ofInt 3)), (1, .int (Int32.ofInt 0)), (2, .int (Int32.ofInt 0))] s (fun r1 s1 => (cf_cls (cf_h s) = some 11 ∧ (cf_cls (cf_h s1) = some 11 ∧ Q (wd_s (wd_s s1 (cf_h s) x1 r1) (cf_h s1) (x1 + (Int32.ofInt 1)) x2))))
set_option maxRecDepth 20000 in
theorem wc_Heap_makeDone_ok {d : Nat} {x1 : Int32} {x2 : Int64} {s : cf_S} {Q : cf_S → Prop} (h : wc_Heap_makeDone d x1 x2 s Q) : cf_V (d + 10) 141 [(0, .ref 26), (1, .int x1), (2, .long x2)] s Q := by
  unfold wc_Heap_makeDone at h
  unfold cf_V
  refine cf_R_w rp_141 (rf_bk am_t141 0 6) 0 [(0, .ref 26), (1, .int x1), (2, .long x2)] [] s (by repeat (first | exact trivial | refine ⟨rfl, ?_⟩)) (by decide +kernel) ?_
  refine cf_R_call (pc := 8) (q := ([.int (Int32.ofInt 3), .int (Int32.ofInt 0), .int (Int32.ofInt 0)], [.int x1, .ref (cf_h s)])) rp_141 rfl rfl (by decide) (by decide) rp_133 rfl (Nat.le_of_ble_eq_true rfl) ⟨rfl, Nat.le_of_ble_eq_true rfl⟩ h (fun v s1 h => ?_)
  obtain ⟨r1, rfl, h⟩ := h
  have hc := h.1
  replace h := h.2
  refine cf_R_prim (pc := 11) (q := ([.ref (cf_h s), .int x1, .long r1], [])) rp_141 rfl rfl (by decide) (by decide) rp_281 rfl (Nat.le_of_ble_eq_true rfl) ⟨decide_eq_true hc, Nat.le_of_ble_eq_true rfl⟩ (cq_wset hc) ?_
  refine cf_R_w rp_141 (rf_bk am_t141 8 6) 14 [(0, .ref 26), (1, .int x1), (2, .long x2)] [] (wd_s s1 (cf_h s) x1 r1) (by repeat (first | exact trivial | refine ⟨rfl, ?_⟩)) (by decide +kernel) ?_
  have hc := h.1
  replace h := h.2
  refine cf_R_prim (pc := 22) (q := ([.ref (cf_h s1), .int (x1 + (Int32.ofInt 1)), .long x2], [])) rp_141 rfl rfl (by decide) (by decide) rp_281 rfl (Nat.le_of_ble_eq_true rfl) ⟨decide_eq_true hc, Nat.le_of_ble_eq_true rfl⟩ (cq_wset hc) ?_
  exact cf_R_ret (pc := 25) rp_141 rfl rfl rfl ⟨rfl, h⟩
/-- LazyHouse$Heap.doneBy (I)J, from 0 on -/
def wc_Heap_doneBy (d : Nat) (x1 : Int32) (s : cf_S) (Q : Int64 → cf_S → Prop) : Prop := (cf_cls (cf_h s) = some 11 ∧ Q (wd_g s (cf_h s) (x1 + (Int32.ofInt 1))) s)
set_option maxRecDepth 20000 in
theorem wc_Heap_doneBy_ok {d : Nat} {x1 : Int32} {s : cf_S} {Q : Int64 → cf_S → Prop} (h : wc_Heap_doneBy d x1 s Q) : cf_J (d + 10) 142 [(0, .ref 26), (1, .int x1)] s Q := by
  unfold wc_Heap_doneBy at h
  unfold cf_J
  refine cf_R_w rp_142 (rf_bk am_t142 0 5) 0 [(0, .ref 26), (1, .int x1)] [] s (by repeat (first | exact trivial | refine ⟨rfl, ?_⟩)) (by decide +kernel) ?_
  have hc := h.1
  replace h := h.2
  refine cf_R_prim (pc := 7) (q := ([.ref (cf_h s), .int (x1 + (Int32.ofInt 1))], [])) rp_142 rfl rfl (by decide) (by decide) rp_280 rfl (Nat.le_of_ble_eq_true rfl) ⟨decide_eq_true hc, Nat.le_of_ble_eq_true rfl⟩ (cq_wget hc) ?_
  exact cf_R_ret (pc := 10) (v := some (.long (wd_g s (cf_h s) (x1 + (Int32.ofInt 1))))) rp_142 rfl rfl rfl ⟨_, rfl, h⟩
/-- LazyHouse$Heap.keep (J)J, from 5 on -/
def wc_Heap_keep_5 (d : Nat) (x3 : Int64) (x5 : Int32) (s : cf_S) (Q : Int64 → cf_S → Prop) : Prop := (((Int32.ofInt 2) ≤ x5 → Q x3 s) ∧ (¬ ((Int32.ofInt 2) ≤ x5) → ((¬ (rf_isOf x3) = (Int32.ofInt 3) → Q x3 s) ∧ ((rf_isOf x3) = (Int32.ofInt 3) → (cf_cls (56 - cf_h s) = some 11 ∧ (((((wd_g s (56 - cf_h s) (x3.toInt32)) &&& (Int64.ofNat 255)).toInt32) = (Int32.ofInt 3) → (cf_cls (56 - cf_h s) = some 11 ∧ cf_R (d + 10) 144 (5, [(0, .ref 26), (3, .long (wd_g s (56 - cf_h s) ((x3.toInt32) + (Int32.ofInt 1)))), (5, .int (x5 + Int32.ofInt 1))], [], s) (cf_qJ Q))) ∧ (¬ ((((wd_g s (56 - cf_h s) (x3.toInt32)) &&& (Int64.ofNat 255)).toInt32) = (Int32.ofInt 3)) → ((¬ (((wd_g s (56 - cf_h s) (x3.toInt32)) &&& (Int64.ofNat 255)).toInt32) = ((Int8.ofInt 7).toInt32) → cf_J (d + 9) 145 [(0, .ref 26), (1, .int (x3.toInt32))] s (fun r1 s1 => Q r1 s1)) ∧ ((((wd_g s (56 - cf_h s) (x3.toInt32)) &&& (Int64.ofNat 255)).toInt32) = ((Int8.ofInt 7).toInt32) → (cf_cls (56 - cf_h s) = some 11 ∧ Q (wd_g s (56 - cf_h s) ((x3.toInt32) + (Int32.ofInt 1))) s))))))))))
set_option maxRecDepth 20000 in
theorem wc_Heap_keep_5_ok {d : Nat} {x3 : Int64} {x5 : Int32} {s : cf_S} {Q : Int64 → cf_S → Prop} (h : wc_Heap_keep_5 d x3 x5 s Q) : cf_R (d + 10) 144 (5, [(0, .ref 26), (3, .long x3), (5, .int x5)], [], s) (cf_qJ Q) := by
  unfold wc_Heap_keep_5 at h
  refine cf_R_w rp_144 (rf_bk am_t144 4 3) 5 [(0, .ref 26), (3, .long x3), (5, .int x5)] [] s (by repeat (first | exact trivial | refine ⟨rfl, ?_⟩)) (by decide +kernel) ?_
  refine cf_R_if (b := am_cnd .ge x5 (Int32.ofInt 2)) (p := 93) (q := 11) (fun hb => ?_) (fun hb => ?_)
  · replace h := h.1 (of_decide_eq_true hb)
    refine cf_R_w rp_144 (rf_bk am_t144 48 1) 93 [(0, .ref 26), (3, .long x3), (5, .int x5)] [] s (by repeat (first | exact trivial | refine ⟨rfl, ?_⟩)) (by decide +kernel) ?_
    exact cf_R_ret (pc := 94) (v := some (.long x3)) rp_144 rfl rfl rfl ⟨_, rfl, h⟩
  · replace h := h.2 (of_decide_eq_false hb)
    refine cf_R_w rp_144 (rf_bk am_t144 7 1) 11 [(0, .ref 26), (3, .long x3), (5, .int x5)] [] s (by repeat (first | exact trivial | refine ⟨rfl, ?_⟩)) (by decide +kernel) ?_
    refine cf_R_prim (pc := 12) (q := ([.long x3], [])) rp_144 rfl rfl (by decide) (by decide) rp_276 rfl (Nat.le_of_ble_eq_true rfl) ⟨rfl, Nat.le_of_ble_eq_true rfl⟩ (cq_tag) ?_
    refine cf_R_w rp_144 (rf_bk am_t144 9 2) 15 [(0, .ref 26), (3, .long x3), (5, .int x5)] [.int (rf_isOf x3)] s (by repeat (first | exact trivial | refine ⟨rfl, ?_⟩)) (by decide +kernel) ?_
    refine cf_R_if (b := am_cnd .ne (rf_isOf x3) (Int32.ofInt 3)) (p := 93) (q := 19) (fun hb => ?_) (fun hb => ?_)
    · replace h := h.1 (of_decide_eq_true hb)
      refine cf_R_w rp_144 (rf_bk am_t144 48 1) 93 [(0, .ref 26), (3, .long x3), (5, .int x5)] [] s (by repeat (first | exact trivial | refine ⟨rfl, ?_⟩)) (by decide +kernel) ?_
      exact cf_R_ret (pc := 94) (v := some (.long x3)) rp_144 rfl rfl rfl ⟨_, rfl, h⟩
    · replace h := h.2 (Decidable.not_not.mp (of_decide_eq_false hb))
      refine cf_R_w rp_144 (rf_bk am_t144 11 1) 19 [(0, .ref 26), (3, .long x3), (5, .int x5)] [] s (by repeat (first | exact trivial | refine ⟨rfl, ?_⟩)) (by decide +kernel) ?_
      refine cf_R_prim (pc := 20) (q := ([.long x3], [])) rp_144 rfl rfl (by decide) (by decide) rp_277 rfl (Nat.le_of_ble_eq_true rfl) ⟨rfl, Nat.le_of_ble_eq_true rfl⟩ (cq_value) ?_
      refine cf_R_w rp_144 (rf_bk am_t144 13 4) 23 [(0, .ref 26), (3, .long x3), (5, .int x5)] [.int (x3.toInt32)] s (by repeat (first | exact trivial | refine ⟨rfl, ?_⟩)) (by decide +kernel) ?_
      have hc := h.1
      replace h := h.2
      refine cf_R_prim (pc := 31) (q := ([.ref (56 - cf_h s), .int (x3.toInt32)], [])) rp_144 rfl rfl (by decide) (by decide) rp_280 rfl (Nat.le_of_ble_eq_true rfl) ⟨decide_eq_true hc, Nat.le_of_ble_eq_true rfl⟩ (cq_wget hc) ?_
      refine cf_R_w rp_144 (rf_bk am_t144 18 7) 34 [(6, .int (x3.toInt32)), (0, .ref 26), (3, .long x3), (5, .int x5)] [.long (wd_g s (56 - cf_h s) (x3.toInt32))] s (by repeat (first | exact trivial | refine ⟨rfl, ?_⟩)) (by decide +kernel) ?_
      refine cf_R_if (b := am_cnd .eq (((wd_g s (56 - cf_h s) (x3.toInt32)) &&& (Int64.ofNat 255)).toInt32) (Int32.ofInt 3)) (p := 75) (q := 47) (fun hb => ?_) (fun hb => ?_)
      · replace h := h.1 (of_decide_eq_true hb)
        refine cf_R_w rp_144 (rf_bk am_t144 39 5) 75 [(7, .int (((wd_g s (56 - cf_h s) (x3.toInt32)) &&& (Int64.ofNat 255)).toInt32)), (6, .int (x3.toInt32)), (0, .ref 26), (3, .long x3), (5, .int x5)] [] s (by repeat (first | exact trivial | refine ⟨rfl, ?_⟩)) (by decide +kernel) ?_
        have hc := h.1
        replace h := h.2
        refine cf_R_prim (pc := 83) (q := ([.ref (56 - cf_h s), .int ((x3.toInt32) + (Int32.ofInt 1))], [])) rp_144 rfl rfl (by decide) (by decide) rp_280 rfl (Nat.le_of_ble_eq_true rfl) ⟨decide_eq_true hc, Nat.le_of_ble_eq_true rfl⟩ (cq_wget hc) ?_
        refine cf_R_w rp_144 (rf_bk am_t144 45 3) 86 [(7, .int (((wd_g s (56 - cf_h s) (x3.toInt32)) &&& (Int64.ofNat 255)).toInt32)), (6, .int (x3.toInt32)), (0, .ref 26), (3, .long x3), (5, .int x5)] [.long (wd_g s (56 - cf_h s) ((x3.toInt32) + (Int32.ofInt 1)))] s (by repeat (first | exact trivial | refine ⟨rfl, ?_⟩)) (by decide +kernel) ?_
        exact cf_R_le (l := [(0, .ref 26), (3, .long (wd_g s (56 - cf_h s) ((x3.toInt32) + (Int32.ofInt 1)))), (5, .int (x5 + Int32.ofInt 1))]) rfl rfl (⟨rfl, rfl, rfl, trivial⟩) h
      · replace h := h.2 (of_decide_eq_false hb)
        refine cf_R_w rp_144 (rf_bk am_t144 25 3) 47 [(7, .int (((wd_g s (56 - cf_h s) (x3.toInt32)) &&& (Int64.ofNat 255)).toInt32)), (6, .int (x3.toInt32)), (0, .ref 26), (3, .long x3), (5, .int x5)] [] s (by repeat (first | exact trivial | refine ⟨rfl, ?_⟩)) (by decide +kernel) ?_
        refine cf_R_if (b := am_cnd .ne (((wd_g s (56 - cf_h s) (x3.toInt32)) &&& (Int64.ofNat 255)).toInt32) ((Int8.ofInt 7).toInt32)) (p := 68) (q := 54) (fun hb => ?_) (fun hb => ?_)
        · replace h := h.1 (of_decide_eq_true hb)
          refine cf_R_w rp_144 (rf_bk am_t144 35 2) 68 [(7, .int (((wd_g s (56 - cf_h s) (x3.toInt32)) &&& (Int64.ofNat 255)).toInt32)), (6, .int (x3.toInt32)), (0, .ref 26), (3, .long x3), (5, .int x5)] [] s (by repeat (first | exact trivial | refine ⟨rfl, ?_⟩)) (by decide +kernel) ?_
          refine cf_R_call (pc := 71) (q := ([.ref 26, .int (x3.toInt32)], [])) rp_144 rfl rfl (by decide) (by decide) rp_145 rfl (Nat.le_of_ble_eq_true rfl) ⟨rfl, Nat.le_of_ble_eq_true rfl⟩ h (fun v s1 h => ?_)
          obtain ⟨r1, rfl, h⟩ := h
          exact cf_R_ret (pc := 74) (v := some (.long r1)) rp_144 rfl rfl rfl ⟨_, rfl, h⟩
        · replace h := h.2 (Decidable.not_not.mp (of_decide_eq_false hb))
          refine cf_R_w rp_144 (rf_bk am_t144 28 5) 54 [(7, .int (((wd_g s (56 - cf_h s) (x3.toInt32)) &&& (Int64.ofNat 255)).toInt32)), (6, .int (x3.toInt32)), (0, .ref 26), (3, .long x3), (5, .int x5)] [] s (by repeat (first | exact trivial | refine ⟨rfl, ?_⟩)) (by decide +kernel) ?_
          have hc := h.1
          replace h := h.2
          refine cf_R_prim (pc := 62) (q := ([.ref (56 - cf_h s), .int ((x3.toInt32) + (Int32.ofInt 1))], [])) rp_144 rfl rfl (by decide) (by decide) rp_280 rfl (Nat.le_of_ble_eq_true rfl) ⟨decide_eq_true hc, Nat.le_of_ble_eq_true rfl⟩ (cq_wget hc) ?_
          refine cf_R_w rp_144 (rf_bk am_t144 34 1) 65 [(7, .int (((wd_g s (56 - cf_h s) (x3.toInt32)) &&& (Int64.ofNat 255)).toInt32)), (6, .int (x3.toInt32)), (0, .ref 26), (3, .long x3), (5, .int x5)] [.long (wd_g s (56 - cf_h s) ((x3.toInt32) + (Int32.ofInt 1)))] s (by repeat (first | exact trivial | refine ⟨rfl, ?_⟩)) (by decide +kernel) ?_
          exact cf_R_ret (pc := 74) (v := some (.long (wd_g s (56 - cf_h s) ((x3.toInt32) + (Int32.ofInt 1))))) rp_144 rfl rfl rfl ⟨_, rfl, h⟩
/-- LazyHouse$Heap.keep (J)J, from 0 on -/
def wc_Heap_keep (d : Nat) (x1 : Int64) (s : cf_S) (Q : Int64 → cf_S → Prop) : Prop := cf_R (d + 10) 144 (5, [(0, .ref 26), (3, .long x1), (5, .int (Int32.ofInt 0))], [], s) (cf_qJ Q)
set_option maxRecDepth 20000 in
theorem wc_Heap_keep_ok {d : Nat} {x1 : Int64} {s : cf_S} {Q : Int64 → cf_S → Prop} (h : wc_Heap_keep d x1 s Q) : cf_J (d + 10) 144 [(0, .ref 26), (1, .long x1)] s Q := by
  unfold wc_Heap_keep at h
  unfold cf_J
  refine cf_R_w rp_144 (rf_bk am_t144 0 4) 0 [(0, .ref 26), (1, .long x1)] [] s (by repeat (first | exact trivial | refine ⟨rfl, ?_⟩)) (by decide +kernel) ?_
  exact cf_R_le (l := [(0, .ref 26), (3, .long x1), (5, .int (Int32.ofInt 0))]) rfl rfl (⟨rfl, rfl, rfl, trivial⟩) h
/-- LazyHouse$Heap.move (I)J, from 43 on -/
def wc_Heap_move_43 (d : Nat) (x1 : Int32) (x2 : Int32) (x3 : Int32) (x4 : Int32) (s : cf_S) (Q : Int64 → cf_S → Prop) : Prop := ((x2 ≤ x4 → cf_J (d + 9) 133 [(0, .int ((Int8.ofInt 7).toInt32)), (1, .int (Int32.ofInt 0)), (2, .int (Int32.ofInt 0))] s (fun r1 s1 => (cf_cls (56 - cf_h s) = some 11 ∧ (cf_cls (56 - cf_h s1) = some 11 ∧ Q (rf_word (Int32.ofInt 3) x3) (wd_s (wd_s s1 (56 - cf_h s) x1 r1) (56 - cf_h s1) (x1 + (Int32.ofInt 1)) (rf_word (Int32.ofInt 3) x3)))))) ∧ (¬ (x2 ≤ x4) → (cf_cls (56 - cf_h s) = some 11 ∧ (cf_cls (cf_h s) = some 11 ∧ cf_R (d + 10) 145 (43, [(0, .ref 26), (1, .int x1), (2, .int x2), (3, .int x3), (4, .int (x4 + Int32.ofInt 1))], [], (wd_s s (cf_h s) (x3 + x4) (wd_g s (56 - cf_h s) (x1 + x4)))) (cf_qJ Q)))))
set_option maxRecDepth 20000 in
theorem wc_Heap_move_43_ok {d : Nat} {x1 : Int32} {x2 : Int32} {x3 : Int32} {x4 : Int32} {s : cf_S} {Q : Int64 → cf_S → Prop} (h : wc_Heap_move_43 d x1 x2 x3 x4 s Q) : cf_R (d + 10) 145 (43, [(0, .ref 26), (1, .int x1), (2, .int x2), (3, .int x3), (4, .int x4)], [], s) (cf_qJ Q) := by
  unfold wc_Heap_move_43 at h
  refine cf_R_w rp_145 (rf_bk am_t145 24 3) 43 [(0, .ref 26), (1, .int x1), (2, .int x2), (3, .int x3), (4, .int x4)] [] s (by repeat (first | exact trivial | refine ⟨rfl, ?_⟩)) (by decide +kernel) ?_
  refine cf_R_if (b := am_cnd .ge x4 x2) (p := 77) (q := 49) (fun hb => ?_) (fun hb => ?_)
  · replace h := h.1 (of_decide_eq_true hb)
    refine cf_R_w rp_145 (rf_bk am_t145 41 2) 77 [(0, .ref 26), (1, .int x1), (2, .int x2), (3, .int x3), (4, .int x4)] [] s (by repeat (first | exact trivial | refine ⟨rfl, ?_⟩)) (by decide +kernel) ?_
    refine cf_R_prim (pc := 79) (q := ([.int (Int32.ofInt 3), .int x3], [])) rp_145 rfl rfl (by decide) (by decide) rp_275 rfl (Nat.le_of_ble_eq_true rfl) ⟨rfl, Nat.le_of_ble_eq_true rfl⟩ (cq_of) ?_
    refine cf_R_w rp_145 (rf_bk am_t145 44 7) 82 [(0, .ref 26), (1, .int x1), (2, .int x2), (3, .int x3), (4, .int x4)] [.long (rf_word (Int32.ofInt 3) x3)] s (by repeat (first | exact trivial | refine ⟨rfl, ?_⟩)) (by decide +kernel) ?_
    refine cf_R_call (pc := 93) (q := ([.int ((Int8.ofInt 7).toInt32), .int (Int32.ofInt 0), .int (Int32.ofInt 0)], [.int x1, .ref (56 - cf_h s)])) rp_145 rfl rfl (by decide) (by decide) rp_133 rfl (Nat.le_of_ble_eq_true rfl) ⟨rfl, Nat.le_of_ble_eq_true rfl⟩ h (fun v s1 h => ?_)
    obtain ⟨r1, rfl, h⟩ := h
    have hc := h.1
    replace h := h.2
    refine cf_R_prim (pc := 96) (q := ([.ref (56 - cf_h s), .int x1, .long r1], [])) rp_145 rfl rfl (by decide) (by decide) rp_281 rfl (Nat.le_of_ble_eq_true rfl) ⟨decide_eq_true hc, Nat.le_of_ble_eq_true rfl⟩ (cq_wset hc) ?_
    refine cf_R_w rp_145 (rf_bk am_t145 53 6) 99 [(4, .long (rf_word (Int32.ofInt 3) x3)), (0, .ref 26), (1, .int x1), (2, .int x2), (3, .int x3)] [] (wd_s s1 (56 - cf_h s) x1 r1) (by repeat (first | exact trivial | refine ⟨rfl, ?_⟩)) (by decide +kernel) ?_
    have hc := h.1
    replace h := h.2
    refine cf_R_prim (pc := 108) (q := ([.ref (56 - cf_h s1), .int (x1 + (Int32.ofInt 1)), .long (rf_word (Int32.ofInt 3) x3)], [])) rp_145 rfl rfl (by decide) (by decide) rp_281 rfl (Nat.le_of_ble_eq_true rfl) ⟨decide_eq_true hc, Nat.le_of_ble_eq_true rfl⟩ (cq_wset hc) ?_
    refine cf_R_w rp_145 (rf_bk am_t145 60 1) 111 [(4, .long (rf_word (Int32.ofInt 3) x3)), (0, .ref 26), (1, .int x1), (2, .int x2), (3, .int x3)] [] (wd_s (wd_s s1 (56 - cf_h s) x1 r1) (56 - cf_h s1) (x1 + (Int32.ofInt 1)) (rf_word (Int32.ofInt 3) x3)) (by repeat (first | exact trivial | refine ⟨rfl, ?_⟩)) (by decide +kernel) ?_
    exact cf_R_ret (pc := 113) (v := some (.long (rf_word (Int32.ofInt 3) x3))) rp_145 rfl rfl rfl ⟨_, rfl, h⟩
  · replace h := h.2 (of_decide_eq_false hb)
    refine cf_R_w rp_145 (rf_bk am_t145 27 10) 49 [(0, .ref 26), (1, .int x1), (2, .int x2), (3, .int x3), (4, .int x4)] [] s (by repeat (first | exact trivial | refine ⟨rfl, ?_⟩)) (by decide +kernel) ?_
    have hc := h.1
    replace h := h.2
    refine cf_R_prim (pc := 65) (q := ([.ref (56 - cf_h s), .int (x1 + x4)], [.int (x3 + x4), .ref (cf_h s)])) rp_145 rfl rfl (by decide) (by decide) rp_280 rfl (Nat.le_of_ble_eq_true rfl) ⟨decide_eq_true hc, Nat.le_of_ble_eq_true rfl⟩ (cq_wget hc) ?_
    have hc := h.1
    replace h := h.2
    refine cf_R_prim (pc := 68) (q := ([.ref (cf_h s), .int (x3 + x4), .long (wd_g s (56 - cf_h s) (x1 + x4))], [])) rp_145 rfl rfl (by decide) (by decide) rp_281 rfl (Nat.le_of_ble_eq_true rfl) ⟨decide_eq_true hc, Nat.le_of_ble_eq_true rfl⟩ (cq_wset hc) ?_
    refine cf_R_w rp_145 (rf_bk am_t145 39 2) 71 [(0, .ref 26), (1, .int x1), (2, .int x2), (3, .int x3), (4, .int x4)] [] (wd_s s (cf_h s) (x3 + x4) (wd_g s (56 - cf_h s) (x1 + x4))) (by repeat (first | exact trivial | refine ⟨rfl, ?_⟩)) (by decide +kernel) ?_
    exact cf_R_le (l := [(0, .ref 26), (1, .int x1), (2, .int x2), (3, .int x3), (4, .int (x4 + Int32.ofInt 1))]) rfl rfl (⟨rfl, rfl, rfl, rfl, rfl, trivial⟩) h
/-- LazyHouse$Heap.move (I)J, from 0 on -/
def wc_Heap_move (d : Nat) (x1 : Int32) (s : cf_S) (Q : Int64 → cf_S → Prop) : Prop := (cf_cls (56 - cf_h s) = some 11 ∧ cf_I (d + 9) 136 [(0, .long (wd_g s (56 - cf_h s) x1))] s (fun r1 s1 => (cf_cls (cf_h s1) = some 11 ∧ cf_N (cf_si s1 26 3 ((s1.1 26 3) + ((Int32.ofInt 2) + r1))) + 1 < 1000000000 ∧ cf_R (d + 10) 145 (43, [(0, .ref 26), (1, .int x1), (2, .int ((Int32.ofInt 2) + r1)), (3, .int (s1.1 26 3)), (4, .int (Int32.ofInt 0))], [], (wd_f (cf_si s1 26 3 ((s1.1 26 3) + ((Int32.ofInt 2) + r1))) (cf_h s1) ((s1.1 26 3) + ((Int32.ofInt 2) + r1)))) (cf_qJ Q))))
set_option maxRecDepth 20000 in
theorem wc_Heap_move_ok {d : Nat} {x1 : Int32} {s : cf_S} {Q : Int64 → cf_S → Prop} (h : wc_Heap_move d x1 s Q) : cf_J (d + 10) 145 [(0, .ref 26), (1, .int x1)] s Q := by
  unfold wc_Heap_move at h
  unfold cf_J
  refine cf_R_w rp_145 (rf_bk am_t145 0 4) 0 [(0, .ref 26), (1, .int x1)] [] s (by repeat (first | exact trivial | refine ⟨rfl, ?_⟩)) (by decide +kernel) ?_
  have hc := h.1
  replace h := h.2
  refine cf_R_prim (pc := 6) (q := ([.ref (56 - cf_h s), .int x1], [.int (Int32.ofInt 2)])) rp_145 rfl rfl (by decide) (by decide) rp_280 rfl (Nat.le_of_ble_eq_true rfl) ⟨decide_eq_true hc, Nat.le_of_ble_eq_true rfl⟩ (cq_wget hc) ?_
  refine cf_R_call (pc := 9) (q := ([.long (wd_g s (56 - cf_h s) x1)], [.int (Int32.ofInt 2)])) rp_145 rfl rfl (by decide) (by decide) rp_136 rfl (Nat.le_of_ble_eq_true rfl) ⟨rfl, Nat.le_of_ble_eq_true rfl⟩ h (fun v s1 h => ?_)
  obtain ⟨r1, rfl, h⟩ := h
  refine cf_R_w rp_145 (rf_bk am_t145 6 11) 12 [(0, .ref 26), (1, .int x1)] [.int r1, .int (Int32.ofInt 2)] s1 (by repeat (first | exact trivial | refine ⟨rfl, ?_⟩)) (by decide +kernel) ?_
  refine And.intro rfl ?_
  refine cf_R_w rp_145 (rf_bk am_t145 17 4) 29 [(3, .int (s1.1 26 3)), (2, .int ((Int32.ofInt 2) + r1)), (0, .ref 26), (1, .int x1)] [] (cf_si s1 26 3 ((s1.1 26 3) + ((Int32.ofInt 2) + r1))) (by repeat (first | exact trivial | refine ⟨rfl, ?_⟩)) (by decide +kernel) ?_
  have hc := h.1
  replace h := h.2
  have hr := h.1
  replace h := h.2
  refine cf_R_prim (pc := 37) (q := ([.ref (cf_h s1), .int ((s1.1 26 3) + ((Int32.ofInt 2) + r1))], [])) rp_145 rfl rfl (by decide) (by decide) rp_279 rfl (Nat.le_of_ble_eq_true rfl) ⟨decide_eq_true hc, Nat.le_of_ble_eq_true rfl⟩ (cq_fit hc hr) ?_
  refine cf_R_w rp_145 (rf_bk am_t145 22 2) 40 [(3, .int (s1.1 26 3)), (2, .int ((Int32.ofInt 2) + r1)), (0, .ref 26), (1, .int x1)] [] (wd_f (cf_si s1 26 3 ((s1.1 26 3) + ((Int32.ofInt 2) + r1))) (cf_h s1) ((s1.1 26 3) + ((Int32.ofInt 2) + r1))) (by repeat (first | exact trivial | refine ⟨rfl, ?_⟩)) (by decide +kernel) ?_
  exact cf_R_le (l := [(0, .ref 26), (1, .int x1), (2, .int ((Int32.ofInt 2) + r1)), (3, .int (s1.1 26 3)), (4, .int (Int32.ofInt 0))]) rfl rfl (⟨rfl, rfl, rfl, rfl, rfl, trivial⟩) h
/-- LazyHouse$Heap.finishMove ()V, from 33 on -/
def wc_Heap_finishMove_33 (d : Nat) (x1 : Int32) (x2 : Int32) (x3 : Int32) (x4 : Int32) (s : cf_S) (Q : cf_S → Prop) : Prop := ((x3 ≤ x4 → cf_R (d + 10) 146 (4, [(0, .ref 26), (1, .int (x1 + ((Int32.ofInt 2) + x3))), (2, .int (x2 + Int32.ofInt 1))], [], s) (cf_qV Q)) ∧ (¬ (x3 ≤ x4) → (cf_cls (cf_h s) = some 11 ∧ cf_J (d + 9) 144 [(0, .ref 26), (1, .long (wd_g s (cf_h s) ((x1 + (Int32.ofInt 2)) + x4)))] s (fun r1 s1 => (cf_cls (cf_h s) = some 11 ∧ cf_R (d + 10) 146 (33, [(0, .ref 26), (1, .int x1), (2, .int x2), (3, .int x3), (4, .int (x4 + Int32.ofInt 1))], [], (wd_s s1 (cf_h s) ((x1 + (Int32.ofInt 2)) + x4) r1)) (cf_qV Q))))))
set_option maxRecDepth 20000 in
theorem wc_Heap_finishMove_33_ok {d : Nat} {x1 : Int32} {x2 : Int32} {x3 : Int32} {x4 : Int32} {s : cf_S} {Q : cf_S → Prop} (h : wc_Heap_finishMove_33 d x1 x2 x3 x4 s Q) : cf_R (d + 10) 146 (33, [(0, .ref 26), (1, .int x1), (2, .int x2), (3, .int x3), (4, .int x4)], [], s) (cf_qV Q) := by
  unfold wc_Heap_finishMove_33 at h
  refine cf_R_w rp_146 (rf_bk am_t146 19 3) 33 [(0, .ref 26), (1, .int x1), (2, .int x2), (3, .int x3), (4, .int x4)] [] s (by repeat (first | exact trivial | refine ⟨rfl, ?_⟩)) (by decide +kernel) ?_
  refine cf_R_if (b := am_cnd .ge x4 x3) (p := 75) (q := 39) (fun hb => ?_) (fun hb => ?_)
  · replace h := h.1 (of_decide_eq_true hb)
    refine cf_R_w rp_146 (rf_bk am_t146 42 8) 75 [(0, .ref 26), (1, .int x1), (2, .int x2), (3, .int x3), (4, .int x4)] [] s (by repeat (first | exact trivial | refine ⟨rfl, ?_⟩)) (by decide +kernel) ?_
    exact cf_R_le (l := [(0, .ref 26), (1, .int (x1 + ((Int32.ofInt 2) + x3))), (2, .int (x2 + Int32.ofInt 1))]) rfl rfl (⟨rfl, rfl, rfl, trivial⟩) h
  · replace h := h.2 (of_decide_eq_false hb)
    refine cf_R_w rp_146 (rf_bk am_t146 22 14) 39 [(0, .ref 26), (1, .int x1), (2, .int x2), (3, .int x3), (4, .int x4)] [] s (by repeat (first | exact trivial | refine ⟨rfl, ?_⟩)) (by decide +kernel) ?_
    refine cf_R_w rp_146 (rf_bk am_t146 36 1) 59 [(0, .ref 26), (1, .int x1), (2, .int x2), (3, .int x3), (4, .int x4)] [.int x4, .int (x1 + (Int32.ofInt 2)), .ref (cf_h s), .ref 26, .int ((x1 + (Int32.ofInt 2)) + x4), .ref (cf_h s)] s (by repeat (first | exact trivial | refine ⟨rfl, ?_⟩)) (by decide +kernel) ?_
    have hc := h.1
    replace h := h.2
    refine cf_R_prim (pc := 60) (q := ([.ref (cf_h s), .int ((x1 + (Int32.ofInt 2)) + x4)], [.ref 26, .int ((x1 + (Int32.ofInt 2)) + x4), .ref (cf_h s)])) rp_146 rfl rfl (by decide) (by decide) rp_280 rfl (Nat.le_of_ble_eq_true rfl) ⟨decide_eq_true hc, Nat.le_of_ble_eq_true rfl⟩ (cq_wget hc) ?_
    refine cf_R_call (pc := 63) (q := ([.ref 26, .long (wd_g s (cf_h s) ((x1 + (Int32.ofInt 2)) + x4))], [.int ((x1 + (Int32.ofInt 2)) + x4), .ref (cf_h s)])) rp_146 rfl rfl (by decide) (by decide) rp_144 rfl (Nat.le_of_ble_eq_true rfl) ⟨rfl, Nat.le_of_ble_eq_true rfl⟩ h (fun v s1 h => ?_)
    obtain ⟨r1, rfl, h⟩ := h
    have hc := h.1
    replace h := h.2
    refine cf_R_prim (pc := 66) (q := ([.ref (cf_h s), .int ((x1 + (Int32.ofInt 2)) + x4), .long r1], [])) rp_146 rfl rfl (by decide) (by decide) rp_281 rfl (Nat.le_of_ble_eq_true rfl) ⟨decide_eq_true hc, Nat.le_of_ble_eq_true rfl⟩ (cq_wset hc) ?_
    refine cf_R_w rp_146 (rf_bk am_t146 40 2) 69 [(0, .ref 26), (1, .int x1), (2, .int x2), (3, .int x3), (4, .int x4)] [] (wd_s s1 (cf_h s) ((x1 + (Int32.ofInt 2)) + x4) r1) (by repeat (first | exact trivial | refine ⟨rfl, ?_⟩)) (by decide +kernel) ?_
    exact cf_R_le (l := [(0, .ref 26), (1, .int x1), (2, .int x2), (3, .int x3), (4, .int (x4 + Int32.ofInt 1))]) rfl rfl (⟨rfl, rfl, rfl, rfl, rfl, trivial⟩) h
/-- LazyHouse$Heap.finishMove ()V, from 4 on -/
def wc_Heap_finishMove_4 (d : Nat) (x1 : Int32) (x2 : Int32) (s : cf_S) (Q : cf_S → Prop) : Prop := (((Int32.ofNat 1000000) ≤ x2 → Q s) ∧ (¬ ((Int32.ofNat 1000000) ≤ x2) → (((s.1 26 3) ≤ x1 → Q s) ∧ (¬ ((s.1 26 3) ≤ x1) → (cf_cls (cf_h s) = some 11 ∧ cf_I (d + 9) 136 [(0, .long (wd_g s (cf_h s) x1))] s (fun r1 s1 => cf_R (d + 10) 146 (33, [(0, .ref 26), (1, .int x1), (2, .int x2), (3, .int r1), (4, .int (Int32.ofInt 0))], [], s1) (cf_qV Q)))))))
set_option maxRecDepth 20000 in
theorem wc_Heap_finishMove_4_ok {d : Nat} {x1 : Int32} {x2 : Int32} {s : cf_S} {Q : cf_S → Prop} (h : wc_Heap_finishMove_4 d x1 x2 s Q) : cf_R (d + 10) 146 (4, [(0, .ref 26), (1, .int x1), (2, .int x2)], [], s) (cf_qV Q) := by
  unfold wc_Heap_finishMove_4 at h
  refine cf_R_w rp_146 (rf_bk am_t146 4 3) 4 [(0, .ref 26), (1, .int x1), (2, .int x2)] [] s (by repeat (first | exact trivial | refine ⟨rfl, ?_⟩)) (by decide +kernel) ?_
  refine cf_R_if (b := am_cnd .ge x2 (Int32.ofNat 1000000)) (p := 87) (q := 10) (fun hb => ?_) (fun hb => ?_)
  · replace h := h.1 (of_decide_eq_true hb)
    exact cf_R_ret (pc := 87) rp_146 rfl rfl rfl ⟨rfl, h⟩
  · replace h := h.2 (of_decide_eq_false hb)
    refine cf_R_w rp_146 (rf_bk am_t146 7 4) 10 [(0, .ref 26), (1, .int x1), (2, .int x2)] [] s (by repeat (first | exact trivial | refine ⟨rfl, ?_⟩)) (by decide +kernel) ?_
    refine cf_R_if (b := am_cnd .ge x1 (s.1 26 3)) (p := 87) (q := 18) (fun hb => ?_) (fun hb => ?_)
    · replace h := h.1 (of_decide_eq_true hb)
      exact cf_R_ret (pc := 87) rp_146 rfl rfl rfl ⟨rfl, h⟩
    · replace h := h.2 (of_decide_eq_false hb)
      refine cf_R_w rp_146 (rf_bk am_t146 11 3) 18 [(0, .ref 26), (1, .int x1), (2, .int x2)] [] s (by repeat (first | exact trivial | refine ⟨rfl, ?_⟩)) (by decide +kernel) ?_
      have hc := h.1
      replace h := h.2
      refine cf_R_prim (pc := 23) (q := ([.ref (cf_h s), .int x1], [])) rp_146 rfl rfl (by decide) (by decide) rp_280 rfl (Nat.le_of_ble_eq_true rfl) ⟨decide_eq_true hc, Nat.le_of_ble_eq_true rfl⟩ (cq_wget hc) ?_
      refine cf_R_call (pc := 26) (q := ([.long (wd_g s (cf_h s) x1)], [])) rp_146 rfl rfl (by decide) (by decide) rp_136 rfl (Nat.le_of_ble_eq_true rfl) ⟨rfl, Nat.le_of_ble_eq_true rfl⟩ h (fun v s1 h => ?_)
      obtain ⟨r1, rfl, h⟩ := h
      refine cf_R_w rp_146 (rf_bk am_t146 16 3) 29 [(0, .ref 26), (1, .int x1), (2, .int x2)] [.int r1] s1 (by repeat (first | exact trivial | refine ⟨rfl, ?_⟩)) (by decide +kernel) ?_
      exact cf_R_le (l := [(0, .ref 26), (1, .int x1), (2, .int x2), (3, .int r1), (4, .int (Int32.ofInt 0))]) rfl rfl (⟨rfl, rfl, rfl, rfl, rfl, trivial⟩) h
/-- LazyHouse$Heap.finishMove ()V, from 0 on -/
def wc_Heap_finishMove (d : Nat) (s : cf_S) (Q : cf_S → Prop) : Prop := cf_R (d + 10) 146 (4, [(0, .ref 26), (1, .int (Int32.ofInt 0)), (2, .int (Int32.ofInt 0))], [], s) (cf_qV Q)
set_option maxRecDepth 20000 in
theorem wc_Heap_finishMove_ok {d : Nat} {s : cf_S} {Q : cf_S → Prop} (h : wc_Heap_finishMove d s Q) : cf_V (d + 10) 146 [(0, .ref 26)] s Q := by
  unfold wc_Heap_finishMove at h
  unfold cf_V
  refine cf_R_w rp_146 (rf_bk am_t146 0 4) 0 [(0, .ref 26)] [] s (by repeat (first | exact trivial | refine ⟨rfl, ?_⟩)) (by decide +kernel) ?_
  exact cf_R_le (l := [(0, .ref 26), (1, .int (Int32.ofInt 0)), (2, .int (Int32.ofInt 0))]) rfl rfl (⟨rfl, rfl, rfl, trivial⟩) h
/-- LazyHouse$Machine.exists ()Z, from 0 on -/
def wc_Machine_exists (d : Nat) (s : cf_S) (Q : Int32 → cf_S → Prop) : Prop := (((s.1 25 8) = 0 → Q (Int32.ofInt 0) s) ∧ (¬ ((s.1 25 8) = 0) → Q (Int32.ofInt 1) s))
set_option maxRecDepth 20000 in
theorem wc_Machine_exists_ok {d : Nat} {s : cf_S} {Q : Int32 → cf_S → Prop} (h : wc_Machine_exists d s Q) : cf_I d 148 [(0, .ref 25)] s Q := by
  unfold wc_Machine_exists at h
  unfold cf_I
  refine cf_R_w rp_148 (rf_bk am_t148 0 3) 0 [(0, .ref 25)] [] s (by repeat (first | exact trivial | refine ⟨rfl, ?_⟩)) (by decide +kernel) ?_
  refine cf_R_if (b := am_cnd .eq (s.1 25 8) 0) (p := 11) (q := 7) (fun hb => ?_) (fun hb => ?_)
  · replace h := h.1 (of_decide_eq_true hb)
    refine cf_R_w rp_148 (rf_bk am_t148 5 1) 11 [(0, .ref 25)] [] s (by repeat (first | exact trivial | refine ⟨rfl, ?_⟩)) (by decide +kernel) ?_
    exact cf_R_ret (pc := 12) (v := some (.int (Int32.ofInt 0))) rp_148 rfl rfl rfl ⟨_, rfl, h⟩
  · replace h := h.2 (of_decide_eq_false hb)
    refine cf_R_w rp_148 (rf_bk am_t148 3 2) 7 [(0, .ref 25)] [] s (by repeat (first | exact trivial | refine ⟨rfl, ?_⟩)) (by decide +kernel) ?_
    exact cf_R_ret (pc := 12) (v := some (.int (Int32.ofInt 1))) rp_148 rfl rfl rfl ⟨_, rfl, h⟩
/-- LazyHouse$Machine.shown ()LLazyHouse$Bytes;, from 0 on -/
def wc_Machine_shown (d : Nat) (s : cf_S) (Q : Nat → cf_S → Prop) : Prop := Q 34 s
set_option maxRecDepth 20000 in
theorem wc_Machine_shown_ok {d : Nat} {s : cf_S} {Q : Nat → cf_S → Prop} (h : wc_Machine_shown d s Q) : cf_A d 149 [(0, .ref 25)] s Q := by
  unfold wc_Machine_shown at h
  unfold cf_A
  refine cf_R_w rp_149 (rf_bk am_t149 0 2) 0 [(0, .ref 25)] [] s (by repeat (first | exact trivial | refine ⟨rfl, ?_⟩)) (by decide +kernel) ?_
  exact cf_R_ret (pc := 4) (v := some (.ref 34)) rp_149 rfl rfl rfl ⟨_, rfl, h⟩
/-- LazyHouse$Machine.stepsDone ()I, from 0 on -/
def wc_Machine_stepsDone (d : Nat) (s : cf_S) (Q : Int32 → cf_S → Prop) : Prop := Q (s.1 25 12) s
set_option maxRecDepth 20000 in
theorem wc_Machine_stepsDone_ok {d : Nat} {s : cf_S} {Q : Int32 → cf_S → Prop} (h : wc_Machine_stepsDone d s Q) : cf_I d 150 [(0, .ref 25)] s Q := by
  unfold wc_Machine_stepsDone at h
  unfold cf_I
  refine cf_R_w rp_150 (rf_bk am_t150 0 2) 0 [(0, .ref 25)] [] s (by repeat (first | exact trivial | refine ⟨rfl, ?_⟩)) (by decide +kernel) ?_
  exact cf_R_ret (pc := 4) (v := some (.int (s.1 25 12))) rp_150 rfl rfl rfl ⟨_, rfl, h⟩
/-- LazyHouse$Machine.cellsMade ()I, from 0 on -/
def wc_Machine_cellsMade (d : Nat) (s : cf_S) (Q : Int32 → cf_S → Prop) : Prop := cf_I (d + 9) 130 [(0, .ref 26)] s (fun r1 s1 => Q r1 s1)
set_option maxRecDepth 20000 in
theorem wc_Machine_cellsMade_ok {d : Nat} {s : cf_S} {Q : Int32 → cf_S → Prop} (h : wc_Machine_cellsMade d s Q) : cf_I (d + 10) 151 [(0, .ref 25)] s Q := by
  unfold wc_Machine_cellsMade at h
  unfold cf_I
  refine cf_R_w rp_151 (rf_bk am_t151 0 2) 0 [(0, .ref 25)] [] s (by repeat (first | exact trivial | refine ⟨rfl, ?_⟩)) (by decide +kernel) ?_
  refine cf_R_call (pc := 4) (q := ([.ref 26], [])) rp_151 rfl rfl (by decide) (by decide) rp_130 rfl (Nat.le_of_ble_eq_true rfl) ⟨rfl, Nat.le_of_ble_eq_true rfl⟩ h (fun v s1 h => ?_)
  obtain ⟨r1, rfl, h⟩ := h
  exact cf_R_ret (pc := 7) (v := some (.int r1)) rp_151 rfl rfl rfl ⟨_, rfl, h⟩
/-- LazyHouse$Machine.frameCells ()I, from 0 on -/
def wc_Machine_frameCells (d : Nat) (s : cf_S) (Q : Int32 → cf_S → Prop) : Prop := cf_I (d + 9) 258 [(0, .ref 31)] s (fun r1 s1 => Q r1 s1)
set_option maxRecDepth 20000 in
theorem wc_Machine_frameCells_ok {d : Nat} {s : cf_S} {Q : Int32 → cf_S → Prop} (h : wc_Machine_frameCells d s Q) : cf_I (d + 10) 152 [(0, .ref 25)] s Q := by
  unfold wc_Machine_frameCells at h
  unfold cf_I
  refine cf_R_w rp_152 (rf_bk am_t152 0 2) 0 [(0, .ref 25)] [] s (by repeat (first | exact trivial | refine ⟨rfl, ?_⟩)) (by decide +kernel) ?_
  refine cf_R_call (pc := 4) (q := ([.ref 31], [])) rp_152 rfl rfl (by decide) (by decide) rp_258 rfl (Nat.le_of_ble_eq_true rfl) ⟨rfl, Nat.le_of_ble_eq_true rfl⟩ h (fun v s1 h => ?_)
  obtain ⟨r1, rfl, h⟩ := h
  exact cf_R_ret (pc := 7) (v := some (.int r1)) rp_152 rfl rfl rfl ⟨_, rfl, h⟩
/-- LazyHouse$Machine.frameCount ()I, from 0 on -/
def wc_Machine_frameCount (d : Nat) (s : cf_S) (Q : Int32 → cf_S → Prop) : Prop := cf_I (d + 9) 259 [(0, .ref 31)] s (fun r1 s1 => Q r1 s1)
set_option maxRecDepth 20000 in
theorem wc_Machine_frameCount_ok {d : Nat} {s : cf_S} {Q : Int32 → cf_S → Prop} (h : wc_Machine_frameCount d s Q) : cf_I (d + 10) 153 [(0, .ref 25)] s Q := by
  unfold wc_Machine_frameCount at h
  unfold cf_I
  refine cf_R_w rp_153 (rf_bk am_t153 0 2) 0 [(0, .ref 25)] [] s (by repeat (first | exact trivial | refine ⟨rfl, ?_⟩)) (by decide +kernel) ?_
  refine cf_R_call (pc := 4) (q := ([.ref 31], [])) rp_153 rfl rfl (by decide) (by decide) rp_259 rfl (Nat.le_of_ble_eq_true rfl) ⟨rfl, Nat.le_of_ble_eq_true rfl⟩ h (fun v s1 h => ?_)
  obtain ⟨r1, rfl, h⟩ := h
  exact cf_R_ret (pc := 7) (v := some (.int r1)) rp_153 rfl rfl rfl ⟨_, rfl, h⟩
/-- LazyHouse$Machine.delaysWorked ()I, from 0 on -/
def wc_Machine_delaysWorked (d : Nat) (s : cf_S) (Q : Int32 → cf_S → Prop) : Prop := Q (s.1 25 13) s
set_option maxRecDepth 20000 in
theorem wc_Machine_delaysWorked_ok {d : Nat} {s : cf_S} {Q : Int32 → cf_S → Prop} (h : wc_Machine_delaysWorked d s Q) : cf_I d 154 [(0, .ref 25)] s Q := by
  unfold wc_Machine_delaysWorked at h
  unfold cf_I
  refine cf_R_w rp_154 (rf_bk am_t154 0 2) 0 [(0, .ref 25)] [] s (by repeat (first | exact trivial | refine ⟨rfl, ?_⟩)) (by decide +kernel) ?_
  exact cf_R_ret (pc := 4) (v := some (.int (s.1 25 13))) rp_154 rfl rfl rfl ⟨_, rfl, h⟩
/-- LazyHouse$Machine.cellsReached ()I, from 0 on -/
def wc_Machine_cellsReached (d : Nat) (s : cf_S) (Q : Int32 → cf_S → Prop) : Prop := cf_V (d + 9) 169 [(0, .ref 25)] s (fun s1 => cf_I (d + 9) 129 [(0, .ref 26)] s1 (fun r2 s2 => Q r2 s2))
set_option maxRecDepth 20000 in
theorem wc_Machine_cellsReached_ok {d : Nat} {s : cf_S} {Q : Int32 → cf_S → Prop} (h : wc_Machine_cellsReached d s Q) : cf_I (d + 10) 155 [(0, .ref 25)] s Q := by
  unfold wc_Machine_cellsReached at h
  unfold cf_I
  refine cf_R_w rp_155 (rf_bk am_t155 0 1) 0 [(0, .ref 25)] [] s (by repeat (first | exact trivial | refine ⟨rfl, ?_⟩)) (by decide +kernel) ?_
  refine cf_R_call (pc := 1) (q := ([.ref 25], [])) rp_155 rfl rfl (by decide) (by decide) rp_169 rfl (Nat.le_of_ble_eq_true rfl) ⟨rfl, Nat.le_of_ble_eq_true rfl⟩ h (fun v s1 h => ?_)
  obtain ⟨rfl, h⟩ := h
  refine cf_R_w rp_155 (rf_bk am_t155 2 2) 4 [(0, .ref 25)] [] s1 (by repeat (first | exact trivial | refine ⟨rfl, ?_⟩)) (by decide +kernel) ?_
  refine cf_R_call (pc := 8) (q := ([.ref 26], [])) rp_155 rfl rfl (by decide) (by decide) rp_129 rfl (Nat.le_of_ble_eq_true rfl) ⟨rfl, Nat.le_of_ble_eq_true rfl⟩ h (fun v s2 h => ?_)
  obtain ⟨r2, rfl, h⟩ := h
  exact cf_R_ret (pc := 11) (v := some (.int r2)) rp_155 rfl rfl rfl ⟨_, rfl, h⟩
/-- LazyHouse$Machine.remove ()V, from 0 on -/
def wc_Machine_remove (d : Nat) (s : cf_S) (Q : cf_S → Prop) : Prop := cf_V (d + 9) 157 [(0, .ref 25), (1, .int (Int32.ofInt 0))] s (fun s1 => Q (cf_si s1 25 8 (Int32.ofInt 0)))
set_option maxRecDepth 20000 in
theorem wc_Machine_remove_ok {d : Nat} {s : cf_S} {Q : cf_S → Prop} (h : wc_Machine_remove d s Q) : cf_V (d + 10) 156 [(0, .ref 25)] s Q := by
  unfold wc_Machine_remove at h
  unfold cf_V
  refine cf_R_w rp_156 (rf_bk am_t156 0 2) 0 [(0, .ref 25)] [] s (by repeat (first | exact trivial | refine ⟨rfl, ?_⟩)) (by decide +kernel) ?_
  refine cf_R_call (pc := 2) (q := ([.ref 25, .int (Int32.ofInt 0)], [])) rp_156 rfl rfl (by decide) (by decide) rp_157 rfl (Nat.le_of_ble_eq_true rfl) ⟨rfl, Nat.le_of_ble_eq_true rfl⟩ h (fun v s1 h => ?_)
  obtain ⟨rfl, h⟩ := h
  refine cf_R_w rp_156 (rf_bk am_t156 3 3) 5 [(0, .ref 25)] [] s1 (by repeat (first | exact trivial | refine ⟨rfl, ?_⟩)) (by decide +kernel) ?_
  refine And.intro rfl ?_
  exact cf_R_ret (pc := 10) rp_156 rfl rfl rfl ⟨rfl, h⟩
/-- LazyHouse$Machine.clear (I)V, from 0 on -/
def wc_Machine_clear (d : Nat) (x1 : Int32) (s : cf_S) (Q : cf_S → Prop) : Prop := cf_V (d + 9) 128 [(0, .ref 26), (1, .int x1)] s (fun s1 => cf_V (d + 9) 257 [(0, .ref 31)] s1 (fun s2 => Q (cf_si (cf_si (cf_si (cf_sj (cf_si (by_c s2 34 (Int32.ofInt 0)) 25 9 (Int32.ofInt 0)) 25 10 (Int64.ofNat 0)) 25 11 (Int32.ofInt 0)) 25 12 (Int32.ofInt 0)) 25 13 (Int32.ofInt 0))))
set_option maxRecDepth 20000 in
theorem wc_Machine_clear_ok {d : Nat} {x1 : Int32} {s : cf_S} {Q : cf_S → Prop} (h : wc_Machine_clear d x1 s Q) : cf_V (d + 10) 157 [(0, .ref 25), (1, .int x1)] s Q := by
  unfold wc_Machine_clear at h
  unfold cf_V
  refine cf_R_w rp_157 (rf_bk am_t157 0 3) 0 [(0, .ref 25), (1, .int x1)] [] s (by repeat (first | exact trivial | refine ⟨rfl, ?_⟩)) (by decide +kernel) ?_
  refine cf_R_call (pc := 5) (q := ([.ref 26, .int x1], [])) rp_157 rfl rfl (by decide) (by decide) rp_128 rfl (Nat.le_of_ble_eq_true rfl) ⟨rfl, Nat.le_of_ble_eq_true rfl⟩ h (fun v s1 h => ?_)
  obtain ⟨rfl, h⟩ := h
  refine cf_R_w rp_157 (rf_bk am_t157 4 2) 8 [(0, .ref 25), (1, .int x1)] [] s1 (by repeat (first | exact trivial | refine ⟨rfl, ?_⟩)) (by decide +kernel) ?_
  refine cf_R_call (pc := 12) (q := ([.ref 31], [])) rp_157 rfl rfl (by decide) (by decide) rp_257 rfl (Nat.le_of_ble_eq_true rfl) ⟨rfl, Nat.le_of_ble_eq_true rfl⟩ h (fun v s2 h => ?_)
  obtain ⟨rfl, h⟩ := h
  refine cf_R_w rp_157 (rf_bk am_t157 7 3) 15 [(0, .ref 25), (1, .int x1)] [] s2 (by repeat (first | exact trivial | refine ⟨rfl, ?_⟩)) (by decide +kernel) ?_
  refine cf_R_prim (pc := 20) (q := ([.ref 34, .int (Int32.ofInt 0)], [])) rp_157 rfl rfl (by decide) (by decide) rp_121 rfl (Nat.le_of_ble_eq_true rfl) ⟨rfl, Nat.le_of_ble_eq_true rfl⟩ (cq_cut rfl) ?_
  refine cf_R_w rp_157 (rf_bk am_t157 11 3) 23 [(0, .ref 25), (1, .int x1)] [] (by_c s2 34 (Int32.ofInt 0)) (by repeat (first | exact trivial | refine ⟨rfl, ?_⟩)) (by decide +kernel) ?_
  refine And.intro rfl ?_
  refine cf_R_w rp_157 (rf_bk am_t157 14 3) 28 [(0, .ref 25), (1, .int x1)] [] (cf_si (by_c s2 34 (Int32.ofInt 0)) 25 9 (Int32.ofInt 0)) (by repeat (first | exact trivial | refine ⟨rfl, ?_⟩)) (by decide +kernel) ?_
  refine And.intro rfl ?_
  refine cf_R_w rp_157 (rf_bk am_t157 17 3) 33 [(0, .ref 25), (1, .int x1)] [] (cf_sj (cf_si (by_c s2 34 (Int32.ofInt 0)) 25 9 (Int32.ofInt 0)) 25 10 (Int64.ofNat 0)) (by repeat (first | exact trivial | refine ⟨rfl, ?_⟩)) (by decide +kernel) ?_
  refine And.intro rfl ?_
  refine cf_R_w rp_157 (rf_bk am_t157 20 3) 38 [(0, .ref 25), (1, .int x1)] [] (cf_si (cf_sj (cf_si (by_c s2 34 (Int32.ofInt 0)) 25 9 (Int32.ofInt 0)) 25 10 (Int64.ofNat 0)) 25 11 (Int32.ofInt 0)) (by repeat (first | exact trivial | refine ⟨rfl, ?_⟩)) (by decide +kernel) ?_
  refine And.intro rfl ?_
  refine cf_R_w rp_157 (rf_bk am_t157 23 3) 43 [(0, .ref 25), (1, .int x1)] [] (cf_si (cf_si (cf_sj (cf_si (by_c s2 34 (Int32.ofInt 0)) 25 9 (Int32.ofInt 0)) 25 10 (Int64.ofNat 0)) 25 11 (Int32.ofInt 0)) 25 12 (Int32.ofInt 0)) (by repeat (first | exact trivial | refine ⟨rfl, ?_⟩)) (by decide +kernel) ?_
  refine And.intro rfl ?_
  exact cf_R_ret (pc := 48) rp_157 rfl rfl rfl ⟨rfl, h⟩
/-- LazyHouse$Machine.begin (I)V, from 41 on -/
def wc_Machine_begin_41 (d : Nat) (x2 : Int32) (s : cf_S) (Q : cf_S → Prop) : Prop := (((s.1 10 2) ≤ x2 → cf_V (d + 9) 260 [(0, .ref 31), (1, .int ((Int8.ofInt 6).toInt32)), (2, .int (Int32.ofInt 0)), (3, .int (Int32.ofInt 0))] s (fun s1 => cf_I (d + 9) 237 [(0, .ref 3)] s1 (fun r2 s2 => cf_V (d + 9) 162 [(0, .ref 25), (1, .long (rf_word (Int32.ofInt 2) r2))] s2 (fun s3 => Q s3)))) ∧ (¬ ((s.1 10 2) ≤ x2) → cf_R (d + 10) 158 (41, [(0, .ref 25), (2, .int (x2 + Int32.ofInt 1))], [], (wd_s s 38 x2 (rf_word (Int32.ofInt 4) (Int32.ofInt 0)))) (cf_qV Q)))
set_option maxRecDepth 20000 in
theorem wc_Machine_begin_41_ok {d : Nat} {x2 : Int32} {s : cf_S} {Q : cf_S → Prop} (h : wc_Machine_begin_41 d x2 s Q) : cf_R (d + 10) 158 (41, [(0, .ref 25), (2, .int x2)], [], s) (cf_qV Q) := by
  unfold wc_Machine_begin_41 at h
  refine cf_R_w rp_158 (rf_bk am_t158 19 4) 41 [(0, .ref 25), (2, .int x2)] [] s (by repeat (first | exact trivial | refine ⟨rfl, ?_⟩)) (by decide +kernel) ?_
  refine cf_R_prim (pc := 49) (q := ([.ref 10], [.int x2])) rp_158 rfl rfl (by decide) (by decide) rp_270 rfl (Nat.le_of_ble_eq_true rfl) ⟨rfl, Nat.le_of_ble_eq_true rfl⟩ (cq_rows rfl) ?_
  refine cf_R_w rp_158 (rf_bk am_t158 24 1) 52 [(0, .ref 25), (2, .int x2)] [.int (s.1 10 2), .int x2] s (by repeat (first | exact trivial | refine ⟨rfl, ?_⟩)) (by decide +kernel) ?_
  refine cf_R_if (b := am_cnd .ge x2 (s.1 10 2)) (p := 74) (q := 55) (fun hb => ?_) (fun hb => ?_)
  · replace h := h.1 (of_decide_eq_true hb)
    refine cf_R_w rp_158 (rf_bk am_t158 34 5) 74 [(0, .ref 25), (2, .int x2)] [] s (by repeat (first | exact trivial | refine ⟨rfl, ?_⟩)) (by decide +kernel) ?_
    refine cf_R_call (pc := 82) (q := ([.ref 31, .int ((Int8.ofInt 6).toInt32), .int (Int32.ofInt 0), .int (Int32.ofInt 0)], [])) rp_158 rfl rfl (by decide) (by decide) rp_260 rfl (Nat.le_of_ble_eq_true rfl) ⟨rfl, Nat.le_of_ble_eq_true rfl⟩ h (fun v s1 h => ?_)
    obtain ⟨rfl, h⟩ := h
    refine cf_R_w rp_158 (rf_bk am_t158 40 4) 85 [(0, .ref 25), (2, .int x2)] [] s1 (by repeat (first | exact trivial | refine ⟨rfl, ?_⟩)) (by decide +kernel) ?_
    refine cf_R_call (pc := 91) (q := ([.ref 3], [.int (Int32.ofInt 2), .ref 25])) rp_158 rfl rfl (by decide) (by decide) rp_237 rfl (Nat.le_of_ble_eq_true rfl) ⟨rfl, Nat.le_of_ble_eq_true rfl⟩ h (fun v s2 h => ?_)
    obtain ⟨r2, rfl, h⟩ := h
    refine cf_R_prim (pc := 94) (q := ([.int (Int32.ofInt 2), .int r2], [.ref 25])) rp_158 rfl rfl (by decide) (by decide) rp_275 rfl (Nat.le_of_ble_eq_true rfl) ⟨rfl, Nat.le_of_ble_eq_true rfl⟩ (cq_of) ?_
    refine cf_R_call (pc := 97) (q := ([.ref 25, .long (rf_word (Int32.ofInt 2) r2)], [])) rp_158 rfl rfl (by decide) (by decide) rp_162 rfl (Nat.le_of_ble_eq_true rfl) ⟨rfl, Nat.le_of_ble_eq_true rfl⟩ h (fun v s3 h => ?_)
    obtain ⟨rfl, h⟩ := h
    exact cf_R_ret (pc := 100) rp_158 rfl rfl rfl ⟨rfl, h⟩
  · replace h := h.2 (of_decide_eq_false hb)
    refine cf_R_w rp_158 (rf_bk am_t158 25 5) 55 [(0, .ref 25), (2, .int x2)] [] s (by repeat (first | exact trivial | refine ⟨rfl, ?_⟩)) (by decide +kernel) ?_
    refine cf_R_prim (pc := 62) (q := ([.int (Int32.ofInt 4), .int (Int32.ofInt 0)], [.int x2, .ref 38])) rp_158 rfl rfl (by decide) (by decide) rp_275 rfl (Nat.le_of_ble_eq_true rfl) ⟨rfl, Nat.le_of_ble_eq_true rfl⟩ (cq_of) ?_
    refine cf_R_prim (pc := 65) (q := ([.ref 38, .int x2, .long (rf_word (Int32.ofInt 4) (Int32.ofInt 0))], [])) rp_158 rfl rfl (by decide) (by decide) rp_281 rfl (Nat.le_of_ble_eq_true rfl) ⟨rfl, Nat.le_of_ble_eq_true rfl⟩ (cq_wset rfl) ?_
    refine cf_R_w rp_158 (rf_bk am_t158 32 2) 68 [(0, .ref 25), (2, .int x2)] [] (wd_s s 38 x2 (rf_word (Int32.ofInt 4) (Int32.ofInt 0))) (by repeat (first | exact trivial | refine ⟨rfl, ?_⟩)) (by decide +kernel) ?_
    exact cf_R_le (l := [(0, .ref 25), (2, .int (x2 + Int32.ofInt 1))]) rfl rfl (⟨rfl, rfl, trivial⟩) h
/-- LazyHouse$Machine.begin (I)V, from 0 on -/
def wc_Machine_begin (d : Nat) (x1 : Int32) (s : cf_S) (Q : cf_S → Prop) : Prop := cf_V (d + 9) 157 [(0, .ref 25), (1, .int x1)] s (fun s1 => (cf_N s1 + 1 < 1000000000 ∧ (cf_N (wd_f s1 36 (s1.1 14 2)) + 1 < 1000000000 ∧ cf_R (d + 10) 158 (41, [(0, .ref 25), (2, .int (Int32.ofInt 0))], [], (wd_f (wd_f s1 36 (s1.1 14 2)) 38 (s1.1 10 2))) (cf_qV Q))))
set_option maxRecDepth 20000 in
theorem wc_Machine_begin_ok {d : Nat} {x1 : Int32} {s : cf_S} {Q : cf_S → Prop} (h : wc_Machine_begin d x1 s Q) : cf_V (d + 10) 158 [(0, .ref 25), (1, .int x1)] s Q := by
  unfold wc_Machine_begin at h
  unfold cf_V
  refine cf_R_w rp_158 (rf_bk am_t158 0 2) 0 [(0, .ref 25), (1, .int x1)] [] s (by repeat (first | exact trivial | refine ⟨rfl, ?_⟩)) (by decide +kernel) ?_
  refine cf_R_call (pc := 2) (q := ([.ref 25, .int x1], [])) rp_158 rfl rfl (by decide) (by decide) rp_157 rfl (Nat.le_of_ble_eq_true rfl) ⟨rfl, Nat.le_of_ble_eq_true rfl⟩ h (fun v s1 h => ?_)
  obtain ⟨rfl, h⟩ := h
  refine cf_R_w rp_158 (rf_bk am_t158 3 5) 5 [(0, .ref 25), (1, .int x1)] [] s1 (by repeat (first | exact trivial | refine ⟨rfl, ?_⟩)) (by decide +kernel) ?_
  refine cf_R_prim (pc := 16) (q := ([.ref 14], [.ref 36])) rp_158 rfl rfl (by decide) (by decide) rp_270 rfl (Nat.le_of_ble_eq_true rfl) ⟨rfl, Nat.le_of_ble_eq_true rfl⟩ (cq_rows rfl) ?_
  have hr := h.1
  replace h := h.2
  refine cf_R_prim (pc := 19) (q := ([.ref 36, .int (s1.1 14 2)], [])) rp_158 rfl rfl (by decide) (by decide) rp_279 rfl (Nat.le_of_ble_eq_true rfl) ⟨rfl, Nat.le_of_ble_eq_true rfl⟩ (cq_fit rfl hr) ?_
  refine cf_R_w rp_158 (rf_bk am_t158 10 5) 22 [(0, .ref 25), (1, .int x1)] [] (wd_f s1 36 (s1.1 14 2)) (by repeat (first | exact trivial | refine ⟨rfl, ?_⟩)) (by decide +kernel) ?_
  refine cf_R_prim (pc := 33) (q := ([.ref 10], [.ref 38])) rp_158 rfl rfl (by decide) (by decide) rp_270 rfl (Nat.le_of_ble_eq_true rfl) ⟨rfl, Nat.le_of_ble_eq_true rfl⟩ (cq_rows rfl) ?_
  have hr := h.1
  replace h := h.2
  refine cf_R_prim (pc := 36) (q := ([.ref 38, .int (s1.1 10 2)], [])) rp_158 rfl rfl (by decide) (by decide) rp_279 rfl (Nat.le_of_ble_eq_true rfl) ⟨rfl, Nat.le_of_ble_eq_true rfl⟩ (cq_fit rfl hr) ?_
  refine cf_R_w rp_158 (rf_bk am_t158 17 2) 39 [(0, .ref 25), (1, .int x1)] [] (wd_f (wd_f s1 36 (s1.1 14 2)) 38 (s1.1 10 2)) (by repeat (first | exact trivial | refine ⟨rfl, ?_⟩)) (by decide +kernel) ?_
  exact cf_R_le (l := [(0, .ref 25), (2, .int (Int32.ofInt 0))]) rfl rfl (⟨rfl, rfl, trivial⟩) h
/-- LazyHouse$Machine.run (I)I, from 82 on -/
def wc_Machine_run_82 (d : Nat) (s : cf_S) (Q : Int32 → cf_S → Prop) : Prop := ((¬ (s.1 25 8) = (Int32.ofInt 5) → ((¬ (s.1 25 8) = (Int32.ofInt 4) → Q (Int32.ofInt 0) s) ∧ ((s.1 25 8) = (Int32.ofInt 4) → Q (Int32.ofInt 1) s))) ∧ ((s.1 25 8) = (Int32.ofInt 5) → Q (((Int8.ofInt 10).toInt32) + (s.1 25 11)) s))
set_option maxRecDepth 20000 in
theorem wc_Machine_run_82_ok {d : Nat} {s : cf_S} {Q : Int32 → cf_S → Prop} (h : wc_Machine_run_82 d s Q) : cf_R (d + 10) 159 (82, [(0, .ref 25)], [], s) (cf_qI Q) := by
  unfold wc_Machine_run_82 at h
  refine cf_R_w rp_159 (rf_bk am_t159 40 4) 82 [(0, .ref 25)] [] s (by repeat (first | exact trivial | refine ⟨rfl, ?_⟩)) (by decide +kernel) ?_
  refine cf_R_if (b := am_cnd .ne (s.1 25 8) (Int32.ofInt 5)) (p := 98) (q := 90) (fun hb => ?_) (fun hb => ?_)
  · replace h := h.1 (of_decide_eq_true hb)
    refine cf_R_w rp_159 (rf_bk am_t159 49 4) 98 [(0, .ref 25)] [] s (by repeat (first | exact trivial | refine ⟨rfl, ?_⟩)) (by decide +kernel) ?_
    refine cf_R_if (b := am_cnd .ne (s.1 25 8) (Int32.ofInt 4)) (p := 110) (q := 106) (fun hb => ?_) (fun hb => ?_)
    · replace h := h.1 (of_decide_eq_true hb)
      refine cf_R_w rp_159 (rf_bk am_t159 55 1) 110 [(0, .ref 25)] [] s (by repeat (first | exact trivial | refine ⟨rfl, ?_⟩)) (by decide +kernel) ?_
      exact cf_R_ret (pc := 111) (v := some (.int (Int32.ofInt 0))) rp_159 rfl rfl rfl ⟨_, rfl, h⟩
    · replace h := h.2 (Decidable.not_not.mp (of_decide_eq_false hb))
      refine cf_R_w rp_159 (rf_bk am_t159 53 2) 106 [(0, .ref 25)] [] s (by repeat (first | exact trivial | refine ⟨rfl, ?_⟩)) (by decide +kernel) ?_
      exact cf_R_ret (pc := 111) (v := some (.int (Int32.ofInt 1))) rp_159 rfl rfl rfl ⟨_, rfl, h⟩
  · replace h := h.2 (Decidable.not_not.mp (of_decide_eq_false hb))
    refine cf_R_w rp_159 (rf_bk am_t159 44 4) 90 [(0, .ref 25)] [] s (by repeat (first | exact trivial | refine ⟨rfl, ?_⟩)) (by decide +kernel) ?_
    exact cf_R_ret (pc := 97) (v := some (.int (((Int8.ofInt 10).toInt32) + (s.1 25 11)))) rp_159 rfl rfl rfl ⟨_, rfl, h⟩
/-- LazyHouse$Machine.run (I)I, from 76 on -/
def wc_Machine_run_76 (d : Nat) (x1 : Int32) (x2 : Int32) (s : cf_S) (Q : Int32 → cf_S → Prop) : Prop := cf_R (d + 10) 159 (2, [(0, .ref 25), (1, .int x1), (2, .int (x2 + Int32.ofInt 1))], [], s) (cf_qI Q)
set_option maxRecDepth 20000 in
theorem wc_Machine_run_76_ok {d : Nat} {x1 : Int32} {x2 : Int32} {s : cf_S} {Q : Int32 → cf_S → Prop} (h : wc_Machine_run_76 d x1 x2 s Q) : cf_R (d + 10) 159 (76, [(0, .ref 25), (1, .int x1), (2, .int x2)], [], s) (cf_qI Q) := by
  unfold wc_Machine_run_76 at h
  refine cf_R_w rp_159 (rf_bk am_t159 38 2) 76 [(0, .ref 25), (1, .int x1), (2, .int x2)] [] s (by repeat (first | exact trivial | refine ⟨rfl, ?_⟩)) (by decide +kernel) ?_
  exact cf_R_le (l := [(0, .ref 25), (1, .int x1), (2, .int (x2 + Int32.ofInt 1))]) rfl rfl (⟨rfl, rfl, rfl, trivial⟩) h
/-- LazyHouse$Machine.run (I)I, from 2 on -/
def wc_Machine_run_2 (d : Nat) (x1 : Int32) (x2 : Int32) (s : cf_S) (Q : Int32 → cf_S → Prop) : Prop := ((x1 ≤ x2 → wc_Machine_run_82 d s Q) ∧ (¬ (x1 ≤ x2) → cf_I (d + 9) 160 [(0, .ref 25)] s (fun r1 s1 => ((r1 = 0 → wc_Machine_run_82 d s1 Q) ∧ (¬ (r1 = 0) → cf_I (d + 9) 165 [(0, .ref 25)] (cf_si s1 25 12 ((s1.1 25 12) + (Int32.ofInt 1))) (fun r2 s2 => cf_I (d + 9) 166 [(0, .ref 25)] s2 (fun r3 s3 => cf_I (d + 9) 168 [(0, .ref 25), (1, .int r2), (2, .int r3)] s3 (fun r4 s4 => ((¬ r4 = 0 → ((¬ (s4.1 25 8) = (Int32.ofInt 1) → ((¬ (s4.1 25 8) = (Int32.ofInt 2) → cf_V (d + 9) 185 [(0, .ref 25)] s4 (fun s5 => wc_Machine_run_76 d x1 x2 s5 Q)) ∧ ((s4.1 25 8) = (Int32.ofInt 2) → cf_V (d + 9) 182 [(0, .ref 25)] s4 (fun s6 => wc_Machine_run_76 d x1 x2 s6 Q)))) ∧ ((s4.1 25 8) = (Int32.ofInt 1) → cf_V (d + 9) 171 [(0, .ref 25)] s4 (fun s7 => wc_Machine_run_76 d x1 x2 s7 Q)))) ∧ (r4 = 0 → wc_Machine_run_82 d s4 Q))))))))))
set_option maxRecDepth 20000 in
theorem wc_Machine_run_2_ok {d : Nat} {x1 : Int32} {x2 : Int32} {s : cf_S} {Q : Int32 → cf_S → Prop} (h : wc_Machine_run_2 d x1 x2 s Q) : cf_R (d + 10) 159 (2, [(0, .ref 25), (1, .int x1), (2, .int x2)], [], s) (cf_qI Q) := by
  unfold wc_Machine_run_2 at h
  refine cf_R_w rp_159 (rf_bk am_t159 2 3) 2 [(0, .ref 25), (1, .int x1), (2, .int x2)] [] s (by repeat (first | exact trivial | refine ⟨rfl, ?_⟩)) (by decide +kernel) ?_
  refine cf_R_if (b := am_cnd .ge x2 x1) (p := 82) (q := 7) (fun hb => ?_) (fun hb => ?_)
  · replace h := h.1 (of_decide_eq_true hb)
    exact cf_R_le (l := [(0, .ref 25)]) rfl rfl (⟨rfl, trivial⟩) (wc_Machine_run_82_ok h)
  · replace h := h.2 (of_decide_eq_false hb)
    refine cf_R_w rp_159 (rf_bk am_t159 5 1) 7 [(0, .ref 25), (1, .int x1), (2, .int x2)] [] s (by repeat (first | exact trivial | refine ⟨rfl, ?_⟩)) (by decide +kernel) ?_
    refine cf_R_call (pc := 8) (q := ([.ref 25], [])) rp_159 rfl rfl (by decide) (by decide) rp_160 rfl (Nat.le_of_ble_eq_true rfl) ⟨rfl, Nat.le_of_ble_eq_true rfl⟩ h (fun v s1 h => ?_)
    obtain ⟨r1, rfl, h⟩ := h
    refine cf_R_w rp_159 (rf_bk am_t159 7 1) 11 [(0, .ref 25), (1, .int x1), (2, .int x2)] [.int r1] s1 (by repeat (first | exact trivial | refine ⟨rfl, ?_⟩)) (by decide +kernel) ?_
    refine cf_R_if (b := am_cnd .eq r1 0) (p := 82) (q := 14) (fun hb => ?_) (fun hb => ?_)
    · replace h := h.1 (of_decide_eq_true hb)
      exact cf_R_le (l := [(0, .ref 25)]) rfl rfl (⟨rfl, trivial⟩) (wc_Machine_run_82_ok h)
    · replace h := h.2 (of_decide_eq_false hb)
      refine cf_R_w rp_159 (rf_bk am_t159 8 6) 14 [(0, .ref 25), (1, .int x1), (2, .int x2)] [] s1 (by repeat (first | exact trivial | refine ⟨rfl, ?_⟩)) (by decide +kernel) ?_
      refine And.intro rfl ?_
      refine cf_R_w rp_159 (rf_bk am_t159 14 2) 24 [(0, .ref 25), (1, .int x1), (2, .int x2)] [] (cf_si s1 25 12 ((s1.1 25 12) + (Int32.ofInt 1))) (by repeat (first | exact trivial | refine ⟨rfl, ?_⟩)) (by decide +kernel) ?_
      refine cf_R_call (pc := 26) (q := ([.ref 25], [.ref 25])) rp_159 rfl rfl (by decide) (by decide) rp_165 rfl (Nat.le_of_ble_eq_true rfl) ⟨rfl, Nat.le_of_ble_eq_true rfl⟩ h (fun v s2 h => ?_)
      obtain ⟨r2, rfl, h⟩ := h
      refine cf_R_w rp_159 (rf_bk am_t159 17 1) 29 [(0, .ref 25), (1, .int x1), (2, .int x2)] [.int r2, .ref 25] s2 (by repeat (first | exact trivial | refine ⟨rfl, ?_⟩)) (by decide +kernel) ?_
      refine cf_R_call (pc := 30) (q := ([.ref 25], [.int r2, .ref 25])) rp_159 rfl rfl (by decide) (by decide) rp_166 rfl (Nat.le_of_ble_eq_true rfl) ⟨rfl, Nat.le_of_ble_eq_true rfl⟩ h (fun v s3 h => ?_)
      obtain ⟨r3, rfl, h⟩ := h
      refine cf_R_call (pc := 33) (q := ([.ref 25, .int r2, .int r3], [])) rp_159 rfl rfl (by decide) (by decide) rp_168 rfl (Nat.le_of_ble_eq_true rfl) ⟨rfl, Nat.le_of_ble_eq_true rfl⟩ h (fun v s4 h => ?_)
      obtain ⟨r4, rfl, h⟩ := h
      refine cf_R_w rp_159 (rf_bk am_t159 20 1) 36 [(0, .ref 25), (1, .int x1), (2, .int x2)] [.int r4] s4 (by repeat (first | exact trivial | refine ⟨rfl, ?_⟩)) (by decide +kernel) ?_
      refine cf_R_if (b := am_cnd .ne r4 0) (p := 42) (q := 39) (fun hb => ?_) (fun hb => ?_)
      · replace h := h.1 (of_decide_eq_true hb)
        refine cf_R_w rp_159 (rf_bk am_t159 22 4) 42 [(0, .ref 25), (1, .int x1), (2, .int x2)] [] s4 (by repeat (first | exact trivial | refine ⟨rfl, ?_⟩)) (by decide +kernel) ?_
        refine cf_R_if (b := am_cnd .ne (s4.1 25 8) (Int32.ofInt 1)) (p := 57) (q := 50) (fun hb => ?_) (fun hb => ?_)
        · replace h := h.1 (of_decide_eq_true hb)
          refine cf_R_w rp_159 (rf_bk am_t159 29 4) 57 [(0, .ref 25), (1, .int x1), (2, .int x2)] [] s4 (by repeat (first | exact trivial | refine ⟨rfl, ?_⟩)) (by decide +kernel) ?_
          refine cf_R_if (b := am_cnd .ne (s4.1 25 8) (Int32.ofInt 2)) (p := 72) (q := 65) (fun hb => ?_) (fun hb => ?_)
          · replace h := h.1 (of_decide_eq_true hb)
            refine cf_R_w rp_159 (rf_bk am_t159 36 1) 72 [(0, .ref 25), (1, .int x1), (2, .int x2)] [] s4 (by repeat (first | exact trivial | refine ⟨rfl, ?_⟩)) (by decide +kernel) ?_
            refine cf_R_call (pc := 73) (q := ([.ref 25], [])) rp_159 rfl rfl (by decide) (by decide) rp_185 rfl (Nat.le_of_ble_eq_true rfl) ⟨rfl, Nat.le_of_ble_eq_true rfl⟩ h (fun v s5 h => ?_)
            obtain ⟨rfl, h⟩ := h
            exact cf_R_le (l := [(0, .ref 25), (1, .int x1), (2, .int x2)]) rfl rfl (⟨rfl, rfl, rfl, trivial⟩) (wc_Machine_run_76_ok h)
          · replace h := h.2 (Decidable.not_not.mp (of_decide_eq_false hb))
            refine cf_R_w rp_159 (rf_bk am_t159 33 1) 65 [(0, .ref 25), (1, .int x1), (2, .int x2)] [] s4 (by repeat (first | exact trivial | refine ⟨rfl, ?_⟩)) (by decide +kernel) ?_
            refine cf_R_call (pc := 66) (q := ([.ref 25], [])) rp_159 rfl rfl (by decide) (by decide) rp_182 rfl (Nat.le_of_ble_eq_true rfl) ⟨rfl, Nat.le_of_ble_eq_true rfl⟩ h (fun v s6 h => ?_)
            obtain ⟨rfl, h⟩ := h
            refine cf_R_w rp_159 (rf_bk am_t159 35 1) 69 [(0, .ref 25), (1, .int x1), (2, .int x2)] [] s6 (by repeat (first | exact trivial | refine ⟨rfl, ?_⟩)) (by decide +kernel) ?_
            exact cf_R_le (l := [(0, .ref 25), (1, .int x1), (2, .int x2)]) rfl rfl (⟨rfl, rfl, rfl, trivial⟩) (wc_Machine_run_76_ok h)
        · replace h := h.2 (Decidable.not_not.mp (of_decide_eq_false hb))
          refine cf_R_w rp_159 (rf_bk am_t159 26 1) 50 [(0, .ref 25), (1, .int x1), (2, .int x2)] [] s4 (by repeat (first | exact trivial | refine ⟨rfl, ?_⟩)) (by decide +kernel) ?_
          refine cf_R_call (pc := 51) (q := ([.ref 25], [])) rp_159 rfl rfl (by decide) (by decide) rp_171 rfl (Nat.le_of_ble_eq_true rfl) ⟨rfl, Nat.le_of_ble_eq_true rfl⟩ h (fun v s7 h => ?_)
          obtain ⟨rfl, h⟩ := h
          refine cf_R_w rp_159 (rf_bk am_t159 28 1) 54 [(0, .ref 25), (1, .int x1), (2, .int x2)] [] s7 (by repeat (first | exact trivial | refine ⟨rfl, ?_⟩)) (by decide +kernel) ?_
          exact cf_R_le (l := [(0, .ref 25), (1, .int x1), (2, .int x2)]) rfl rfl (⟨rfl, rfl, rfl, trivial⟩) (wc_Machine_run_76_ok h)
      · replace h := h.2 (Decidable.not_not.mp (of_decide_eq_false hb))
        refine cf_R_w rp_159 (rf_bk am_t159 21 1) 39 [(0, .ref 25), (1, .int x1), (2, .int x2)] [] s4 (by repeat (first | exact trivial | refine ⟨rfl, ?_⟩)) (by decide +kernel) ?_
        exact cf_R_le (l := [(0, .ref 25)]) rfl rfl (⟨rfl, trivial⟩) (wc_Machine_run_82_ok h)
/-- LazyHouse$Machine.run (I)I, from 0 on -/
def wc_Machine_run (d : Nat) (x1 : Int32) (s : cf_S) (Q : Int32 → cf_S → Prop) : Prop := cf_R (d + 10) 159 (2, [(0, .ref 25), (1, .int x1), (2, .int (Int32.ofInt 0))], [], s) (cf_qI Q)
set_option maxRecDepth 20000 in
theorem wc_Machine_run_ok {d : Nat} {x1 : Int32} {s : cf_S} {Q : Int32 → cf_S → Prop} (h : wc_Machine_run d x1 s Q) : cf_I (d + 10) 159 [(0, .ref 25), (1, .int x1)] s Q := by
  unfold wc_Machine_run at h
  unfold cf_I
  refine cf_R_w rp_159 (rf_bk am_t159 0 2) 0 [(0, .ref 25), (1, .int x1)] [] s (by repeat (first | exact trivial | refine ⟨rfl, ?_⟩)) (by decide +kernel) ?_
  exact cf_R_le (l := [(0, .ref 25), (1, .int x1), (2, .int (Int32.ofInt 0))]) rfl rfl (⟨rfl, rfl, rfl, trivial⟩) h
/-- LazyHouse$Machine.isRunning ()Z, from 24 on -/
def wc_Machine_isRunning_24 (d : Nat) (s : cf_S) (Q : Int32 → cf_S → Prop) : Prop := Q (Int32.ofInt 1) s
set_option maxRecDepth 20000 in
theorem wc_Machine_isRunning_24_ok {d : Nat} {s : cf_S} {Q : Int32 → cf_S → Prop} (h : wc_Machine_isRunning_24 d s Q) : cf_R d 160 (24, [], [], s) (cf_qI Q) := by
  unfold wc_Machine_isRunning_24 at h
  refine cf_R_w rp_160 (rf_bk am_t160 12 2) 24 [] [] s (by repeat (first | exact trivial | refine ⟨rfl, ?_⟩)) (by decide +kernel) ?_
  exact cf_R_ret (pc := 29) (v := some (.int (Int32.ofInt 1))) rp_160 rfl rfl rfl ⟨_, rfl, h⟩
/-- LazyHouse$Machine.isRunning ()Z, from 0 on -/
def wc_Machine_isRunning (d : Nat) (s : cf_S) (Q : Int32 → cf_S → Prop) : Prop := (((s.1 25 8) = (Int32.ofInt 1) → wc_Machine_isRunning_24 d s Q) ∧ (¬ ((s.1 25 8) = (Int32.ofInt 1)) → (((s.1 25 8) = (Int32.ofInt 2) → wc_Machine_isRunning_24 d s Q) ∧ (¬ ((s.1 25 8) = (Int32.ofInt 2)) → ((¬ (s.1 25 8) = (Int32.ofInt 3) → Q (Int32.ofInt 0) s) ∧ ((s.1 25 8) = (Int32.ofInt 3) → wc_Machine_isRunning_24 d s Q))))))
set_option maxRecDepth 20000 in
theorem wc_Machine_isRunning_ok {d : Nat} {s : cf_S} {Q : Int32 → cf_S → Prop} (h : wc_Machine_isRunning d s Q) : cf_I d 160 [(0, .ref 25)] s Q := by
  unfold wc_Machine_isRunning at h
  unfold cf_I
  refine cf_R_w rp_160 (rf_bk am_t160 0 4) 0 [(0, .ref 25)] [] s (by repeat (first | exact trivial | refine ⟨rfl, ?_⟩)) (by decide +kernel) ?_
  refine cf_R_if (b := am_cnd .eq (s.1 25 8) (Int32.ofInt 1)) (p := 24) (q := 8) (fun hb => ?_) (fun hb => ?_)
  · replace h := h.1 (of_decide_eq_true hb)
    exact cf_R_le (l := []) rfl rfl trivial (wc_Machine_isRunning_24_ok h)
  · replace h := h.2 (of_decide_eq_false hb)
    refine cf_R_w rp_160 (rf_bk am_t160 4 4) 8 [(0, .ref 25)] [] s (by repeat (first | exact trivial | refine ⟨rfl, ?_⟩)) (by decide +kernel) ?_
    refine cf_R_if (b := am_cnd .eq (s.1 25 8) (Int32.ofInt 2)) (p := 24) (q := 16) (fun hb => ?_) (fun hb => ?_)
    · replace h := h.1 (of_decide_eq_true hb)
      exact cf_R_le (l := []) rfl rfl trivial (wc_Machine_isRunning_24_ok h)
    · replace h := h.2 (of_decide_eq_false hb)
      refine cf_R_w rp_160 (rf_bk am_t160 8 4) 16 [(0, .ref 25)] [] s (by repeat (first | exact trivial | refine ⟨rfl, ?_⟩)) (by decide +kernel) ?_
      refine cf_R_if (b := am_cnd .ne (s.1 25 8) (Int32.ofInt 3)) (p := 28) (q := 24) (fun hb => ?_) (fun hb => ?_)
      · replace h := h.1 (of_decide_eq_true hb)
        refine cf_R_w rp_160 (rf_bk am_t160 14 1) 28 [(0, .ref 25)] [] s (by repeat (first | exact trivial | refine ⟨rfl, ?_⟩)) (by decide +kernel) ?_
        exact cf_R_ret (pc := 29) (v := some (.int (Int32.ofInt 0))) rp_160 rfl rfl rfl ⟨_, rfl, h⟩
      · replace h := h.2 (Decidable.not_not.mp (of_decide_eq_false hb))
        exact cf_R_le (l := []) rfl rfl trivial (wc_Machine_isRunning_24_ok h)
/-- LazyHouse$Machine.evaluateNext (I)V, from 0 on -/
def wc_Machine_evaluateNext (d : Nat) (x1 : Int32) (s : cf_S) (Q : cf_S → Prop) : Prop := Q (cf_si (cf_si s 25 8 (Int32.ofInt 1)) 25 9 x1)
set_option maxRecDepth 20000 in
theorem wc_Machine_evaluateNext_ok {d : Nat} {x1 : Int32} {s : cf_S} {Q : cf_S → Prop} (h : wc_Machine_evaluateNext d x1 s Q) : cf_V d 161 [(0, .ref 25), (1, .int x1)] s Q := by
  unfold wc_Machine_evaluateNext at h
  unfold cf_V
  refine cf_R_w rp_161 (rf_bk am_t161 0 3) 0 [(0, .ref 25), (1, .int x1)] [] s (by repeat (first | exact trivial | refine ⟨rfl, ?_⟩)) (by decide +kernel) ?_
  refine And.intro rfl ?_
  refine cf_R_w rp_161 (rf_bk am_t161 3 3) 5 [(0, .ref 25), (1, .int x1)] [] (cf_si s 25 8 (Int32.ofInt 1)) (by repeat (first | exact trivial | refine ⟨rfl, ?_⟩)) (by decide +kernel) ?_
  refine And.intro rfl ?_
  exact cf_R_ret (pc := 10) rp_161 rfl rfl rfl ⟨rfl, h⟩
/-- LazyHouse$Machine.enterNext (J)V, from 0 on -/
def wc_Machine_enterNext (d : Nat) (x1 : Int64) (s : cf_S) (Q : cf_S → Prop) : Prop := Q (cf_sj (cf_si s 25 8 (Int32.ofInt 2)) 25 10 x1)
set_option maxRecDepth 20000 in
theorem wc_Machine_enterNext_ok {d : Nat} {x1 : Int64} {s : cf_S} {Q : cf_S → Prop} (h : wc_Machine_enterNext d x1 s Q) : cf_V d 162 [(0, .ref 25), (1, .long x1)] s Q := by
  unfold wc_Machine_enterNext at h
  unfold cf_V
  refine cf_R_w rp_162 (rf_bk am_t162 0 3) 0 [(0, .ref 25), (1, .long x1)] [] s (by repeat (first | exact trivial | refine ⟨rfl, ?_⟩)) (by decide +kernel) ?_
  refine And.intro rfl ?_
  refine cf_R_w rp_162 (rf_bk am_t162 3 3) 5 [(0, .ref 25), (1, .long x1)] [] (cf_si s 25 8 (Int32.ofInt 2)) (by repeat (first | exact trivial | refine ⟨rfl, ?_⟩)) (by decide +kernel) ?_
  refine And.intro rfl ?_
  exact cf_R_ret (pc := 10) rp_162 rfl rfl rfl ⟨rfl, h⟩
/-- LazyHouse$Machine.giveNext (J)V, from 0 on -/
def wc_Machine_giveNext (d : Nat) (x1 : Int64) (s : cf_S) (Q : cf_S → Prop) : Prop := Q (cf_sj (cf_si s 25 8 (Int32.ofInt 3)) 25 10 x1)
set_option maxRecDepth 20000 in
theorem wc_Machine_giveNext_ok {d : Nat} {x1 : Int64} {s : cf_S} {Q : cf_S → Prop} (h : wc_Machine_giveNext d x1 s Q) : cf_V d 163 [(0, .ref 25), (1, .long x1)] s Q := by
  unfold wc_Machine_giveNext at h
  unfold cf_V
  refine cf_R_w rp_163 (rf_bk am_t163 0 3) 0 [(0, .ref 25), (1, .long x1)] [] s (by repeat (first | exact trivial | refine ⟨rfl, ?_⟩)) (by decide +kernel) ?_
  refine And.intro rfl ?_
  refine cf_R_w rp_163 (rf_bk am_t163 3 3) 5 [(0, .ref 25), (1, .long x1)] [] (cf_si s 25 8 (Int32.ofInt 3)) (by repeat (first | exact trivial | refine ⟨rfl, ?_⟩)) (by decide +kernel) ?_
  refine And.intro rfl ?_
  exact cf_R_ret (pc := 10) rp_163 rfl rfl rfl ⟨rfl, h⟩
/-- LazyHouse$Machine.fail (I)V, from 0 on -/
def wc_Machine_fail (d : Nat) (x1 : Int32) (s : cf_S) (Q : cf_S → Prop) : Prop := cf_V (d + 9) 257 [(0, .ref 31)] (cf_si (cf_si s 25 8 (Int32.ofInt 5)) 25 11 x1) (fun s1 => Q s1)
set_option maxRecDepth 20000 in
theorem wc_Machine_fail_ok {d : Nat} {x1 : Int32} {s : cf_S} {Q : cf_S → Prop} (h : wc_Machine_fail d x1 s Q) : cf_V (d + 10) 164 [(0, .ref 25), (1, .int x1)] s Q := by
  unfold wc_Machine_fail at h
  unfold cf_V
  refine cf_R_w rp_164 (rf_bk am_t164 0 3) 0 [(0, .ref 25), (1, .int x1)] [] s (by repeat (first | exact trivial | refine ⟨rfl, ?_⟩)) (by decide +kernel) ?_
  refine And.intro rfl ?_
  refine cf_R_w rp_164 (rf_bk am_t164 3 3) 5 [(0, .ref 25), (1, .int x1)] [] (cf_si s 25 8 (Int32.ofInt 5)) (by repeat (first | exact trivial | refine ⟨rfl, ?_⟩)) (by decide +kernel) ?_
  refine And.intro rfl ?_
  refine cf_R_w rp_164 (rf_bk am_t164 6 2) 10 [(0, .ref 25), (1, .int x1)] [] (cf_si (cf_si s 25 8 (Int32.ofInt 5)) 25 11 x1) (by repeat (first | exact trivial | refine ⟨rfl, ?_⟩)) (by decide +kernel) ?_
  refine cf_R_call (pc := 14) (q := ([.ref 31], [])) rp_164 rfl rfl (by decide) (by decide) rp_257 rfl (Nat.le_of_ble_eq_true rfl) ⟨rfl, Nat.le_of_ble_eq_true rfl⟩ h (fun v s1 h => ?_)
  obtain ⟨rfl, h⟩ := h
  exact cf_R_ret (pc := 17) rp_164 rfl rfl rfl ⟨rfl, h⟩
