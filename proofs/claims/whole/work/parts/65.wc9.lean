/-! PART 65: the class, decompiled: Stack.keepLast, Stack.keepAll -/
/-- LazyHouse$Stack.keepLast (I)V, from 44 on -/
def wc_Stack_keepLast_44 (d : Nat) (x1 : Int32) (x2 : Int32) (x3 : Int32) (x4 : Int32) (x5 : Int32) (s : cf_S) (Q : cf_S → Prop) : Prop := ((x1 ≤ x5 → cf_V (d + 9) 260 [(0, .ref 31), (1, .int x3), (2, .int x4), (3, .int x1)] s (fun s1 => Q s1)) ∧ (¬ (x1 ≤ x5) → cf_R (d + 10) 267 (44, [(0, .ref 31), (1, .int x1), (2, .int x2), (3, .int x3), (4, .int x4), (5, .int (x5 + Int32.ofInt 1))], [], (wd_s s 32 ((s.1 31 3) + x5) (wd_g s 32 (x2 + x5)))) (cf_qV Q)))
set_option maxRecDepth 20000 in
theorem wc_Stack_keepLast_44_ok {d : Nat} {x1 : Int32} {x2 : Int32} {x3 : Int32} {x4 : Int32} {x5 : Int32} {s : cf_S} {Q : cf_S → Prop} (h : wc_Stack_keepLast_44 d x1 x2 x3 x4 x5 s Q) : cf_R (d + 10) 267 (44, [(0, .ref 31), (1, .int x1), (2, .int x2), (3, .int x3), (4, .int x4), (5, .int x5)], [], s) (cf_qV Q) := by
  unfold wc_Stack_keepLast_44 at h
  refine cf_R_w rp_267 (rf_bk am_t267 26 3) 44 [(0, .ref 31), (1, .int x1), (2, .int x2), (3, .int x3), (4, .int x4), (5, .int x5)] [] s (by repeat (first | exact trivial | refine ⟨rfl, ?_⟩)) (by decide +kernel) ?_
  refine cf_R_if (b := am_cnd .ge x5 x1) (p := 81) (q := 50) (fun hb => ?_) (fun hb => ?_)
  · replace h := h.1 (of_decide_eq_true hb)
    refine cf_R_w rp_267 (rf_bk am_t267 44 4) 81 [(0, .ref 31), (1, .int x1), (2, .int x2), (3, .int x3), (4, .int x4), (5, .int x5)] [] s (by repeat (first | exact trivial | refine ⟨rfl, ?_⟩)) (by decide +kernel) ?_
    refine cf_R_call (pc := 86) (q := ([.ref 31, .int x3, .int x4, .int x1], [])) rp_267 rfl rfl (by decide) (by decide) rp_260 rfl (Nat.le_of_ble_eq_true rfl) ⟨rfl, Nat.le_of_ble_eq_true rfl⟩ h (fun v s1 h => ?_)
    obtain ⟨rfl, h⟩ := h
    exact cf_R_ret (pc := 89) rp_267 rfl rfl rfl ⟨rfl, h⟩
  · replace h := h.2 (of_decide_eq_false hb)
    refine cf_R_w rp_267 (rf_bk am_t267 29 11) 50 [(0, .ref 31), (1, .int x1), (2, .int x2), (3, .int x3), (4, .int x4), (5, .int x5)] [] s (by repeat (first | exact trivial | refine ⟨rfl, ?_⟩)) (by decide +kernel) ?_
    refine cf_R_prim (pc := 69) (q := ([.ref 32, .int (x2 + x5)], [.int ((s.1 31 3) + x5), .ref 32])) rp_267 rfl rfl (by decide) (by decide) rp_280 rfl (Nat.le_of_ble_eq_true rfl) ⟨rfl, Nat.le_of_ble_eq_true rfl⟩ (cq_wget rfl) ?_
    refine cf_R_prim (pc := 72) (q := ([.ref 32, .int ((s.1 31 3) + x5), .long (wd_g s 32 (x2 + x5))], [])) rp_267 rfl rfl (by decide) (by decide) rp_281 rfl (Nat.le_of_ble_eq_true rfl) ⟨rfl, Nat.le_of_ble_eq_true rfl⟩ (cq_wset rfl) ?_
    refine cf_R_w rp_267 (rf_bk am_t267 42 2) 75 [(0, .ref 31), (1, .int x1), (2, .int x2), (3, .int x3), (4, .int x4), (5, .int x5)] [] (wd_s s 32 ((s.1 31 3) + x5) (wd_g s 32 (x2 + x5))) (by repeat (first | exact trivial | refine ⟨rfl, ?_⟩)) (by decide +kernel) ?_
    exact cf_R_le (l := [(0, .ref 31), (1, .int x1), (2, .int x2), (3, .int x3), (4, .int x4), (5, .int (x5 + Int32.ofInt 1))]) rfl rfl (⟨rfl, rfl, rfl, rfl, rfl, rfl, trivial⟩) h
/-- LazyHouse$Stack.keepLast (I)V, from 0 on -/
def wc_Stack_keepLast (d : Nat) (x1 : Int32) (s : cf_S) (Q : cf_S → Prop) : Prop := cf_I (d + 9) 263 [(0, .ref 31)] s (fun r1 s1 => cf_I (d + 9) 261 [(0, .ref 31)] s1 (fun r2 s2 => cf_I (d + 9) 262 [(0, .ref 31)] s2 (fun r3 s3 => cf_R (d + 10) 267 (44, [(0, .ref 31), (1, .int x1), (2, .int (((s.1 31 3) + r1) - x1)), (3, .int r2), (4, .int r3), (5, .int (Int32.ofInt 0))], [], (cf_si (cf_si s3 31 1 (s3.1 31 3)) 31 2 ((s3.1 31 2) - (Int32.ofInt 1)))) (cf_qV Q))))
set_option maxRecDepth 20000 in
theorem wc_Stack_keepLast_ok {d : Nat} {x1 : Int32} {s : cf_S} {Q : cf_S → Prop} (h : wc_Stack_keepLast d x1 s Q) : cf_V (d + 10) 267 [(0, .ref 31), (1, .int x1)] s Q := by
  unfold wc_Stack_keepLast at h
  unfold cf_V
  refine cf_R_w rp_267 (rf_bk am_t267 0 3) 0 [(0, .ref 31), (1, .int x1)] [] s (by repeat (first | exact trivial | refine ⟨rfl, ?_⟩)) (by decide +kernel) ?_
  refine cf_R_call (pc := 5) (q := ([.ref 31], [.int (s.1 31 3)])) rp_267 rfl rfl (by decide) (by decide) rp_263 rfl (Nat.le_of_ble_eq_true rfl) ⟨rfl, Nat.le_of_ble_eq_true rfl⟩ h (fun v s1 h => ?_)
  obtain ⟨r1, rfl, h⟩ := h
  refine cf_R_w rp_267 (rf_bk am_t267 4 5) 8 [(0, .ref 31), (1, .int x1)] [.int r1, .int (s.1 31 3)] s1 (by repeat (first | exact trivial | refine ⟨rfl, ?_⟩)) (by decide +kernel) ?_
  refine cf_R_call (pc := 13) (q := ([.ref 31], [])) rp_267 rfl rfl (by decide) (by decide) rp_261 rfl (Nat.le_of_ble_eq_true rfl) ⟨rfl, Nat.le_of_ble_eq_true rfl⟩ h (fun v s2 h => ?_)
  obtain ⟨r2, rfl, h⟩ := h
  refine cf_R_w rp_267 (rf_bk am_t267 10 2) 16 [(2, .int (((s.1 31 3) + r1) - x1)), (0, .ref 31), (1, .int x1)] [.int r2] s2 (by repeat (first | exact trivial | refine ⟨rfl, ?_⟩)) (by decide +kernel) ?_
  refine cf_R_call (pc := 18) (q := ([.ref 31], [])) rp_267 rfl rfl (by decide) (by decide) rp_262 rfl (Nat.le_of_ble_eq_true rfl) ⟨rfl, Nat.le_of_ble_eq_true rfl⟩ h (fun v s3 h => ?_)
  obtain ⟨r3, rfl, h⟩ := h
  refine cf_R_w rp_267 (rf_bk am_t267 13 5) 21 [(3, .int r2), (2, .int (((s.1 31 3) + r1) - x1)), (0, .ref 31), (1, .int x1)] [.int r3] s3 (by repeat (first | exact trivial | refine ⟨rfl, ?_⟩)) (by decide +kernel) ?_
  refine And.intro rfl ?_
  refine cf_R_w rp_267 (rf_bk am_t267 18 6) 31 [(4, .int r3), (3, .int r2), (2, .int (((s.1 31 3) + r1) - x1)), (0, .ref 31), (1, .int x1)] [] (cf_si s3 31 1 (s3.1 31 3)) (by repeat (first | exact trivial | refine ⟨rfl, ?_⟩)) (by decide +kernel) ?_
  refine And.intro rfl ?_
  refine cf_R_w rp_267 (rf_bk am_t267 24 2) 41 [(4, .int r3), (3, .int r2), (2, .int (((s.1 31 3) + r1) - x1)), (0, .ref 31), (1, .int x1)] [] (cf_si (cf_si s3 31 1 (s3.1 31 3)) 31 2 ((s3.1 31 2) - (Int32.ofInt 1))) (by repeat (first | exact trivial | refine ⟨rfl, ?_⟩)) (by decide +kernel) ?_
  exact cf_R_le (l := [(0, .ref 31), (1, .int x1), (2, .int (((s.1 31 3) + r1) - x1)), (3, .int r2), (4, .int r3), (5, .int (Int32.ofInt 0))]) rfl rfl (⟨rfl, rfl, rfl, rfl, rfl, rfl, trivial⟩) h
/-- LazyHouse$Stack.keepAll (LLazyHouse$Heap;)V, from 2 on -/
def wc_Stack_keepAll_2 (d : Nat) (x1 : Nat) (x2 : Int32) (s : cf_S) (Q : cf_S → Prop) : Prop := (((s.1 31 1) ≤ x2 → Q s) ∧ (¬ ((s.1 31 1) ≤ x2) → (cf_cls x1 = some 4 ∧ cf_J (d + 9) 144 [(0, .ref x1), (1, .long (wd_g s 32 x2))] s (fun r1 s1 => cf_R (d + 10) 268 (2, [(0, .ref 31), (1, .ref x1), (2, .int (x2 + Int32.ofInt 1))], [], (wd_s s1 32 x2 r1)) (cf_qV Q)))))
set_option maxRecDepth 20000 in
theorem wc_Stack_keepAll_2_ok {d : Nat} {x1 : Nat} {x2 : Int32} {s : cf_S} {Q : cf_S → Prop} (h : wc_Stack_keepAll_2 d x1 x2 s Q) : cf_R (d + 10) 268 (2, [(0, .ref 31), (1, .ref x1), (2, .int x2)], [], s) (cf_qV Q) := by
  unfold wc_Stack_keepAll_2 at h
  refine cf_R_w rp_268 (rf_bk am_t268 2 4) 2 [(0, .ref 31), (1, .ref x1), (2, .int x2)] [] s (by repeat (first | exact trivial | refine ⟨rfl, ?_⟩)) (by decide +kernel) ?_
  refine cf_R_if (b := am_cnd .ge x2 (s.1 31 1)) (p := 36) (q := 10) (fun hb => ?_) (fun hb => ?_)
  · replace h := h.1 (of_decide_eq_true hb)
    exact cf_R_ret (pc := 36) rp_268 rfl rfl rfl ⟨rfl, h⟩
  · replace h := h.2 (of_decide_eq_false hb)
    refine cf_R_w rp_268 (rf_bk am_t268 6 7) 10 [(0, .ref 31), (1, .ref x1), (2, .int x2)] [] s (by repeat (first | exact trivial | refine ⟨rfl, ?_⟩)) (by decide +kernel) ?_
    refine cf_R_prim (pc := 21) (q := ([.ref 32, .int x2], [.ref x1, .int x2, .ref 32])) rp_268 rfl rfl (by decide) (by decide) rp_280 rfl (Nat.le_of_ble_eq_true rfl) ⟨rfl, Nat.le_of_ble_eq_true rfl⟩ (cq_wget rfl) ?_
    have hc := h.1
    replace h := h.2
    refine cf_R_call (pc := 24) (q := ([.ref x1, .long (wd_g s 32 x2)], [.int x2, .ref 32])) rp_268 rfl rfl (by decide) (by decide) rp_144 rfl (Nat.le_of_ble_eq_true rfl) ⟨decide_eq_true hc, Nat.le_of_ble_eq_true rfl⟩ h (fun v s1 h => ?_)
    obtain ⟨r1, rfl, h⟩ := h
    refine cf_R_prim (pc := 27) (q := ([.ref 32, .int x2, .long r1], [])) rp_268 rfl rfl (by decide) (by decide) rp_281 rfl (Nat.le_of_ble_eq_true rfl) ⟨rfl, Nat.le_of_ble_eq_true rfl⟩ (cq_wset rfl) ?_
    refine cf_R_w rp_268 (rf_bk am_t268 16 2) 30 [(0, .ref 31), (1, .ref x1), (2, .int x2)] [] (wd_s s1 32 x2 r1) (by repeat (first | exact trivial | refine ⟨rfl, ?_⟩)) (by decide +kernel) ?_
    exact cf_R_le (l := [(0, .ref 31), (1, .ref x1), (2, .int (x2 + Int32.ofInt 1))]) rfl rfl (⟨rfl, rfl, rfl, trivial⟩) h
/-- LazyHouse$Stack.keepAll (LLazyHouse$Heap;)V, from 0 on -/
def wc_Stack_keepAll (d : Nat) (x1 : Nat) (s : cf_S) (Q : cf_S → Prop) : Prop := cf_R (d + 10) 268 (2, [(0, .ref 31), (1, .ref x1), (2, .int (Int32.ofInt 0))], [], s) (cf_qV Q)
set_option maxRecDepth 20000 in
theorem wc_Stack_keepAll_ok {d : Nat} {x1 : Nat} {s : cf_S} {Q : cf_S → Prop} (h : wc_Stack_keepAll d x1 s Q) : cf_V (d + 10) 268 [(0, .ref 31), (1, .ref x1)] s Q := by
  unfold wc_Stack_keepAll at h
  unfold cf_V
  refine cf_R_w rp_268 (rf_bk am_t268 0 2) 0 [(0, .ref 31), (1, .ref x1)] [] s (by repeat (first | exact trivial | refine ⟨rfl, ?_⟩)) (by decide +kernel) ?_
  exact cf_R_le (l := [(0, .ref 31), (1, .ref x1), (2, .int (Int32.ofInt 0))]) rfl rfl (⟨rfl, rfl, rfl, trivial⟩) h
