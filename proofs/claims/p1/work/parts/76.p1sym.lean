/-! PART 76: calls on fresh objects whose number is free: end, heap, step, text, count -/
section P1S
variable {xs : Nat → Int32}
theorem a_isIn {L d : Nat} {v lo hi : Int32} {A : am_A} : am_R L xs d 3 (0, [(0, .int v), (1, .int lo), (2, .int hi)], [], A) (fun r A' => A' = A ∧ r = some (.int (if v < lo ∨ hi < v then 0 else 1))) := by
  have end0 : ∀ lv, (v < lo ∨ hi < v) → am_R L xs d 3 (14, lv, [], A) (fun r A' => A' = A ∧ r = some (.int (if v < lo ∨ hi < v then 0 else 1))) := by
    intro lv hc
    refine am_R_w rp_3 (rf_bk am_t3 8 1) 14 _ _ _ ⟨rfl, trivial⟩ (by decide) ?_
    exact am_R_re (pc := 15) (v := some (.int 0)) rp_3 rfl rfl rfl ⟨rfl, by rw [if_pos hc]⟩
  refine am_R_w rp_3 (rf_bk am_t3 0 3) 0 _ _ _ (by repeat (first | exact trivial | refine ⟨rfl, ?_⟩)) (by decide +kernel) ?_
  refine am_R_ifb (b := am_cnd .lt v lo) (p := 14) (q := 5) (fun h => end0 _ (Or.inl (of_decide_eq_true h))) (fun h => ?_)
  refine am_R_w rp_3 (rf_bk am_t3 3 3) 5 _ _ _ (by repeat (first | exact trivial | refine ⟨rfl, ?_⟩)) (by decide +kernel) ?_
  refine am_R_ifb (b := am_cnd .gt v hi) (p := 14) (q := 10) (fun h2 => end0 _ (Or.inr (of_decide_eq_true h2))) (fun h2 => ?_)
  refine am_R_w rp_3 (rf_bk am_t3 6 2) 10 _ _ _ (by repeat (first | exact trivial | refine ⟨rfl, ?_⟩)) (by decide +kernel) ?_
  exact am_R_re (pc := 15) (v := some (.int 1)) rp_3 rfl rfl rfl ⟨rfl, by rw [if_neg (fun z => z.elim (of_decide_eq_false h) (of_decide_eq_false h2))]⟩
/-- what is used of the fresh heap -/
def fr_P (A : am_A) : Prop := am_ob 0 A 0 1 = some [.ref 1, .ref 3, .ref 22, .ref 24, .ref 25, .int 0, .int 2000] ∧ am_ob 0 A 1 3 = some [.ref 2, .int 0, .int 0] ∧ am_ob 0 A 25 5 = some [.ref 3, .ref 18, .ref 20, .ref 26, .ref 31, .ref 34, .ref 36, .ref 38, .int 0, .int 0, .long 0, .int 0, .int 0, .int 0] ∧ am_ob 0 A 34 3 = some [.ref 35, .int 0, .int 0] ∧ (∃ row, am_ia 0 A 35 .byte = some row ∧ row.1 = 1500) ∧ (∃ row, am_ia 0 A 2 .byte = some row ∧ row.1 = 2000) ∧ (∃ row, am_ia 0 A 41 .int = some row ∧ row.1 = 2000) ∧ (∃ fs, am_ob 0 A 40 0 = some fs ∧ fs[0]? = some (.ref 41) ∧ fs[1]? = some (.int 0) ∧ fs[73]? = some (.int 0) ∧ fs.length = 84) ∧ A.1.length ≤ 600000 ∧ A.2 ≤ 7302250
theorem fr_s {A : am_A} {fs : List Value} (h : am_ob 0 A 40 0 = some fs) : (am_ob 0 A 40 0).isSome = true := by rw [h]; rfl
theorem p1_step {A2 : am_A} (hP : fr_P A2) (n : Int32) : p1_ok 6 xs 103 92 [.int n] A2 := by
  obtain ⟨o0, o1, o25, o34, ⟨row, hrow, hrl⟩, _, _, ⟨fs, hfs, f0, f1, f73, fl⟩, hbnd⟩ := hP
  show am_R 6 xs 999 103 (0, [(0, .ref 0), (1, .int n)], [], A2) _
  refine am_R_w rp_103 (rf_bk am_t103 0 2) 0 _ _ _ ⟨rfl, rfl, trivial⟩ (by decide) ?_
  refine ⟨_, o0, _, rfl, ?_⟩
  have hrc : am_rc 0 (.invokevirtual 91) A2 [.ref 25] 5 = true := by unfold am_rc; dsimp only; rw [o25]; rfl
  have hex : am_R 6 xs 998 148 (0, [(0, .ref 25)], [], A2) (fun r A' => A' = A2 ∧ r = some (.int (Int32.ofInt 0))) := by
    refine am_R_w rp_148 (rf_bk am_t148 0 3) 0 _ _ _ (by repeat (first | exact trivial | refine ⟨rfl, ?_⟩)) (by decide +kernel) ?_
    refine ⟨_, o25, _, rfl, ?_⟩
    refine am_R_ifb (b := am_cnd .eq 0 0) (p := 11) (q := 7) (fun _ => ?_) (fun h => absurd h (by decide))
    refine am_R_w rp_148 (rf_bk am_t148 5 1) 11 _ _ _ ⟨rfl, trivial⟩ (by decide) ?_
    exact am_R_re (pc := 12) (v := some (.int (Int32.ofInt 0))) rp_148 rfl rfl rfl ⟨rfl, rfl⟩
  refine am_R_call (pc := 4) (q := ([.ref 25], [])) rp_103 rfl rfl (by decide) rp_148 rfl (Nat.le_of_ble_eq_true rfl) ⟨hrc, Nat.le_of_ble_eq_true rfl⟩ hex (fun v A' h => ?_)
  obtain ⟨eA, rfl⟩ := h
  rw [eA]
  clear eA
  refine am_R_w rp_103 (rf_bk am_t103 3 1) 7 _ _ _ ⟨rfl, trivial⟩ (by decide) ?_
  refine am_R_ifb (b := am_cnd .eq (Int32.ofInt 0) 0) (p := 21) (q := 10) (fun _ => ?_) (fun h => absurd h (by decide))
  refine am_R_w rp_103 (rf_bk am_t103 9 1) 21 _ _ _ ⟨rfl, trivial⟩ (by decide) ?_
  refine am_R_re (pc := 22) (v := some (.int (Int32.ofInt (-1)))) rp_103 rfl rfl rfl ⟨_, rfl, (fr_s hfs), ?_⟩
  show am_R 6 xs 999 92 (0, [(0, .ref 40), (1, .int n)], [], A2) _
  refine am_R_w rp_92 (rf_bk am_t92 0 3) 0 _ _ _ (by repeat (first | exact trivial | refine ⟨rfl, ?_⟩)) (by decide +kernel) ?_
  refine ⟨_, hfs, _, f73, ?_⟩
  refine am_R_ifb (b := am_cnd .eq 0 0) (p := 18) (q := 7) (fun _ => ?_) (fun h => absurd h (by decide))
  refine am_R_w rp_92 (rf_bk am_t92 8 1) 18 _ _ _ ⟨rfl, trivial⟩ (by decide) ?_
  exact am_R_re (pc := 19) (v := some (.int (Int32.ofInt (-1)))) rp_92 rfl rfl rfl ⟨rfl, hbnd⟩
theorem p1_heap {A2 : am_A} (hP : fr_P A2) (n : Int32) : p1_ok 6 xs 101 90 [.int n] A2 := by
  obtain ⟨o0, o1, o25, o34, ⟨row, hrow, hrl⟩, _, _, ⟨fs, hfs, f0, f1, f73, fl⟩, hbnd⟩ := hP
  show am_R 6 xs 999 101 (0, [(0, .ref 0), (1, .int n)], [], A2) _
  have e10 : (Int8.ofInt 10).toInt32 = 10 := by decide
  have e20 : (Int16.ofInt 20000).toInt32 = 20000 := by decide
  have bad : (n < 10 ∨ 20000 < n) → am_R 6 xs 999 101 (13, [(0, .ref 0), (1, .int n)], [], A2) (fun v A3 => ∃ x : Int32, v = some (.int x) ∧ (am_ob 0 A3 40 0).isSome = true ∧ am_R 6 xs 999 90 (0, lv_args 0 (.ref 40 :: [.int n]), [], A3) (fun w A4 => w = some (.int x) ∧ A4.1.length ≤ 600000 ∧ A4.2 ≤ 7302250)) := by
    intro hc
    refine am_R_w rp_101 (rf_bk am_t101 6 1) 13 _ _ _ ⟨rfl, trivial⟩ (by decide) ?_
    refine am_R_re (pc := 14) (v := some (.int (Int32.ofInt (-1)))) rp_101 rfl rfl rfl ⟨_, rfl, (fr_s hfs), ?_⟩
    show am_R 6 xs 999 90 (0, [(0, .ref 40), (1, .int n)], [], A2) _
    refine am_R_w rp_90 (rf_bk am_t90 0 3) 0 _ _ _ (by repeat (first | exact trivial | refine ⟨rfl, ?_⟩)) (by decide +kernel) ?_
    show am_R 6 xs 999 90 (6, [(0, .ref 40), (1, .int n)], [.int (Int16.ofInt 20000).toInt32, .int (Int8.ofInt 10).toInt32, .int n], A2) _
    rw [e10, e20]
    refine am_R_call (pc := 6) (q := ([.int n, .int 10, .int 20000], [])) rp_90 rfl rfl (by decide) rp_3 rfl (Nat.le_of_ble_eq_true rfl) ⟨rfl, Nat.le_of_ble_eq_true rfl⟩ (a_isIn (d := 998)) (fun v A' h => ?_)
    obtain ⟨eA, rfl⟩ := h
    rw [eA]
    clear eA
    rw [if_pos hc]
    refine am_R_w rp_90 (rf_bk am_t90 4 1) 9 _ _ _ ⟨rfl, trivial⟩ (by decide) ?_
    refine am_R_ifb (b := am_cnd .ne 0 0) (p := 14) (q := 12) (fun h => absurd h (by decide)) (fun _ => ?_)
    refine am_R_w rp_90 (rf_bk am_t90 5 1) 12 _ _ _ ⟨rfl, trivial⟩ (by decide) ?_
    exact am_R_re (pc := 13) (v := some (.int (Int32.ofInt (-1)))) rp_90 rfl rfl rfl ⟨rfl, hbnd⟩
  refine am_R_w rp_101 (rf_bk am_t101 0 3) 0 _ _ _ (by repeat (first | exact trivial | refine ⟨rfl, ?_⟩)) (by decide +kernel) ?_
  refine am_R_ifb (b := am_cnd .lt n (Int8.ofInt 10).toInt32) (p := 13) (q := 6) (fun h => ?_) (fun h => ?_)
  · rw [e10] at h; exact bad (Or.inl (of_decide_eq_true h))
  rw [e10] at h
  refine am_R_w rp_101 (rf_bk am_t101 3 3) 6 _ _ _ (by repeat (first | exact trivial | refine ⟨rfl, ?_⟩)) (by decide +kernel) ?_
  refine am_R_ifb (b := am_cnd .le n (Int16.ofInt 20000).toInt32) (p := 15) (q := 13) (fun h2 => ?_) (fun h2 => ?_)
  rotate_left
  · rw [e20] at h2; exact bad (Or.inr (Int32.not_le.mp (of_decide_eq_false h2)))
  rw [e20] at h2
  have hc : ¬ (n < 10 ∨ 20000 < n) := fun z => z.elim (of_decide_eq_false h) (fun y => absurd (of_decide_eq_true h2) (Int32.not_le.mpr y))
  refine am_R_w rp_101 (rf_bk am_t101 8 4) 15 _ _ _ (by repeat (first | exact trivial | refine ⟨rfl, ?_⟩)) (by decide +kernel) ?_
  refine ⟨_, o0, ⟨Nat.le_of_ble_eq_true rfl, rfl⟩, ?_⟩
  show am_R 6 xs 999 101 (21, [(0, .ref 0), (1, .int n)], [.int (Int32.ofInt 1)], am_up 0 A2 0 (.inr (1, [.ref 1, .ref 3, .ref 22, .ref 24, .ref 25, .int 0, .int n]))) _
  have h40 := (am_ob_ne (A := A2) (q := 40) (o := 0) (ci := 0) (e := .inr (1, [.ref 1, .ref 3, .ref 22, .ref 24, .ref 25, .int 0, .int n])) (by decide)).trans hfs
  have hl3 := cf_at_len (A := A2) (o := 0) (e := .inr (1, [.ref 1, .ref 3, .ref 22, .ref 24, .ref 25, .int 0, .int n]))
  have hz3 : (am_up 0 A2 0 (.inr (1, [.ref 1, .ref 3, .ref 22, .ref 24, .ref 25, .int 0, .int n]))).2 = A2.2 := rfl
  generalize am_up 0 A2 0 (.inr (1, [.ref 1, .ref 3, .ref 22, .ref 24, .ref 25, .int 0, .int n])) = A3 at *
  refine am_R_re (pc := 21) (v := some (.int (Int32.ofInt 1))) rp_101 rfl rfl rfl ⟨_, rfl, fr_s h40, ?_⟩
  show am_R 6 xs 999 90 (0, [(0, .ref 40), (1, .int n)], [], A3) _
  refine am_R_w rp_90 (rf_bk am_t90 0 3) 0 _ _ _ (by repeat (first | exact trivial | refine ⟨rfl, ?_⟩)) (by decide +kernel) ?_
  show am_R 6 xs 999 90 (6, [(0, .ref 40), (1, .int n)], [.int (Int16.ofInt 20000).toInt32, .int (Int8.ofInt 10).toInt32, .int n], A3) _
  rw [e10, e20]
  refine am_R_call (pc := 6) (q := ([.int n, .int 10, .int 20000], [])) rp_90 rfl rfl (by decide) rp_3 rfl (Nat.le_of_ble_eq_true rfl) ⟨rfl, Nat.le_of_ble_eq_true rfl⟩ (a_isIn (d := 998)) (fun v A' h => ?_)
  obtain ⟨eA, rfl⟩ := h
  rw [eA]
  clear eA
  rw [if_neg hc]
  refine am_R_w rp_90 (rf_bk am_t90 4 1) 9 _ _ _ ⟨rfl, trivial⟩ (by decide) ?_
  refine am_R_ifb (b := am_cnd .ne 1 0) (p := 14) (q := 12) (fun _ => ?_) (fun h => absurd h (by decide))
  refine am_R_w rp_90 (rf_bk am_t90 7 4) 14 _ _ _ (by repeat (first | exact trivial | refine ⟨rfl, ?_⟩)) (by decide +kernel) ?_
  refine ⟨_, h40, ⟨by rw [fl]; decide, rfl⟩, ?_⟩
  refine am_R_re (pc := 20) (v := some (.int (Int32.ofInt 1))) rp_90 rfl rfl rfl ⟨rfl, ?_⟩
  exact ⟨by rw [cf_at_len, hl3]; exact hbnd.1, by show A3.2 ≤ 7302250; rw [hz3]; exact hbnd.2⟩
theorem p1_endN {A2 : am_A} (hP : fr_P A2) (hc0 : p1_ok 6 xs 99 89 [.int 0] A2) (n : Int32) : p1_ok 6 xs 99 89 [.int n] A2 := by
  obtain ⟨o0, o1, o25, o34, ⟨row, hrow, hrl⟩, _, _, ⟨fs, hfs, f0, f1, f73, fl⟩, hbnd⟩ := hP
  by_cases h0 : n = 0
  · subst h0
    exact hc0
  have hc : n < 0 ∨ 0 < n := by
    by_cases h : n < 0
    · exact Or.inl h
    · refine Or.inr (Int32.lt_of_le_of_ne (Int32.not_lt.mp h) (fun z => h0 z.symm))
  show am_R 6 xs 999 99 (0, [(0, .ref 0), (1, .int n)], [], A2) _
  have bad : am_R 6 xs 999 99 (15, [(0, .ref 0), (1, .int n)], [], A2) (fun v A3 => ∃ x : Int32, v = some (.int x) ∧ (am_ob 0 A3 40 0).isSome = true ∧ am_R 6 xs 999 89 (0, lv_args 0 (.ref 40 :: [.int n]), [], A3) (fun w A4 => w = some (.int x) ∧ A4.1.length ≤ 600000 ∧ A4.2 ≤ 7302250)) := by
    refine am_R_w rp_99 (rf_bk am_t99 7 1) 15 _ _ _ ⟨rfl, trivial⟩ (by decide) ?_
    refine am_R_re (pc := 16) (v := some (.int (Int32.ofInt (-1)))) rp_99 rfl rfl rfl ⟨_, rfl, (fr_s hfs), ?_⟩
    show am_R 6 xs 999 89 (0, [(0, .ref 40), (1, .int n)], [], A2) _
    refine am_R_w rp_89 (rf_bk am_t89 0 4) 0 _ _ _ (by repeat (first | exact trivial | refine ⟨rfl, ?_⟩)) (by decide +kernel) ?_
    refine ⟨_, hfs, _, f1, ?_⟩
    show am_R 6 xs 999 89 (6, [(0, .ref 40), (1, .int n)], [.int 0, .int (Int32.ofInt 0), .int n], A2) _
    rw [rc_i0]
    refine am_R_call (pc := 6) (q := ([.int n, .int 0, .int 0], [])) rp_89 rfl rfl (by decide) rp_3 rfl (Nat.le_of_ble_eq_true rfl) ⟨rfl, Nat.le_of_ble_eq_true rfl⟩ (a_isIn (d := 998)) (fun v A' h => ?_)
    obtain ⟨eA, rfl⟩ := h
    rw [eA]
    clear eA
    rw [if_pos hc]
    refine am_R_w rp_89 (rf_bk am_t89 5 1) 9 _ _ _ ⟨rfl, trivial⟩ (by decide) ?_
    refine am_R_ifb (b := am_cnd .ne 0 0) (p := 14) (q := 12) (fun h => absurd h (by decide)) (fun _ => ?_)
    refine am_R_w rp_89 (rf_bk am_t89 6 1) 12 _ _ _ ⟨rfl, trivial⟩ (by decide) ?_
    exact am_R_re (pc := 13) (v := some (.int (Int32.ofInt (-1)))) rp_89 rfl rfl rfl ⟨rfl, hbnd⟩
  refine am_R_w rp_99 (rf_bk am_t99 0 2) 0 _ _ _ ⟨rfl, rfl, trivial⟩ (by decide) ?_
  refine am_R_ifb (b := am_cnd .lt n 0) (p := 15) (q := 4) (fun _ => bad) (fun h => ?_)
  refine am_R_w rp_99 (rf_bk am_t99 2 3) 4 _ _ _ (by repeat (first | exact trivial | refine ⟨rfl, ?_⟩)) (by decide +kernel) ?_
  refine ⟨_, o0, _, rfl, ?_⟩
  have hrc : am_rc 0 (.invokevirtual 56) A2 [.ref 1] 3 = true := by unfold am_rc; dsimp only; rw [o1]; rfl
  refine am_R_call (pc := 9) (q := ([.ref 1], [.int n])) rp_99 rfl rfl (by decide) rp_118 rfl (Nat.le_of_ble_eq_true rfl) ⟨hrc, Nat.le_of_ble_eq_true rfl⟩ (c_Bytes_length (d := 998) o1) (fun v A' h => ?_)
  obtain ⟨eA, rfl⟩ := h
  rw [eA]
  clear eA
  refine am_R_w rp_99 (rf_bk am_t99 6 1) 12 _ _ _ ⟨rfl, trivial⟩ (by decide) ?_
  refine am_R_ifb (b := am_cnd .le n 0) (p := 17) (q := 15) (fun h2 => ?_) (fun _ => bad)
  have h3 : n ≤ 0 := of_decide_eq_true h2
  rcases hc with z | z
  · exact absurd z (of_decide_eq_false h)
  · exact absurd h3 (Int32.not_le.mpr z)
theorem p1_text {A2 : am_A} (hP : fr_P A2) (i : Int32) : p1_ok 6 xs 105 94 [.int i] A2 := by
  obtain ⟨o0, o1, o25, o34, ⟨row, hrow, hrl⟩, _, _, ⟨fs, hfs, f0, f1, f73, fl⟩, hbnd⟩ := hP
  show am_R 6 xs 999 105 (0, [(0, .ref 0), (1, .int i)], [], A2) _
  refine am_R_w rp_105 (rf_bk am_t105 0 2) 0 _ _ _ ⟨rfl, rfl, trivial⟩ (by decide) ?_
  refine ⟨_, o0, _, rfl, ?_⟩
  have hrc : am_rc 0 (.invokevirtual 99) A2 [.ref 25] 5 = true := by unfold am_rc; dsimp only; rw [o25]; rfl
  have hsh : am_R 6 xs 998 149 (0, [(0, .ref 25)], [], A2) (fun r A' => A' = A2 ∧ r = some (.ref 34)) := by
    refine am_R_w rp_149 (rf_bk am_t149 0 2) 0 _ _ _ ⟨rfl, rfl, trivial⟩ (by decide) ?_
    refine ⟨_, o25, _, rfl, ?_⟩
    exact am_R_re (pc := 4) (v := some (.ref 34)) rp_149 rfl rfl rfl ⟨rfl, rfl⟩
  refine am_R_call (pc := 4) (q := ([.ref 25], [])) rp_105 rfl rfl (by decide) rp_149 rfl (Nat.le_of_ble_eq_true rfl) ⟨hrc, Nat.le_of_ble_eq_true rfl⟩ hsh (fun v A' h => ?_)
  obtain ⟨eA, rfl⟩ := h
  rw [eA]
  clear eA
  refine am_R_w rp_105 (rf_bk am_t105 3 1) 7 _ _ _ ⟨rfl, trivial⟩ (by decide) ?_
  have hrc2 : am_rc 0 (.invokevirtual 103) A2 [.ref 34, .int i] 3 = true := by unfold am_rc; dsimp only; rw [o34]; rfl
  have hout : by_out 0 row.1 i := by
    by_cases h : i < 0
    · exact Or.inl h
    · exact Or.inr (Or.inl (Int32.not_lt.mp h))
  refine am_R_call (pc := 8) (q := ([.ref 34, .int i], [])) rp_105 rfl rfl (by decide) rp_120 rfl (Nat.le_of_ble_eq_true rfl) ⟨hrc2, Nat.le_of_ble_eq_true rfl⟩ (c_Bytes_at (d := 998) (i := i) o34 hrow (by decide) (by rw [hrl]; decide)) (fun v A' h => ?_)
  obtain ⟨eA, h⟩ := h
  rw [eA]
  clear eA
  obtain ⟨_, rfl⟩ : by_out 0 row.1 i ∧ v = some (.int (-1)) := by
    rcases h with z | z
    · exact z
    · exact absurd hout z.1
  refine am_R_re (pc := 11) (v := some (.int (-1))) rp_105 rfl rfl rfl ⟨_, rfl, (fr_s hfs), ?_⟩
  show am_R 6 xs 999 94 (0, [(0, .ref 40), (1, .int i)], [], A2) _
  refine am_R_w rp_94 (rf_bk am_t94 0 3) 0 _ _ _ ⟨rfl, rfl, rfl, trivial⟩ (by decide) ?_
  have hrc3 : am_rc 0 (.invokevirtual 552) A2 [.ref 40] 0 = true := by unfold am_rc; dsimp only; rw [hfs]; rfl
  have hsz : am_R 6 xs 998 93 (0, [(0, .ref 40)], [], A2) (fun r A' => A' = A2 ∧ r = some (.int (Int32.ofInt 0))) := by
    refine am_R_w rp_93 (rf_bk am_t93 0 3) 0 _ _ _ (by repeat (first | exact trivial | refine ⟨rfl, ?_⟩)) (by decide +kernel) ?_
    refine ⟨_, hfs, _, f73, ?_⟩
    refine am_R_ifb (b := am_cnd .eq 0 0) (p := 14) (q := 7) (fun _ => ?_) (fun h => absurd h (by decide))
    refine am_R_w rp_93 (rf_bk am_t93 6 1) 14 _ _ _ ⟨rfl, trivial⟩ (by decide) ?_
    exact am_R_re (pc := 15) (v := some (.int (Int32.ofInt 0))) rp_93 rfl rfl rfl ⟨rfl, rfl⟩
  refine am_R_call (pc := 3) (q := ([.ref 40], [.int (Int32.ofInt 0), .int i])) rp_94 rfl rfl (by decide) rp_93 rfl (Nat.le_of_ble_eq_true rfl) ⟨hrc3, Nat.le_of_ble_eq_true rfl⟩ hsz (fun v A' h => ?_)
  obtain ⟨eA, rfl⟩ := h
  rw [eA]
  clear eA
  refine am_R_w rp_94 (rf_bk am_t94 4 2) 6 _ _ _ ⟨rfl, rfl, trivial⟩ (by decide) ?_
  show am_R 6 xs 999 94 (8, [(0, .ref 40), (1, .int i)], [.int (Int32.ofInt 0 - Int32.ofInt 1), .int (Int32.ofInt 0), .int i], A2) _
  have em : Int32.ofInt 0 - Int32.ofInt 1 = -1 := by decide
  rw [em, rc_i0]
  refine am_R_call (pc := 8) (q := ([.int i, .int 0, .int (-1)], [])) rp_94 rfl rfl (by decide) rp_3 rfl (Nat.le_of_ble_eq_true rfl) ⟨rfl, Nat.le_of_ble_eq_true rfl⟩ (a_isIn (d := 998)) (fun v A' h => ?_)
  obtain ⟨eA, rfl⟩ := h
  rw [eA]
  clear eA
  have hin : i < 0 ∨ -1 < i := by
    by_cases h : i < 0
    · exact Or.inl h
    · exact Or.inr (Int32.lt_of_lt_of_le (by decide) (Int32.not_lt.mp h))
  rw [if_pos hin]
  refine am_R_w rp_94 (rf_bk am_t94 7 1) 11 _ _ _ ⟨rfl, trivial⟩ (by decide) ?_
  refine am_R_ifb (b := am_cnd .eq 0 0) (p := 23) (q := 14) (fun _ => ?_) (fun h => absurd h (by decide))
  refine am_R_w rp_94 (rf_bk am_t94 13 1) 23 _ _ _ ⟨rfl, trivial⟩ (by decide) ?_
  show am_R 6 xs 999 94 (24, _, [.int (Int32.ofInt (-1))], A2) _
  rw [rc_im1]
  exact am_R_re (pc := 24) (v := some (.int (-1))) rp_94 rfl rfl rfl ⟨rfl, hbnd⟩
theorem p1_count {A2 : am_A} (hP : fr_P A2) (hcl : ∀ k ∈ ([0, 1, 2, 3, 4, 5, 6] : List Int32), p1_ok 6 xs 106 95 [.int k] A2) (c : Int32) : p1_ok 6 xs 106 95 [.int c] A2 := by
  obtain ⟨o0, o1, o25, o34, ⟨row, hrow, hrl⟩, _, _, ⟨fs, hfs, f0, f1, f73, fl⟩, hbnd⟩ := hP
  have cl : ∀ k : Int32, k ∈ ([0, 1, 2, 3, 4, 5, 6] : List Int32) → c = k → p1_ok 6 xs 106 95 [.int c] A2 := by
    intro k hk hc
    rw [hc]
    exact hcl k hk
  by_cases h0 : c = 0
  · exact cl 0 (by decide) h0
  by_cases h1 : c = 1
  · exact cl 1 (by decide) h1
  by_cases h2 : c = 2
  · exact cl 2 (by decide) h2
  by_cases h3 : c = 3
  · exact cl 3 (by decide) h3
  by_cases h4 : c = 4
  · exact cl 4 (by decide) h4
  by_cases h5 : c = 5
  · exact cl 5 (by decide) h5
  by_cases h6 : c = 6
  · exact cl 6 (by decide) h6
  clear hcl cl
  have hin : c < 0 ∨ 5 < c := by
    by_cases h : c < 0
    · exact Or.inl h
    · obtain ⟨j, hj, rfl⟩ := nI_of h
      refine Or.inr ?_
      have g : ∀ m : Nat, m < 2 ^ 31 → ¬ nI j = nI m → j ≠ m := fun m hm z y => z (by rw [y])
      have g0 := g 0 (by decide) h0
      have g1 := g 1 (by decide) h1
      have g2 := g 2 (by decide) h2
      have g3 := g 3 (by decide) h3
      have g4 := g 4 (by decide) h4
      have g5 := g 5 (by decide) h5
      exact nI_lt (a := 5) (by omega) hj
  show am_R 6 xs 999 106 (0, [(0, .ref 0), (1, .int c)], [], A2) _
  refine am_R_w rp_106 (rf_bk am_t106 0 2) 0 _ _ _ ⟨rfl, rfl, trivial⟩ (by decide) ?_
  show am_R 6 xs 999 106 (am_sw c [(0, 44), (1, 52), (2, 60), (3, 68), (4, 76), (5, 84), (6, 92)] 100, _, [], A2) _
  refine am_R_sw (fun z => absurd z h0) (fun _ => ?_)
  refine am_R_sw (fun z => absurd z h1) (fun _ => ?_)
  refine am_R_sw (fun z => absurd z h2) (fun _ => ?_)
  refine am_R_sw (fun z => absurd z h3) (fun _ => ?_)
  refine am_R_sw (fun z => absurd z h4) (fun _ => ?_)
  refine am_R_sw (fun z => absurd z h5) (fun _ => ?_)
  refine am_R_sw (fun z => absurd z h6) (fun _ => ?_)
  show am_R 6 xs 999 106 (100, _, _, _) _
  refine am_R_w rp_106 (rf_bk am_t106 30 1) 100 _ _ _ ⟨rfl, trivial⟩ (by decide) ?_
  refine am_R_re (pc := 101) (v := some (.int (Int32.ofInt (-1)))) rp_106 rfl rfl rfl ⟨_, rfl, (fr_s hfs), ?_⟩
  show am_R 6 xs 999 95 (0, [(0, .ref 40), (1, .int c)], [], A2) _
  have e6 : (Int8.ofInt 6).toInt32 = 6 := by decide
  refine am_R_w rp_95 (rf_bk am_t95 0 3) 0 _ _ _ (by repeat (first | exact trivial | refine ⟨rfl, ?_⟩)) (by decide +kernel) ?_
  refine am_R_ifb (b := am_cnd .ne c (Int8.ofInt 6).toInt32) (p := 11) (q := 6) (fun _ => ?_) (fun h => absurd (Decidable.not_not.mp (of_decide_eq_false h)) (by rw [e6]; exact h6))
  refine am_R_w rp_95 (rf_bk am_t95 6 3) 11 _ _ _ ⟨rfl, rfl, rfl, trivial⟩ (by decide) ?_
  show am_R 6 xs 999 95 (14, [(0, .ref 40), (1, .int c)], [.int (Int32.ofInt 5), .int (Int32.ofInt 0), .int c], A2) _
  rw [rc_i0, rc_i5]
  refine am_R_call (pc := 14) (q := ([.int c, .int 0, .int 5], [])) rp_95 rfl rfl (by decide) rp_3 rfl (Nat.le_of_ble_eq_true rfl) ⟨rfl, Nat.le_of_ble_eq_true rfl⟩ (a_isIn (d := 998)) (fun v A' h => ?_)
  obtain ⟨eA, rfl⟩ := h
  rw [eA]
  clear eA
  rw [if_pos hin]
  refine am_R_w rp_95 (rf_bk am_t95 10 1) 17 _ _ _ ⟨rfl, trivial⟩ (by decide) ?_
  refine am_R_ifb (b := am_cnd .ne 0 0) (p := 22) (q := 20) (fun h => absurd h (by decide)) (fun _ => ?_)
  refine am_R_w rp_95 (rf_bk am_t95 11 1) 20 _ _ _ ⟨rfl, trivial⟩ (by decide) ?_
  exact am_R_re (pc := 21) (v := some (.int (Int32.ofInt (-1)))) rp_95 rfl rfl rfl ⟨rfl, hbnd⟩
end P1S
