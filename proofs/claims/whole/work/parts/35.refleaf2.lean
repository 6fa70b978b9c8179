/-! PART 35: more leaves of the reference: push (exact), pop, isSign, isSimple -/
set_option maxRecDepth 10000 in
/-- push(is, of, number, within): a new frame without words -/
theorem r_pushX {d : Nat} {is of nu wi : Int32} {s : rf_S} (h1 : rf_in (s.1 65) 1600) (h2 : rf_in (s.1 65 + 1) 1601) (h3 : rf_in (s.1 65 + 1 - 1) 1601) :
    rf_R d 53 (0, [(0, .ref rf_o), (1, .int is), (2, .int of), (3, .int nu), (4, .int wi)], [], s) (fun r s' => r = none ∧ s' = rf_sb (rf_si (rf_sb (rf_sb (rf_sb (rf_sb s 66 (s.1 65).toNatClampNeg is) 67 (s.1 65).toNatClampNeg of) 68 (s.1 65).toNatClampNeg nu) 69 (s.1 65).toNatClampNeg (vp_nar .boolean wi)) 65 (s.1 65 + 1)) 70 (s.1 65 + 1).toNatClampNeg (s.2.2.1 70 (s.1 65 + 1 - 1).toNatClampNeg)) := by
  refine rf_R_w rp_53 (rf_bk am_t53 0 42) 0 _ _ _ (by repeat (first | exact trivial | refine ⟨rfl, ?_⟩)) (by decide +kernel) ?_
  refine And.intro h1 (And.intro h1 (And.intro h1 (And.intro h1 (And.intro rfl (And.intro h3 (And.intro h2 ?_))))))
  exact rf_R_ret (pc := 71) rp_53 rfl rfl rfl ⟨rfl, rfl⟩
/-- pop(): the latest frame goes -/
theorem r_pop {d : Nat} {s : rf_S} (h1 : rf_in (s.1 65 - 1) 1600) (h2 : rf_in (s.1 65 - 1 + 1) 1601) (h3 : rf_in (s.1 65 - 1) 1601) : rf_R (d + 1) 57 (0, [(0, .ref rf_o)], [], s) (fun r s' => r = none ∧ s' = rf_si (rf_si s 65 (s.1 65 - 1)) 72 (s.1 72 - rf_cof (rf_si s 65 (s.1 65 - 1)) (s.1 65 - 1))) := by
  refine rf_R_w rp_57 (rf_bk am_t57 0 12) 0 _ _ _ (by repeat (first | exact trivial | refine ⟨rfl, ?_⟩)) (by decide +kernel) ?_
  refine And.intro rfl ?_
  refine rf_R_call (pc := 20) (q := ([.ref rf_o, .int (s.1 65 - 1)], [.int (s.1 72), .ref rf_o])) rp_57 rfl rfl (by decide) rp_52 rfl (Nat.le_of_ble_eq_true rfl) ⟨rfl, Nat.le_refl 2⟩ (r_cellsOfFrame (d := d) (s := rf_si s 65 (s.1 65 - 1)) h1 h2 h3) (fun v s' h => ?_)
  obtain ⟨rfl, rfl⟩ := h
  refine rf_R_w rp_57 (rf_bk am_t57 13 2) 23 _ _ _ ⟨rfl, rfl, trivial⟩ (by decide) ?_
  refine And.intro rfl ?_
  exact rf_R_ret (pc := 27) rp_57 rfl rfl rfl ⟨rfl, rfl⟩
/-- isSimple(n) -/
theorem r_isSimple {d : Nat} {n : Int32} {s : rf_S} (h : rf_in n 2100) : rf_R d 60 (0, [(0, .ref rf_o), (1, .int n)], [], s) (fun r s' => s' = s ∧ r = some (.int (if 2 < s.2.2.1 12 n.toNatClampNeg then 0 else 1))) := by
  refine rf_R_w rp_60 (rf_bk am_t60 0 6) 0 _ _ _ (by repeat (first | exact trivial | refine ⟨rfl, ?_⟩)) (by decide +kernel) ?_
  refine And.intro h ?_
  refine rf_R_if (b := am_cnd .gt (s.2.2.1 12 n.toNatClampNeg) (Int32.ofInt 2)) (p := 14) (q := 10) (fun h1 => ?_) (fun h1 => ?_)
  · rw [rf_o2] at h1
    have h2 : 2 < s.2.2.1 12 n.toNatClampNeg := of_decide_eq_true h1
    refine rf_R_w rp_60 (rf_bk am_t60 8 1) 14 _ _ _ ⟨rfl, trivial⟩ (by decide) ?_
    exact rf_R_ret (pc := 15) (v := some (.int 0)) rp_60 rfl rfl rfl ⟨rfl, by rw [if_pos h2]⟩
  · rw [rf_o2] at h1
    have h2 : ¬ 2 < s.2.2.1 12 n.toNatClampNeg := of_decide_eq_false h1
    refine rf_R_w rp_60 (rf_bk am_t60 6 2) 10 _ _ _ ⟨rfl, rfl, trivial⟩ (by decide) ?_
    exact rf_R_ret (pc := 15) (v := some (.int 1)) rp_60 rfl rfl rfl ⟨rfl, by rw [if_neg h2]⟩
/-- isSign(c) -/
theorem r_isSign {d : Nat} {c : Int32} {s : rf_S} : rf_R d 11 (0, [(0, .ref rf_o), (1, .int c)], [], s) (fun r s' => s' = s ∧ r = some (.int (if ¬ s.1 5 = 11 ∨ ¬ s.1 8 = c ∨ 0 ≤ s.1 9 then 0 else 1))) := by
  have end0 : ∀ lv, (¬ s.1 5 = 11 ∨ ¬ s.1 8 = c ∨ 0 ≤ s.1 9) → rf_R d 11 (28, lv, [], s) (fun r s' => s' = s ∧ r = some (.int (if ¬ s.1 5 = 11 ∨ ¬ s.1 8 = c ∨ 0 ≤ s.1 9 then 0 else 1))) := by
    intro lv h
    refine rf_R_w rp_11 (rf_bk am_t11 13 1) 28 _ _ _ ⟨rfl, trivial⟩ (by decide) ?_
    exact rf_R_ret (pc := 29) (v := some (.int 0)) rp_11 rfl rfl rfl ⟨rfl, by rw [if_pos h]⟩
  have e11 : (Int8.ofInt 11).toInt32 = 11 := by decide
  refine rf_R_w rp_11 (rf_bk am_t11 0 4) 0 _ _ _ (by repeat (first | exact trivial | refine ⟨rfl, ?_⟩)) (by decide +kernel) ?_
  refine rf_R_if (b := am_cnd .ne (s.1 5) (Int8.ofInt 11).toInt32) (p := 28) (q := 9) (fun h => ?_) (fun h1 => ?_)
  · rw [e11] at h; exact end0 _ (Or.inl (of_decide_eq_true h))
  rw [e11] at h1
  refine rf_R_w rp_11 (rf_bk am_t11 4 4) 9 _ _ _ (by repeat (first | exact trivial | refine ⟨rfl, ?_⟩)) (by decide +kernel) ?_
  refine rf_R_if (b := am_cnd .ne (s.1 8) c) (p := 28) (q := 17) (fun h => end0 _ (Or.inr (Or.inl (of_decide_eq_true h)))) (fun h2 => ?_)
  refine rf_R_w rp_11 (rf_bk am_t11 8 3) 17 _ _ _ ⟨rfl, rfl, rfl, trivial⟩ (by decide) ?_
  refine rf_R_if (b := am_cnd .ge (s.1 9) 0) (p := 28) (q := 24) (fun h => end0 _ (Or.inr (Or.inr (of_decide_eq_true h)))) (fun h3 => ?_)
  refine rf_R_w rp_11 (rf_bk am_t11 11 2) 24 _ _ _ ⟨rfl, rfl, trivial⟩ (by decide) ?_
  exact rf_R_ret (pc := 29) (v := some (.int 1)) rp_11 rfl rfl rfl ⟨rfl, by rw [if_neg (fun z => z.elim (of_decide_eq_false h1) (fun y => y.elim (of_decide_eq_false h2) (of_decide_eq_false h3)))]⟩
