/-! PART 36: the reference: tells, end, heap, size -/
theorem rp_82 : am_prog[82]? = some (am_m82, am_t82) := rfl
theorem rp_89 : am_prog[89]? = some (am_m89, am_t89) := rfl
theorem rp_90 : am_prog[90]? = some (am_m90, am_t90) := rfl
theorem rp_93 : am_prog[93]? = some (am_m93, am_t93) := rfl
theorem rf_ite01 {P : Prop} {dec : Decidable P} : (decide (¬ (if P then (0 : Int32) else 1) = 0)) = true ↔ ¬ P := by
  by_cases h : P
  · simp [h]
  · simp [h]
/-- tells(c): a byte more of the text, if there is place -/
theorem r_tells {d : Nat} {c : Int32} {s : rf_S} (h : ¬ s.1 82 = 1500 → rf_in (s.1 82) 1500) : rf_R d 82 (0, [(0, .ref rf_o), (1, .int c)], [], s) (fun r s' => (s.1 82 = 1500 ∧ r = some (.int 0) ∧ s' = s) ∨ (¬ s.1 82 = 1500 ∧ r = some (.int 1) ∧ s' = rf_si (rf_sb s 81 (s.1 82).toNatClampNeg c) 82 (s.1 82 + 1))) := by
  have e : (Int16.ofInt 1500).toInt32 = 1500 := by decide
  refine rf_R_w rp_82 (rf_bk am_t82 0 4) 0 _ _ _ (by repeat (first | exact trivial | refine ⟨rfl, ?_⟩)) (by decide +kernel) ?_
  refine rf_R_if (b := am_cnd .ne (s.1 82) (Int16.ofInt 1500).toInt32) (p := 12) (q := 10) (fun h1 => ?_) (fun h1 => ?_)
  · rw [e] at h1
    have h2 : ¬ s.1 82 = 1500 := of_decide_eq_true h1
    refine rf_R_w rp_82 (rf_bk am_t82 6 13) 12 _ _ _ (by repeat (first | exact trivial | refine ⟨rfl, ?_⟩)) (by decide +kernel) ?_
    refine And.intro (h h2) (And.intro rfl ?_)
    exact rf_R_ret (pc := 33) (v := some (.int 1)) rp_82 rfl rfl rfl (Or.inr ⟨h2, rfl, rfl⟩)
  · rw [e] at h1
    have h2 : s.1 82 = 1500 := Decidable.not_not.mp (of_decide_eq_false h1)
    refine rf_R_w rp_82 (rf_bk am_t82 4 1) 10 _ _ _ ⟨rfl, trivial⟩ (by decide) ?_
    exact rf_R_ret (pc := 11) (v := some (.int 0)) rp_82 rfl rfl rfl (Or.inl ⟨h2, rfl, rfl⟩)
/-- size() -/
theorem r_size {d : Nat} {s : rf_S} : rf_R d 93 (0, [(0, .ref rf_o)], [], s) (fun r s' => s' = s ∧ r = some (.int (if s.1 73 = 0 then 0 else s.1 82))) := by
  refine rf_R_w rp_93 (rf_bk am_t93 0 3) 0 _ _ _ ⟨rfl, rfl, rfl, trivial⟩ (by decide) ?_
  refine rf_R_if (b := am_cnd .eq (s.1 73) 0) (p := 14) (q := 7) (fun h1 => ?_) (fun h1 => ?_)
  · have h2 : s.1 73 = 0 := of_decide_eq_true h1
    refine rf_R_w rp_93 (rf_bk am_t93 6 1) 14 _ _ _ ⟨rfl, trivial⟩ (by decide) ?_
    exact rf_R_ret (pc := 15) (v := some (.int 0)) rp_93 rfl rfl rfl ⟨rfl, by rw [if_pos h2]⟩
  · have h2 : ¬ s.1 73 = 0 := of_decide_eq_false h1
    refine rf_R_w rp_93 (rf_bk am_t93 3 3) 7 _ _ _ ⟨rfl, rfl, rfl, trivial⟩ (by decide) ?_
    exact rf_R_ret (pc := 15) (v := some (.int (s.1 82))) rp_93 rfl rfl rfl ⟨rfl, by rw [if_neg h2]⟩
/-- end(n) -/
theorem r_end {d : Nat} {n : Int32} {s : rf_S} : rf_R (d + 1) 89 (0, [(0, .ref rf_o), (1, .int n)], [], s) (fun r s' => ((n < 0 ∨ s.1 1 < n) ∧ r = some (.int (-1)) ∧ s' = s) ∨ (¬ (n < 0 ∨ s.1 1 < n) ∧ r = some (.int n) ∧ s' = rf_si s 1 n)) := by
  refine rf_R_w rp_89 (rf_bk am_t89 0 4) 0 _ _ _ ⟨rfl, rfl, rfl, rfl, trivial⟩ (by decide) ?_
  refine rf_R_call (pc := 6) (q := ([.int n, .int 0, .int (s.1 1)], [])) rp_89 rfl rfl (by decide) rp_3 rfl (Nat.le_of_ble_eq_true rfl) ⟨rfl, Nat.le_refl 3⟩ (r_isIn (d := d) (v := n) (lo := 0) (hi := s.1 1) (s := s)) (fun v s' h => ?_)
  obtain ⟨rfl, rfl⟩ := h
  refine rf_R_w rp_89 (rf_bk am_t89 5 1) 9 _ _ _ ⟨rfl, trivial⟩ (by decide) ?_
  refine rf_R_if (b := am_cnd .ne (if n < 0 ∨ s'.1 1 < n then 0 else 1) 0) (p := 14) (q := 12) (fun h1 => ?_) (fun h1 => ?_)
  · have h2 : ¬ (n < 0 ∨ s'.1 1 < n) := rf_ite01.mp h1
    refine rf_R_w rp_89 (rf_bk am_t89 8 4) 14 _ _ _ ⟨rfl, rfl, rfl, rfl, trivial⟩ (by decide) ?_
    refine And.intro rfl ?_
    exact rf_R_ret (pc := 20) (v := some (.int n)) rp_89 rfl rfl rfl (Or.inr ⟨h2, rfl, rfl⟩)
  · have h2 : n < 0 ∨ s'.1 1 < n := Decidable.not_not.mp (fun z => absurd (h1.symm.trans (rf_ite01.mpr z)) (by decide))
    refine rf_R_w rp_89 (rf_bk am_t89 6 1) 12 _ _ _ ⟨rfl, trivial⟩ (by decide) ?_
    show rf_R (d + 1) 89 (13, [(0, .ref rf_o), (1, .int n)], [.int (Int32.ofInt (-1))], s') _
    rw [rf_om1]
    exact rf_R_ret (pc := 13) (v := some (.int (-1))) rp_89 rfl rfl rfl (Or.inl ⟨h2, rfl, rfl⟩)
