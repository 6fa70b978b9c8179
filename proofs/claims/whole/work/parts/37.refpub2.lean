/-! PART 37: the reference: heap, isLetter -/
/-- heap(n) -/
theorem r_heap {d : Nat} {n : Int32} {s : rf_S} : rf_R (d + 1) 90 (0, [(0, .ref rf_o), (1, .int n)], [], s) (fun r s' => ((n < 10 ∨ 20000 < n) ∧ r = some (.int (-1)) ∧ s' = s) ∨ (¬ (n < 10 ∨ 20000 < n) ∧ r = some (.int 1) ∧ s' = rf_si s 59 n)) := by
  refine rf_R_w rp_90 (rf_bk am_t90 0 3) 0 _ _ _ ⟨rfl, rfl, rfl, trivial⟩ (by decide) ?_
  refine rf_R_call (pc := 6) (q := ([.int n, .int 10, .int 20000], [])) rp_90 rfl rfl (by decide) rp_3 rfl (Nat.le_of_ble_eq_true rfl) ⟨rfl, Nat.le_refl 3⟩ (r_isIn (d := d) (v := n) (lo := 10) (hi := 20000) (s := s)) (fun v s' h => ?_)
  obtain ⟨rfl, rfl⟩ := h
  refine rf_R_w rp_90 (rf_bk am_t90 4 1) 9 _ _ _ ⟨rfl, trivial⟩ (by decide) ?_
  refine rf_R_if (b := am_cnd .ne (if n < 10 ∨ 20000 < n then 0 else 1) 0) (p := 14) (q := 12) (fun h1 => ?_) (fun h1 => ?_)
  · have h2 : ¬ (n < 10 ∨ 20000 < n) := rf_ite01.mp h1
    refine rf_R_w rp_90 (rf_bk am_t90 7 4) 14 _ _ _ ⟨rfl, rfl, rfl, rfl, trivial⟩ (by decide) ?_
    refine And.intro rfl ?_
    exact rf_R_ret (pc := 20) (v := some (.int 1)) rp_90 rfl rfl rfl (Or.inr ⟨h2, rfl, rfl⟩)
  · have h2 : n < 10 ∨ 20000 < n := Decidable.not_not.mp (fun z => absurd (h1.symm.trans (rf_ite01.mpr z)) (by decide))
    refine rf_R_w rp_90 (rf_bk am_t90 5 1) 12 _ _ _ ⟨rfl, trivial⟩ (by decide) ?_
    show rf_R (d + 1) 90 (13, [(0, .ref rf_o), (1, .int n)], [.int (Int32.ofInt (-1))], s') _
    rw [rf_om1]
    exact rf_R_ret (pc := 13) (v := some (.int (-1))) rp_90 rfl rfl rfl (Or.inl ⟨h2, rfl, rfl⟩)
/-- isLetter(c) -/
theorem r_isLetter {d : Nat} {c : Int32} {s : rf_S} : rf_R (d + 1) 6 (0, [(0, .int c)], [], s) (fun r s' => s' = s ∧ r = some (.int (if (c < 97 ∨ 122 < c) ∧ (c < 65 ∨ 90 < c) then 0 else 1))) := by
  have end1 : ∀ lv, ¬ ((c < 97 ∨ 122 < c) ∧ (c < 65 ∨ 90 < c)) → rf_R (d + 1) 6 (22, lv, [], s) (fun r s' => s' = s ∧ r = some (.int (if (c < 97 ∨ 122 < c) ∧ (c < 65 ∨ 90 < c) then 0 else 1))) := by
    intro lv h
    refine rf_R_w rp_6 (rf_bk am_t6 10 2) 22 _ _ _ ⟨rfl, rfl, trivial⟩ (by decide) ?_
    exact rf_R_ret (pc := 27) (v := some (.int 1)) rp_6 rfl rfl rfl ⟨rfl, by rw [if_neg h]⟩
  refine rf_R_w rp_6 (rf_bk am_t6 0 3) 0 _ _ _ ⟨rfl, rfl, rfl, trivial⟩ (by decide) ?_
  refine rf_R_call (pc := 5) (q := ([.int c, .int 97, .int 122], [])) rp_6 rfl rfl (by decide) rp_3 rfl (Nat.le_of_ble_eq_true rfl) ⟨rfl, Nat.le_refl 3⟩ (r_isIn (d := d) (v := c) (lo := 97) (hi := 122) (s := s)) (fun v s' h => ?_)
  obtain ⟨rfl, rfl⟩ := h
  refine rf_R_w rp_6 (rf_bk am_t6 4 1) 8 _ _ _ ⟨rfl, trivial⟩ (by decide) ?_
  refine rf_R_if (b := am_cnd .ne (if c < 97 ∨ 122 < c then 0 else 1) 0) (p := 22) (q := 11) (fun h1 => end1 _ (fun z => rf_ite01.mp h1 z.1)) (fun h1 => ?_)
  have g1 : c < 97 ∨ 122 < c := Decidable.not_not.mp (fun z => absurd (h1.symm.trans (rf_ite01.mpr z)) (by decide))
  refine rf_R_w rp_6 (rf_bk am_t6 5 3) 11 _ _ _ ⟨rfl, rfl, rfl, trivial⟩ (by decide) ?_
  refine rf_R_call (pc := 16) (q := ([.int c, .int 65, .int 90], [])) rp_6 rfl rfl (by decide) rp_3 rfl (Nat.le_of_ble_eq_true rfl) ⟨rfl, Nat.le_refl 3⟩ (r_isIn (d := d) (v := c) (lo := 65) (hi := 90) (s := s')) (fun v s'' h => ?_)
  obtain ⟨rfl, rfl⟩ := h
  refine rf_R_w rp_6 (rf_bk am_t6 9 1) 19 _ _ _ ⟨rfl, trivial⟩ (by decide) ?_
  refine rf_R_if (b := am_cnd .eq (if c < 65 ∨ 90 < c then 0 else 1) 0) (p := 26) (q := 22) (fun h2 => ?_) (fun h2 => ?_)
  · have g2 : c < 65 ∨ 90 < c := Decidable.not_not.mp (fun z => by
      have h3 : (if c < 65 ∨ 90 < c then (0 : Int32) else 1) = 0 := of_decide_eq_true h2
      rw [if_neg z] at h3
      exact absurd h3 (by decide))
    refine rf_R_w rp_6 (rf_bk am_t6 12 1) 26 _ _ _ ⟨rfl, trivial⟩ (by decide) ?_
    exact rf_R_ret (pc := 27) (v := some (.int 0)) rp_6 rfl rfl rfl ⟨rfl, by rw [if_pos ⟨g1, g2⟩]⟩
  · have g2 : ¬ (c < 65 ∨ 90 < c) := fun z => by
      have h3 : ¬ (if c < 65 ∨ 90 < c then (0 : Int32) else 1) = 0 := of_decide_eq_false h2
      rw [if_pos z] at h3
      exact h3 rfl
    exact end1 _ (fun z => g2 z.2)
