/-! PART 39: the reference: isSame(from, length, other, otherLength) -/
set_option maxRecDepth 10000 in
theorem r_isSame {d a b n : Nat} {ol : Int32} {s : rf_S} (ha : a + n ≤ 2000) (hb : b + n ≤ 2000) : rf_R d 17 (0, [(0, .ref rf_o), (1, .int (nI a)), (2, .int (nI n)), (3, .int (nI b)), (4, .int ol)], [], s) (fun r s' => s' = s ∧ (((nI n = ol ∧ ∀ i, i < n → s.2.2.1 2 (a + i) = s.2.2.1 2 (b + i)) ∧ r = some (.int 1)) ∨ (¬ (nI n = ol ∧ ∀ i, i < n → s.2.2.1 2 (a + i) = s.2.2.1 2 (b + i)) ∧ r = some (.int 0)))) := by
  refine rf_R_w rp_17 (rf_bk am_t17 0 3) 0 _ _ _ ⟨rfl, rfl, rfl, trivial⟩ (by decide) ?_
  refine rf_R_if (b := am_cnd .ne (nI n) ol) (p := 10) (q := 6) (fun h => ?_) (fun h => ?_)
  · have h1 : ¬ nI n = ol := of_decide_eq_true h
    refine rf_R_w rp_17 (rf_bk am_t17 5 4) 10 _ _ _ ⟨rfl, rfl, rfl, rfl, trivial⟩ (by decide) ?_
    exact r_same_loop (ol := ol) ha hb n 0 0 (by omega) (Or.inl rfl) (fun z => absurd z.1 (by decide)) (fun _ => ⟨rfl, Or.inr ⟨fun z => h1 z.1, rfl⟩⟩)
  · have h1 : nI n = ol := Decidable.not_not.mp (of_decide_eq_false h)
    refine rf_R_w rp_17 (rf_bk am_t17 3 2) 6 _ _ _ ⟨rfl, rfl, trivial⟩ (by decide) ?_
    refine rf_R_w rp_17 (rf_bk am_t17 6 3) 11 _ _ _ ⟨rfl, rfl, rfl, trivial⟩ (by decide) ?_
    exact r_same_loop (ol := ol) ha hb n 0 1 (by omega) (Or.inr rfl) (fun z => ⟨rfl, Or.inl ⟨⟨h1, fun i hi => z.2 i (Nat.zero_le _) hi⟩, rfl⟩⟩) (fun z => ⟨rfl, Or.inr ⟨fun y => z ⟨rfl, fun i _ hi => y.2 i hi⟩, rfl⟩⟩)
