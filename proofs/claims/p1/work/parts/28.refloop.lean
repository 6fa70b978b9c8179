/-! PART 28: the reference: a first loop (the pattern), a switch, calls -/
theorem rp_16 : am_prog[16]? = some (am_m16, am_t16) := rfl
theorem rp_18 : am_prog[18]? = some (am_m18, am_t18) := rfl
theorem rp_52 : am_prog[52]? = some (am_m52, am_t52) := rfl
theorem rp_54 : am_prog[54]? = some (am_m54, am_t54) := rfl
theorem rp_55 : am_prog[55]? = some (am_m55, am_t55) := rfl
theorem rp_57 : am_prog[57]? = some (am_m57, am_t57) := rfl
theorem rf_o1 : Int32.ofInt 1 = 1 := by decide
theorem rf_o2 : Int32.ofInt 2 = 2 := by decide
/-- what lists' loop does: n words of hold, from the k-th on, come to list -/
def rf_lst : Nat → rf_S → Int32 → rf_S
  | 0, s, _ => s
  | n + 1, s, k => rf_lst n (rf_si (rf_sb s 17 (s.1 16).toNatClampNeg (s.2.2.1 19 k.toNatClampNeg)) 16 (s.1 16 + 1)) (k + 1)
set_option maxRecDepth 10000 in
theorem r_lists_loop {d : Nat} {fr beg : Int32} {Q : Option Value → rf_S → Prop} : ∀ (n j m : Nat) (s : rf_S), s.1 18 = nI (j + n) → s.1 16 = nI m → j + n ≤ 9000 → m + n ≤ 9000 →
    rf_R d 16 (46, [(3, .int (nI (j + n))), (2, .int beg), (0, .ref rf_o), (1, .int fr)], [], rf_lst n s (nI j)) Q → rf_R d 16 (7, [(3, .int (nI j)), (2, .int beg), (0, .ref rf_o), (1, .int fr)], [], s) Q := by
  intro n
  induction n with
  | zero =>
    intro j m s h1 h2 h3 h4 K
    refine rf_R_w rp_16 (rf_bk am_t16 5 4) 7 _ _ _ (by repeat (first | exact trivial | refine ⟨rfl, ?_⟩)) (by decide +kernel) ?_
    refine rf_R_if (b := am_cnd .ge (nI j) (s.1 18)) (p := 46) (q := 15) (fun _ => K) (fun h => ?_)
    have h5 : ¬ s.1 18 ≤ nI j := of_decide_eq_false h
    rw [h1] at h5
    exact absurd (nI_le (Nat.le_refl j) (by omega)) h5
  | succ n ih =>
    intro j m s h1 h2 h3 h4 K
    refine rf_R_w rp_16 (rf_bk am_t16 5 4) 7 _ _ _ (by repeat (first | exact trivial | refine ⟨rfl, ?_⟩)) (by decide +kernel) ?_
    refine rf_R_if (b := am_cnd .ge (nI j) (s.1 18)) (p := 46) (q := 15) (fun h => ?_) (fun _ => ?_)
    · have h5 : s.1 18 ≤ nI j := of_decide_eq_true h
      rw [h1] at h5
      exact absurd h5 (nI_ge (by omega) (by omega))
    · refine rf_R_w rp_16 (rf_bk am_t16 9 17) 15 _ _ _ (by repeat (first | exact trivial | refine ⟨rfl, ?_⟩)) (by decide +kernel) ?_
      refine And.intro (nI_in (N := 9000) (by omega) (by omega)) ?_
      refine And.intro (show rf_in (s.1 16) 9000 by rw [h2]; exact nI_in (by omega) (by omega)) ?_
      refine And.intro rfl ?_
      show rf_R d 16 (7, [(3, .int (nI j + Int32.ofInt 1)), (2, .int beg), (0, .ref rf_o), (1, .int fr)], [], rf_si (rf_sb s 17 (s.1 16).toNatClampNeg (s.2.2.1 19 (nI j).toNatClampNeg)) 16 (s.1 16 + 1)) Q
      rw [rf_o1, nI_1]
      refine ih (j + 1) (m + 1) _ (by show s.1 18 = _; rw [h1]; congr 1; omega) (by show s.1 16 + 1 = _; rw [h2, nI_1]) (by omega) (by omega) ?_
      rw [show j + 1 + n = j + (n + 1) by omega, ← nI_1 j]
      exact K
/-- lists(from): what stands in hold from there on comes to list, and goes from hold -/
theorem r_lists {d a n m : Nat} {s : rf_S} (h1 : s.1 18 = nI (a + n)) (h2 : s.1 16 = nI m) (h3 : a + n ≤ 9000) (h4 : m + n ≤ 9000) : rf_R d 16 (0, [(0, .ref rf_o), (1, .int (nI a))], [], s) (fun r s' => r = some (.int (s.1 16)) ∧ s' = rf_si (rf_lst n s (nI a)) 18 (nI a)) := by
  refine rf_R_w rp_16 (rf_bk am_t16 0 5) 0 _ _ _ (by repeat (first | exact trivial | refine ⟨rfl, ?_⟩)) (by decide +kernel) ?_
  refine r_lists_loop (fr := nI a) (beg := s.1 16) n a m s h1 h2 h3 h4 ?_
  refine rf_R_w rp_16 (rf_bk am_t16 26 4) 46 _ _ _ (by repeat (first | exact trivial | refine ⟨rfl, ?_⟩)) (by decide +kernel) ?_
  refine And.intro rfl ?_
  exact rf_R_ret (pc := 52) rp_16 rfl rfl rfl ⟨rfl, rfl⟩
/-- scope(around) -/
theorem r_scope {d : Nat} {a : Int32} {s : rf_S} (h : rf_in (s.1 23) 1100) : rf_R d 18 (0, [(0, .ref rf_o), (1, .int a)], [], s) (fun r s' => r = some (.int (s.1 23 + 1 - 1)) ∧ s' = rf_si (rf_sb (rf_sb s 24 (s.1 23).toNatClampNeg a) 25 (s.1 23).toNatClampNeg (-1)) 23 (s.1 23 + 1)) := by
  refine rf_R_w rp_18 (rf_bk am_t18 0 22) 0 _ _ _ (by repeat (first | exact trivial | refine ⟨rfl, ?_⟩)) (by decide +kernel) ?_
  refine And.intro h (And.intro h (And.intro rfl ?_))
  exact rf_R_ret (pc := 36) rp_18 rfl rfl rfl ⟨rfl, rfl⟩
/-- lay(w): a word more of the latest frame -/
theorem r_lay {d : Nat} {w : Int64} {s : rf_S} (h1 : rf_in (s.1 65) 1601) (h2 : rf_in (s.2.2.1 70 (s.1 65).toNatClampNeg) 6000) : rf_R d 54 (0, [(0, .ref rf_o), (1, .long w)], [], s) (fun r s' => r = none ∧ s' = rf_sb (rf_sL s 71 (s.2.2.1 70 (s.1 65).toNatClampNeg).toNatClampNeg w) 70 (s.1 65).toNatClampNeg (s.2.2.1 70 (s.1 65).toNatClampNeg + 1)) := by
  refine rf_R_w rp_54 (rf_bk am_t54 0 18) 0 _ _ _ (by repeat (first | exact trivial | refine ⟨rfl, ?_⟩)) (by decide +kernel) ?_
  refine And.intro h1 (And.intro h2 (And.intro h1 (And.intro h1 ?_)))
  exact rf_R_ret (pc := 28) rp_54 rfl rfl rfl ⟨rfl, rfl⟩
/-- the cells of frame f -/
def rf_cof (s : rf_S) (f : Int32) : Int32 := if s.2.2.1 66 f.toNatClampNeg = 0 ∨ s.2.2.1 66 f.toNatClampNeg = 3 then 3 else if s.2.2.1 66 f.toNatClampNeg = 5 then 2 else if s.2.2.1 66 f.toNatClampNeg = 6 then 4 else 2 + s.2.2.1 70 (f + 1).toNatClampNeg - s.2.2.1 70 f.toNatClampNeg
theorem r_cellsOfFrame {d : Nat} {f : Int32} {s : rf_S} (h1 : rf_in f 1600) (h2 : rf_in (f + 1) 1601) (h3 : rf_in f 1601) : rf_R d 52 (0, [(0, .ref rf_o), (1, .int f)], [], s) (fun r s' => s' = s ∧ r = some (.int (rf_cof s f))) := by
  refine rf_R_w rp_52 (rf_bk am_t52 0 5) 0 _ _ _ (by repeat (first | exact trivial | refine ⟨rfl, ?_⟩)) (by decide +kernel) ?_
  refine And.intro h1 ?_
  show rf_R d 52 (am_sw (s.2.2.1 66 f.toNatClampNeg) [(0, 48), (1, 54), (2, 54), (3, 48), (4, 54), (5, 50), (6, 52)] 54, _, [], s) _
  unfold rf_cof
  generalize s.2.2.1 66 f.toNatClampNeg = x
  have K54 : (¬ (x = 0 ∨ x = 3)) → ¬ x = 5 → ¬ x = 6 → rf_R d 52 (54, [(0, .ref rf_o), (1, .int f)], [], s) (fun r s' => s' = s ∧ r = some (.int (if x = 0 ∨ x = 3 then 3 else if x = 5 then 2 else if x = 6 then 4 else 2 + s.2.2.1 70 (f + 1).toNatClampNeg - s.2.2.1 70 f.toNatClampNeg))) := by
    intro q1 q2 q3
    refine rf_R_w rp_52 (rf_bk am_t52 11 13) 54 _ _ _ (by repeat (first | exact trivial | refine ⟨rfl, ?_⟩)) (by decide +kernel) ?_
    refine And.intro (show rf_in (f + Int32.ofInt 1) 1601 by rw [rf_o1]; exact h2) (And.intro h3 ?_)
    show rf_R d 52 (71, [(0, .ref rf_o), (1, .int f)], [.int (Int32.ofInt 2 + s.2.2.1 70 (f + Int32.ofInt 1).toNatClampNeg - s.2.2.1 70 f.toNatClampNeg)], s) _
    rw [rf_o1, rf_o2]
    exact rf_R_ret (pc := 71) (v := some (.int (2 + s.2.2.1 70 (f + 1).toNatClampNeg - s.2.2.1 70 f.toNatClampNeg))) rp_52 rfl rfl rfl ⟨rfl, by rw [if_neg q1, if_neg q2, if_neg q3]⟩
  simp only [am_sw_cons]
  by_cases q0 : x = 0
  · subst q0
    refine rf_R_w rp_52 (rf_bk am_t52 5 1) 48 _ _ _ ⟨rfl, trivial⟩ (by decide) ?_
    exact rf_R_ret (pc := 49) rp_52 rfl rfl rfl ⟨rfl, rfl⟩
  by_cases q3 : x = 3
  · subst q3
    refine rf_R_w rp_52 (rf_bk am_t52 5 1) 48 _ _ _ ⟨rfl, trivial⟩ (by decide) ?_
    exact rf_R_ret (pc := 49) rp_52 rfl rfl rfl ⟨rfl, rfl⟩
  by_cases q5 : x = 5
  · subst q5
    refine rf_R_w rp_52 (rf_bk am_t52 7 1) 50 _ _ _ ⟨rfl, trivial⟩ (by decide) ?_
    exact rf_R_ret (pc := 51) rp_52 rfl rfl rfl ⟨rfl, rfl⟩
  by_cases q6 : x = 6
  · subst q6
    refine rf_R_w rp_52 (rf_bk am_t52 9 1) 52 _ _ _ ⟨rfl, trivial⟩ (by decide) ?_
    exact rf_R_ret (pc := 53) rp_52 rfl rfl rfl ⟨rfl, rfl⟩
  · have e : (if 0 = x then 48 else if 1 = x then 54 else if 2 = x then 54 else if 3 = x then 48 else if 4 = x then 54 else if 5 = x then 50 else if 6 = x then 52 else am_sw x [] 54) = 54 := by
      rw [if_neg (fun z => q0 z.symm)]
      split
      · rfl
      split
      · rfl
      rw [if_neg (fun z => q3 z.symm)]
      split
      · rfl
      rw [if_neg (fun z => q5 z.symm), if_neg (fun z => q6 z.symm)]
      rfl
    rw [e]
    exact K54 (fun z => z.elim q0 q3) q5 q6
/-- laid(): the latest frame's cells count -/
theorem r_laid {d : Nat} {s : rf_S} (h1 : rf_in (s.1 65 - 1) 1600) (h2 : rf_in (s.1 65 - 1 + 1) 1601) (h3 : rf_in (s.1 65 - 1) 1601) : rf_R (d + 1) 55 (0, [(0, .ref rf_o)], [], s) (fun r s' => r = none ∧ s' = rf_si s 72 (s.1 72 + rf_cof s (s.1 65 - 1))) := by
  refine rf_R_w rp_55 (rf_bk am_t55 0 8) 0 _ _ _ (by repeat (first | exact trivial | refine ⟨rfl, ?_⟩)) (by decide +kernel) ?_
  refine rf_R_call (pc := 12) (q := ([.ref rf_o, .int (s.1 65 - 1)], [.int (s.1 72), .ref rf_o])) rp_55 rfl rfl (by decide) rp_52 rfl (Nat.le_of_ble_eq_true rfl) ⟨rfl, Nat.le_refl 2⟩ (r_cellsOfFrame (d := d) h1 h2 h3) (fun v s' h => ?_)
  obtain ⟨rfl, rfl⟩ := h
  refine rf_R_w rp_55 (rf_bk am_t55 9 2) 15 _ _ _ ⟨rfl, rfl, trivial⟩ (by decide) ?_
  refine And.intro rfl ?_
  exact rf_R_ret (pc := 19) rp_55 rfl rfl rfl ⟨rfl, rfl⟩
