/-! PART 26: the reference's methods: first ones -/
theorem rp_3 : am_prog[3]? = some (am_m3, am_t3) := rfl
theorem rp_53 : am_prog[53]? = some (am_m53, am_t53) := rfl
/-- isIn(v, low, high) -/
theorem r_isIn {d : Nat} {v lo hi : Int32} {s : rf_S} : rf_R d 3 (0, [(0, .int v), (1, .int lo), (2, .int hi)], [], s) (fun r s' => s' = s ∧ r = some (.int (if v < lo ∨ hi < v then 0 else 1))) := by
  refine rf_R_w rp_3 [(.iload_n 0, 1, 0, 0, 0, []), (.iload_n 1, 1, 0, 0, 0, []), (.if_icmp .lt 12, 3, 14, 0, 0, [])] 0 _ _ _ ⟨rfl, rfl, rfl, trivial⟩ (by decide) ?_
  show rf_R d 3 (if am_cnd .lt v lo = true then 14 else 5, _, [], s) _
  have end0 : ∀ lv, (v < lo ∨ hi < v) → rf_R d 3 (14, lv, [], s) (fun r s' => s' = s ∧ r = some (.int (if v < lo ∨ hi < v then 0 else 1))) := by
    intro lv hc
    refine rf_R_w rp_3 [(.iconst 0, 1, 0, 0, 0, [])] 14 _ _ _ ⟨rfl, trivial⟩ (by decide) ?_
    show rf_R d 3 (15, _, [.int 0], s) _
    exact rf_R_ret rp_3 rfl rfl rfl ⟨rfl, by rw [if_pos hc]⟩
  refine rf_R_if (fun h => ?_) (fun h => ?_)
  · exact end0 _ (Or.inl (of_decide_eq_true h))
  · refine rf_R_w rp_3 [(.iload_n 0, 1, 0, 0, 0, []), (.iload_n 2, 1, 0, 0, 0, []), (.if_icmp .gt 7, 3, 14, 0, 0, [])] 5 _ _ _ ⟨rfl, rfl, rfl, trivial⟩ (by decide) ?_
    show rf_R d 3 (if am_cnd .gt v hi = true then 14 else 10, _, [], s) _
    refine rf_R_if (fun h2 => ?_) (fun h2 => ?_)
    · exact end0 _ (Or.inr (of_decide_eq_true h2))
    · refine rf_R_w rp_3 [(.iconst 1, 1, 0, 0, 0, []), (.goto 4, 3, 15, 0, 0, [])] 10 _ _ _ ⟨rfl, rfl, trivial⟩ (by decide) ?_
      show rf_R d 3 (15, _, [.int 1], s) _
      exact rf_R_ret rp_3 rfl rfl rfl ⟨rfl, by rw [if_neg (fun z => z.elim (of_decide_eq_false h) (of_decide_eq_false h2))]⟩
set_option maxRecDepth 10000 in
/-- push(is, of, number, within): a new frame without words; frames are less than 1599 -/
theorem r_push {d : Nat} {is of nu wi : Int32} {s : rf_S} (h1 : ¬ (s.1 65 < 0 ∨ 1600 ≤ (s.1 65).toNatClampNeg)) (h2 : ¬ (s.1 65 + 1 < 0 ∨ 1601 ≤ (s.1 65 + 1).toNatClampNeg)) (h3 : ¬ (s.1 65 + 1 - 1 < 0 ∨ 1601 ≤ (s.1 65 + 1 - 1).toNatClampNeg)) :
    rf_R d 53 (0, [(0, .ref rf_o), (1, .int is), (2, .int of), (3, .int nu), (4, .int wi)], [], s) (fun r s' => r = none ∧ ∃ B, s' = (upd s.1 65 (s.1 65 + 1), s.2.1, B, s.2.2.2)) := by
  refine rf_R_w rp_53 (am_t53.map (fun e => e.2)).dropLast 0 _ _ _ (by repeat (first | exact trivial | refine ⟨rfl, ?_⟩)) (by decide +kernel) ?_
  refine And.intro h1 ?_
  refine And.intro h1 ?_
  refine And.intro h1 ?_
  refine And.intro h1 ?_
  refine And.intro rfl ?_
  refine And.intro h3 ?_
  refine And.intro h2 ?_
  refine rf_R_ret (pc := 71) rp_53 rfl rfl rfl ⟨rfl, _, rfl⟩
