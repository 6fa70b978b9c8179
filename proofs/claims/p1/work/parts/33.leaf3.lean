/-! PART 33: leaves of the class that write fields: Bytes.cut, Bytes.add, Table.cut -/
set_option maxRecDepth 20000 in
theorem rp_121 : am_prog[121]? = some (am_m121, am_t121) := rfl
set_option maxRecDepth 20000 in
theorem rp_122 : am_prog[122]? = some (am_m122, am_t122) := rfl
set_option maxRecDepth 20000 in
theorem rp_271 : am_prog[271]? = some (am_m271, am_t271) := rfl
theorem am_ob_self {A : am_A} {q ci : Nat} {fs fs' : List Value} (h : am_ob 0 A q ci = some fs) : am_ob 0 (am_up 0 A q (.inr (ci, fs'))) q ci = some fs' := by
  unfold am_ob
  rw [rf_at_self (am_ob_inv h)]
  simp
theorem am_ob_ne {A : am_A} {q o ci : Nat} {e : am_E} (h : q ≠ o) : am_ob 0 (am_up 0 A o e) q ci = am_ob 0 A q ci := by
  unfold am_ob
  rw [rf_at_up h]
theorem am_ia_ne {A : am_A} {q o : Nat} {ty : FieldType} {e : am_E} (h : q ≠ o) : am_ia 0 (am_up 0 A o e) q ty = am_ia 0 A q ty := by
  unfold am_ia
  rw [rf_at_up h]
theorem am_up_up {A : am_A} {q : Nat} {e e' : am_E} : am_up 0 (am_up 0 A q e) q e' = am_up 0 A q e' := by
  unfold am_up
  simp
section LEAF4
variable {sL : Nat} {sx : Nat → Int32}
/-- Bytes.cut(n) -/
theorem c_Bytes_cut {d q : Nat} {A : am_A} {v o : Value} {m n : Int32} (hq : am_ob 0 A q 3 = some [v, .int m, o]) : am_R sL sx d 121 (0, [(0, .ref q), (1, .int n)], [], A) (fun r A' => r = none ∧ (((n < 0 ∨ m < n) ∧ A' = A) ∨ (¬ (n < 0 ∨ m < n) ∧ A' = am_up 0 A q (.inr (3, [v, .int n, .int 0]))))) := by
  have end0 : ∀ lv, (n < 0 ∨ m < n) → am_R sL sx d 121 (22, lv, [], A) (fun r A' => r = none ∧ (((n < 0 ∨ m < n) ∧ A' = A) ∨ (¬ (n < 0 ∨ m < n) ∧ A' = am_up 0 A q (.inr (3, [v, .int n, .int 0]))))) := by
    intro lv h
    exact am_R_re (pc := 22) rp_121 rfl rfl rfl ⟨rfl, Or.inl ⟨h, rfl⟩⟩
  refine am_R_w rp_121 (rf_bk am_t121 0 2) 0 _ _ _ ⟨rfl, rfl, trivial⟩ (by decide) ?_
  refine am_R_ifb (b := am_cnd .lt n 0) (p := 22) (q := 4) (fun h => end0 _ (Or.inl (of_decide_eq_true h))) (fun h1 => ?_)
  refine am_R_w rp_121 (rf_bk am_t121 2 4) 4 _ _ _ (by repeat (first | exact trivial | refine ⟨rfl, ?_⟩)) (by decide +kernel) ?_
  refine ⟨_, hq, _, rfl, ?_⟩
  refine am_R_ifb (b := am_cnd .gt n m) (p := 22) (q := 12) (fun h => end0 _ (Or.inr (of_decide_eq_true h))) (fun h2 => ?_)
  refine am_R_w rp_121 (rf_bk am_t121 6 6) 12 _ _ _ (by repeat (first | exact trivial | refine ⟨rfl, ?_⟩)) (by decide +kernel) ?_
  refine ⟨_, hq, ⟨Nat.le_of_ble_eq_true rfl, rfl⟩, _, am_ob_self hq, ⟨Nat.le_of_ble_eq_true rfl, rfl⟩, ?_⟩
  refine am_R_re (pc := 22) rp_121 rfl rfl rfl ⟨rfl, Or.inr ⟨fun z => z.elim (of_decide_eq_false h1) (of_decide_eq_false h2), am_up_up⟩⟩
/-- Table.cut(n) -/
theorem c_Table_cut {d q : Nat} {A : am_A} {w a : Value} {m n : Int32} (hq : am_ob 0 A q 10 = some [w, a, .int m]) : am_R sL sx d 271 (0, [(0, .ref q), (1, .int n)], [], A) (fun r A' => r = none ∧ (((n < 1 ∨ m < n) ∧ A' = A) ∨ (¬ (n < 1 ∨ m < n) ∧ A' = am_up 0 A q (.inr (10, [w, a, .int n]))))) := by
  have end0 : ∀ lv, (n < 1 ∨ m < n) → am_R sL sx d 271 (18, lv, [], A) (fun r A' => r = none ∧ (((n < 1 ∨ m < n) ∧ A' = A) ∨ (¬ (n < 1 ∨ m < n) ∧ A' = am_up 0 A q (.inr (10, [w, a, .int n]))))) := by
    intro lv h
    exact am_R_re (pc := 18) rp_271 rfl rfl rfl ⟨rfl, Or.inl ⟨h, rfl⟩⟩
  refine am_R_w rp_271 (rf_bk am_t271 0 3) 0 _ _ _ ⟨rfl, rfl, rfl, trivial⟩ (by decide) ?_
  refine am_R_ifb (b := am_cnd .lt n 1) (p := 18) (q := 5) (fun h => end0 _ (Or.inl (of_decide_eq_true h))) (fun h1 => ?_)
  refine am_R_w rp_271 (rf_bk am_t271 3 4) 5 _ _ _ (by repeat (first | exact trivial | refine ⟨rfl, ?_⟩)) (by decide +kernel) ?_
  refine ⟨_, hq, _, rfl, ?_⟩
  refine am_R_ifb (b := am_cnd .gt n m) (p := 18) (q := 13) (fun h => end0 _ (Or.inr (of_decide_eq_true h))) (fun h2 => ?_)
  refine am_R_w rp_271 (rf_bk am_t271 7 3) 13 _ _ _ (by repeat (first | exact trivial | refine ⟨rfl, ?_⟩)) (by decide +kernel) ?_
  refine ⟨_, hq, ⟨Nat.le_of_ble_eq_true rfl, rfl⟩, ?_⟩
  exact am_R_re (pc := 18) rp_271 rfl rfl rfl ⟨rfl, Or.inr ⟨fun z => z.elim (of_decide_eq_false h1) (of_decide_eq_false h2), rfl⟩⟩
end LEAF4
