/-! PART 30: leaves of the class: Word, Words, Table -/
set_option maxRecDepth 20000 in
theorem rp_273 : am_prog[273]? = some (am_m273, am_t273) := rfl
set_option maxRecDepth 20000 in
theorem rp_274 : am_prog[274]? = some (am_m274, am_t274) := rfl
set_option maxRecDepth 20000 in
theorem rp_281 : am_prog[281]? = some (am_m281, am_t281) := rfl
set_option maxRecDepth 20000 in
theorem rp_270 : am_prog[270]? = some (am_m270, am_t270) := rfl
section LEAF
variable {sL : Nat} {sx : Nat → Int32}
/-- is a field of a row there -/
def tb_out (lo w rows : Int32) (n : Nat) (row field : Int32) : Prop := row < lo ∨ rows ≤ row ∨ field < 0 ∨ w ≤ field ∨ row * w + field < 0 ∨ Int32.ofNat n ≤ row * w + field
/-- Table.get(row, field): 0 outside -/
theorem c_Table_get {d q a : Nat} {A : am_A} {x : Nat × (Nat → Int32)} {w rows row field : Int32} (hq : am_ob 0 A q 10 = some [.int w, .ref a, .int rows]) (ha : am_ia 0 A a .int = some x) (hs : a ≠ 1000000000) (hn : x.1 < 2 ^ 31) :
    am_R sL sx d 273 (0, [(0, .ref q), (1, .int row), (2, .int field)], [], A) (fun r A' => A' = A ∧ ((tb_out 0 w rows x.1 row field ∧ r = some (.int 0)) ∨ (¬ tb_out 0 w rows x.1 row field ∧ r = some (.int (x.2 (row * w + field).toNatClampNeg))))) := by
  have end0 : ∀ lv, tb_out 0 w rows x.1 row field → am_R sL sx d 273 (46, lv, [], A) (fun r A' => A' = A ∧ ((tb_out 0 w rows x.1 row field ∧ r = some (.int 0)) ∨ (¬ tb_out 0 w rows x.1 row field ∧ r = some (.int (x.2 (row * w + field).toNatClampNeg))))) := by
    intro lv h
    refine am_R_w rp_273 (rf_bk am_t273 26 1) 46 _ _ _ ⟨rfl, trivial⟩ (by decide) ?_
    exact am_R_re (pc := 47) (v := some (.int 0)) rp_273 rfl rfl rfl ⟨rfl, Or.inl ⟨h, rfl⟩⟩
  refine am_R_w rp_273 (rf_bk am_t273 0 9) 0 _ _ _ (by repeat (first | exact trivial | refine ⟨rfl, ?_⟩)) (by decide +kernel) ?_
  refine ⟨_, hq, _, rfl, ?_⟩
  refine am_R_ifb (b := am_cnd .lt row 0) (p := 46) (q := 13) (fun h => end0 _ (Or.inl (of_decide_eq_true h))) (fun h1 => ?_)
  refine am_R_w rp_273 (rf_bk am_t273 9 4) 13 _ _ _ (by repeat (first | exact trivial | refine ⟨rfl, ?_⟩)) (by decide +kernel) ?_
  refine ⟨_, hq, _, rfl, ?_⟩
  refine am_R_ifb (b := am_cnd .ge row rows) (p := 46) (q := 21) (fun h => end0 _ (Or.inr (Or.inl (of_decide_eq_true h)))) (fun h2 => ?_)
  refine am_R_w rp_273 (rf_bk am_t273 13 2) 21 _ _ _ (by repeat (first | exact trivial | refine ⟨rfl, ?_⟩)) (by decide +kernel) ?_
  refine am_R_ifb (b := am_cnd .lt field 0) (p := 46) (q := 25) (fun h => end0 _ (Or.inr (Or.inr (Or.inl (of_decide_eq_true h))))) (fun h3 => ?_)
  refine am_R_w rp_273 (rf_bk am_t273 15 4) 25 _ _ _ (by repeat (first | exact trivial | refine ⟨rfl, ?_⟩)) (by decide +kernel) ?_
  refine ⟨_, hq, _, rfl, ?_⟩
  refine am_R_ifb (b := am_cnd .ge field w) (p := 46) (q := 33) (fun h => end0 _ (Or.inr (Or.inr (Or.inr (Or.inl (of_decide_eq_true h)))))) (fun h4 => ?_)
  refine am_R_w rp_273 (rf_bk am_t273 19 2) 33 _ _ _ (by repeat (first | exact trivial | refine ⟨rfl, ?_⟩)) (by decide +kernel) ?_
  refine am_R_ifb (b := am_cnd .lt (row * w + field) 0) (p := 46) (q := 37) (fun h => end0 _ (Or.inr (Or.inr (Or.inr (Or.inr (Or.inl (of_decide_eq_true h))))))) (fun h5 => ?_)
  refine am_R_w rp_273 (rf_bk am_t273 21 5) 37 _ _ _ (by repeat (first | exact trivial | refine ⟨rfl, ?_⟩)) (by decide +kernel) ?_
  refine ⟨_, hq, _, rfl, hs, _, am_al_ia ha, ?_⟩
  refine am_R_ifb (b := am_cnd .lt (row * w + field) (Int32.ofNat x.1)) (p := 48) (q := 46) (fun h6 => ?_) (fun h => end0 _ (Or.inr (Or.inr (Or.inr (Or.inr (Or.inr (Int32.not_lt.mp (of_decide_eq_false h))))))))
  refine am_R_w rp_273 (rf_bk am_t273 28 4) 48 _ _ _ (by repeat (first | exact trivial | refine ⟨rfl, ?_⟩)) (by decide +kernel) ?_
  have g5 : ¬ row * w + field < 0 := of_decide_eq_false h5
  have g6 : row * w + field < Int32.ofNat x.1 := of_decide_eq_true h6
  refine ⟨_, hq, _, rfl, hs, _, ha, rf_in_of g5 g6 hn, ?_⟩
  refine am_R_re (pc := 54) (v := some (.int (x.2 (row * w + field).toNatClampNeg))) rp_273 rfl rfl rfl ⟨rfl, Or.inr ⟨?_, rfl⟩⟩
  rintro (z | z | z | z | z | z)
  · exact of_decide_eq_false h1 z
  · exact of_decide_eq_false h2 z
  · exact of_decide_eq_false h3 z
  · exact of_decide_eq_false h4 z
  · exact g5 z
  · exact absurd g6 (Int32.not_lt.mpr z)
/-- Table.set(row, field, value): nothing outside -/
theorem c_Table_set {d q a : Nat} {A : am_A} {x : Nat × (Nat → Int32)} {w rows row field v : Int32} (hq : am_ob 0 A q 10 = some [.int w, .ref a, .int rows]) (ha : am_ia 0 A a .int = some x) (hs : a ≠ 1000000000) (hn : x.1 < 2 ^ 31) :
    am_R sL sx d 274 (0, [(0, .ref q), (1, .int row), (2, .int field), (3, .int v)], [], A) (fun r A' => r = none ∧ ((tb_out 1 w rows x.1 row field ∧ A' = A) ∨ (¬ tb_out 1 w rows x.1 row field ∧ A' = am_up 0 A a (.inl (.int, x.1, .inl (upd x.2 (row * w + field).toNatClampNeg v)))))) := by
  have end0 : ∀ lv, tb_out 1 w rows x.1 row field → am_R sL sx d 274 (50, lv, [], A) (fun r A' => r = none ∧ ((tb_out 1 w rows x.1 row field ∧ A' = A) ∨ (¬ tb_out 1 w rows x.1 row field ∧ A' = am_up 0 A a (.inl (.int, x.1, .inl (upd x.2 (row * w + field).toNatClampNeg v)))))) := by
    intro lv h
    exact am_R_re (pc := 50) rp_274 rfl rfl rfl ⟨rfl, Or.inl ⟨h, rfl⟩⟩
  refine am_R_w rp_274 (rf_bk am_t274 0 10) 0 _ _ _ (by repeat (first | exact trivial | refine ⟨rfl, ?_⟩)) (by decide +kernel) ?_
  refine ⟨_, hq, _, rfl, ?_⟩
  refine am_R_ifb (b := am_cnd .lt row 1) (p := 50) (q := 15) (fun h => end0 _ (Or.inl (of_decide_eq_true h))) (fun h1 => ?_)
  refine am_R_w rp_274 (rf_bk am_t274 10 4) 15 _ _ _ (by repeat (first | exact trivial | refine ⟨rfl, ?_⟩)) (by decide +kernel) ?_
  refine ⟨_, hq, _, rfl, ?_⟩
  refine am_R_ifb (b := am_cnd .ge row rows) (p := 50) (q := 23) (fun h => end0 _ (Or.inr (Or.inl (of_decide_eq_true h)))) (fun h2 => ?_)
  refine am_R_w rp_274 (rf_bk am_t274 14 2) 23 _ _ _ (by repeat (first | exact trivial | refine ⟨rfl, ?_⟩)) (by decide +kernel) ?_
  refine am_R_ifb (b := am_cnd .lt field 0) (p := 50) (q := 27) (fun h => end0 _ (Or.inr (Or.inr (Or.inl (of_decide_eq_true h))))) (fun h3 => ?_)
  refine am_R_w rp_274 (rf_bk am_t274 16 4) 27 _ _ _ (by repeat (first | exact trivial | refine ⟨rfl, ?_⟩)) (by decide +kernel) ?_
  refine ⟨_, hq, _, rfl, ?_⟩
  refine am_R_ifb (b := am_cnd .ge field w) (p := 50) (q := 35) (fun h => end0 _ (Or.inr (Or.inr (Or.inr (Or.inl (of_decide_eq_true h)))))) (fun h4 => ?_)
  refine am_R_w rp_274 (rf_bk am_t274 20 2) 35 _ _ _ (by repeat (first | exact trivial | refine ⟨rfl, ?_⟩)) (by decide +kernel) ?_
  refine am_R_ifb (b := am_cnd .lt (row * w + field) 0) (p := 50) (q := 40) (fun h => end0 _ (Or.inr (Or.inr (Or.inr (Or.inr (Or.inl (of_decide_eq_true h))))))) (fun h5 => ?_)
  refine am_R_w rp_274 (rf_bk am_t274 22 5) 40 _ _ _ (by repeat (first | exact trivial | refine ⟨rfl, ?_⟩)) (by decide +kernel) ?_
  refine ⟨_, hq, _, rfl, hs, _, am_al_ia ha, ?_⟩
  refine am_R_ifb (b := am_cnd .lt (row * w + field) (Int32.ofNat x.1)) (p := 51) (q := 50) (fun h6 => ?_) (fun h => end0 _ (Or.inr (Or.inr (Or.inr (Or.inr (Or.inr (Int32.not_lt.mp (of_decide_eq_false h))))))))
  refine am_R_w rp_274 (rf_bk am_t274 28 5) 51 _ _ _ (by repeat (first | exact trivial | refine ⟨rfl, ?_⟩)) (by decide +kernel) ?_
  have g5 : ¬ row * w + field < 0 := of_decide_eq_false h5
  have g6 : row * w + field < Int32.ofNat x.1 := of_decide_eq_true h6
  refine ⟨_, hq, _, rfl, _, ha, rf_in_of g5 g6 hn, ?_⟩
  refine am_R_re (pc := 59) rp_274 rfl rfl rfl ⟨rfl, Or.inr ⟨?_, rfl⟩⟩
  rintro (z | z | z | z | z | z)
  · exact of_decide_eq_false h1 z
  · exact of_decide_eq_false h2 z
  · exact of_decide_eq_false h3 z
  · exact of_decide_eq_false h4 z
  · exact g5 z
  · exact absurd g6 (Int32.not_lt.mpr z)
/-- Table.rows() -/
theorem c_Table_rows {d q : Nat} {A : am_A} {w rows : Int32} {v : Value} (hq : am_ob 0 A q 10 = some [.int w, v, .int rows]) : am_R sL sx d 270 (0, [(0, .ref q)], [], A) (fun r A' => A' = A ∧ r = some (.int rows)) := by
  refine am_R_w rp_270 (rf_bk am_t270 0 2) 0 _ _ _ ⟨rfl, rfl, trivial⟩ (by decide) ?_
  refine ⟨_, hq, _, rfl, ?_⟩
  exact am_R_re (pc := 4) rp_270 rfl rfl rfl ⟨rfl, rfl⟩
end LEAF
