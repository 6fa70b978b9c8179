/-! PART 27: the reference's leaves. A contract says the answer and the rows behind it exactly; rf_si, rf_sj, rf_sb, rf_sL set an int field, a long field, a place of an int row, of a long row -/
def rf_si (s : rf_S) (b : Nat) (x : Int32) : rf_S := (upd s.1 b x, s.2)
def rf_sj (s : rf_S) (b : Nat) (x : Int64) : rf_S := (s.1, vp_updL s.2.1 b x, s.2.2)
def rf_sb (s : rf_S) (b i : Nat) (x : Int32) : rf_S := (s.1, s.2.1, rf_upB s.2.2.1 b i x, s.2.2.2)
def rf_sL (s : rf_S) (b i : Nat) (x : Int64) : rf_S := (s.1, s.2.1, s.2.2.1, rf_upL s.2.2.2 b i x)
/-- a place is in its row -/
abbrev rf_in (i : Int32) (n : Nat) : Prop := ¬ (i < 0 ∨ n ≤ i.toNatClampNeg)
/-- the n instructions from the i-th on -/
def rf_bk (t : List (Nat × am_I)) (i n : Nat) : List am_I := ((t.drop i).take n).map (fun e => e.2)
theorem rp_4 : am_prog[4]? = some (am_m4, am_t4) := rfl
theorem rp_5 : am_prog[5]? = some (am_m5, am_t5) := rfl
theorem rp_6 : am_prog[6]? = some (am_m6, am_t6) := rfl
theorem rp_10 : am_prog[10]? = some (am_m10, am_t10) := rfl
theorem rp_11 : am_prog[11]? = some (am_m11, am_t11) := rfl
theorem rp_14 : am_prog[14]? = some (am_m14, am_t14) := rfl
theorem rp_15 : am_prog[15]? = some (am_m15, am_t15) := rfl
theorem rp_43 : am_prog[43]? = some (am_m43, am_t43) := rfl
theorem rp_44 : am_prog[44]? = some (am_m44, am_t44) := rfl
theorem rp_45 : am_prog[45]? = some (am_m45, am_t45) := rfl
theorem rp_58 : am_prog[58]? = some (am_m58, am_t58) := rfl
theorem rp_60 : am_prog[60]? = some (am_m60, am_t60) := rfl
theorem rp_68 : am_prog[68]? = some (am_m68, am_t68) := rfl
theorem rp_69 : am_prog[69]? = some (am_m69, am_t69) := rfl
theorem rf_rtz {P : Prop} {dec : Decidable P} : am_rt .ireturn (some .boolean) [.int (if P then 0 else 1)] = some (some (.int (if P then 0 else 1))) := by
  by_cases h : P
  · rw [if_pos h]; rfl
  · rw [if_neg h]; rfl
/-- isDigit(c) -/
theorem r_isDigit {d : Nat} {c : Int32} {s : rf_S} : rf_R (d + 1) 5 (0, [(0, .int c)], [], s) (fun r s' => s' = s ∧ r = some (.int (if c < 48 ∨ 57 < c then 0 else 1))) := by
  refine rf_R_w rp_5 (rf_bk am_t5 0 3) 0 _ _ _ ⟨rfl, rfl, rfl, trivial⟩ (by decide) ?_
  refine rf_R_call (pc := 5) (q := ([.int c, .int 48, .int 57], [])) rp_5 rfl rfl (by decide) rp_3 rfl (Nat.le_of_ble_eq_true rfl) ⟨rfl, Nat.le_refl 3⟩ (r_isIn (d := d) (v := c) (lo := 48) (hi := 57) (s := s)) (fun v s' h => ?_)
  obtain ⟨rfl, rfl⟩ := h
  exact rf_R_ret (pc := 8) rp_5 rfl rfl rf_rtz ⟨rfl, rfl⟩
/-- node(is, a, b, c): the new node's number -/
theorem r_node {d : Nat} {is a b c : Int32} {s : rf_S} (h : rf_in (s.1 11) 2100) : rf_R d 14 (0, [(0, .ref rf_o), (1, .int is), (2, .int a), (3, .int b), (4, .int c)], [], s) (fun r s' => r = some (.int (s.1 11 + 1 - 1)) ∧ s' = rf_si (rf_sb (rf_sb (rf_sb (rf_sb s 12 (s.1 11).toNatClampNeg is) 13 (s.1 11).toNatClampNeg a) 14 (s.1 11).toNatClampNeg b) 15 (s.1 11).toNatClampNeg c) 11 (s.1 11 + 1)) := by
  refine rf_R_w rp_14 (rf_bk am_t14 0 34) 0 _ _ _ (by repeat (first | exact trivial | refine ⟨rfl, ?_⟩)) (by decide +kernel) ?_
  refine And.intro h ?_
  refine And.intro h ?_
  refine And.intro h ?_
  refine And.intro h ?_
  refine And.intro rfl ?_
  exact rf_R_ret (pc := 57) rp_14 rfl rfl rfl ⟨rfl, rfl⟩
/-- keep(v) -/
theorem r_keep {d : Nat} {v : Int32} {s : rf_S} (h : rf_in (s.1 18) 9000) : rf_R d 15 (0, [(0, .ref rf_o), (1, .int v)], [], s) (fun r s' => r = none ∧ s' = rf_si (rf_sb s 19 (s.1 18).toNatClampNeg v) 18 (s.1 18 + 1)) := by
  refine rf_R_w rp_15 (rf_bk am_t15 0 12) 0 _ _ _ (by repeat (first | exact trivial | refine ⟨rfl, ?_⟩)) (by decide +kernel) ?_
  refine And.intro h ?_
  refine And.intro rfl ?_
  exact rf_R_ret (pc := 20) rp_15 rfl rfl rfl ⟨rfl, rfl⟩
/-- freeMany(n) -/
theorem r_freeMany {d : Nat} {n : Int32} {s : rf_S} (h1 : rf_in (n + 1) 2101) (h2 : rf_in n 2101) : rf_R d 43 (0, [(0, .ref rf_o), (1, .int n)], [], s) (fun r s' => s' = s ∧ r = some (.int (s.2.2.1 20 (n + 1).toNatClampNeg - s.2.2.1 20 n.toNatClampNeg))) := by
  refine rf_R_w rp_43 (rf_bk am_t43 0 11) 0 _ _ _ (by repeat (first | exact trivial | refine ⟨rfl, ?_⟩)) (by decide +kernel) ?_
  refine And.intro h1 ?_
  refine And.intro h2 ?_
  exact rf_R_ret (pc := 15) rp_43 rfl rfl rfl ⟨rfl, rfl⟩
/-- wordOf(is, v) -/
def rf_word (is v : Int32) : Int64 := (is.toInt64 <<< ((32 : Int32).toInt64 &&& 63)) ||| (v.toInt64 &&& 4294967295)
theorem r_wordOf {d : Nat} {is v : Int32} {s : rf_S} : rf_R d 44 (0, [(0, .int is), (1, .int v)], [], s) (fun r s' => s' = s ∧ r = some (.long (rf_word is v))) := by
  refine rf_R_w rp_44 (rf_bk am_t44 0 9) 0 _ _ _ (by repeat (first | exact trivial | refine ⟨rfl, ?_⟩)) (by decide +kernel) ?_
  exact rf_R_ret (pc := 12) rp_44 rfl rfl rfl ⟨rfl, rfl⟩
/-- isOf(w) -/
def rf_isOf (w : Int64) : Int32 := (w >>> ((32 : Int32).toInt64 &&& 63)).toInt32
theorem r_isOf {d : Nat} {w : Int64} {s : rf_S} : rf_R d 45 (0, [(0, .long w)], [], s) (fun r s' => s' = s ∧ r = some (.int (rf_isOf w))) := by
  refine rf_R_w rp_45 (rf_bk am_t45 0 4) 0 _ _ _ (by repeat (first | exact trivial | refine ⟨rfl, ?_⟩)) (by decide +kernel) ?_
  exact rf_R_ret (pc := 5) rp_45 rfl rfl rfl ⟨rfl, rfl⟩
/-- stops(e) -/
theorem r_stops {d : Nat} {e : Int32} {s : rf_S} : rf_R d 58 (0, [(0, .ref rf_o), (1, .int e)], [], s) (fun r s' => r = none ∧ s' = rf_si (rf_si (rf_si (rf_si s 75 e) 74 3) 65 0) 72 0) := by
  refine rf_R_w rp_58 (rf_bk am_t58 0 12) 0 _ _ _ (by repeat (first | exact trivial | refine ⟨rfl, ?_⟩)) (by decide +kernel) ?_
  refine And.intro rfl (And.intro rfl (And.intro rfl (And.intro rfl ?_)))
  exact rf_R_ret (pc := 20) rp_58 rfl rfl rfl ⟨rfl, rfl⟩
/-- give(w), evaluate(n) -/
theorem r_give {d : Nat} {w : Int64} {s : rf_S} : rf_R d 68 (0, [(0, .ref rf_o), (1, .long w)], [], s) (fun r s' => r = none ∧ s' = rf_si (rf_sj s 77 w) 74 2) := by
  refine rf_R_w rp_68 (rf_bk am_t68 0 6) 0 _ _ _ (by repeat (first | exact trivial | refine ⟨rfl, ?_⟩)) (by decide +kernel) ?_
  refine And.intro rfl (And.intro rfl ?_)
  exact rf_R_ret (pc := 10) rp_68 rfl rfl rfl ⟨rfl, rfl⟩
theorem r_evaluate {d : Nat} {n : Int32} {s : rf_S} : rf_R d 69 (0, [(0, .ref rf_o), (1, .int n)], [], s) (fun r s' => r = none ∧ s' = rf_si (rf_si s 76 n) 74 0) := by
  refine rf_R_w rp_69 (rf_bk am_t69 0 6) 0 _ _ _ (by repeat (first | exact trivial | refine ⟨rfl, ?_⟩)) (by decide +kernel) ?_
  refine And.intro rfl (And.intro rfl ?_)
  exact rf_R_ret (pc := 10) rp_69 rfl rfl rfl ⟨rfl, rfl⟩
/-- byteAt(k) -/
theorem r_byteAt {d : Nat} {k : Int32} {s : rf_S} (h : k < s.1 3 → rf_in k 2000) : rf_R d 4 (0, [(0, .ref rf_o), (1, .int k)], [], s) (fun r s' => s' = s ∧ r = some (.int (if s.1 3 ≤ k then 0 else s.2.2.1 2 k.toNatClampNeg))) := by
  refine rf_R_w rp_4 (rf_bk am_t4 0 4) 0 _ _ _ (by repeat (first | exact trivial | refine ⟨rfl, ?_⟩)) (by decide +kernel) ?_
  refine rf_R_if (b := am_cnd .ge k (s.1 3)) (p := 17) (q := 8) (fun h1 => ?_) (fun h1 => ?_)
  · have h2 : s.1 3 ≤ k := of_decide_eq_true h1
    refine rf_R_w rp_4 (rf_bk am_t4 9 1) 17 _ _ _ ⟨rfl, trivial⟩ (by decide) ?_
    exact rf_R_ret (pc := 18) rp_4 rfl rfl rfl ⟨rfl, by rw [if_pos h2]; rfl⟩
  · have h2 : ¬ s.1 3 ≤ k := of_decide_eq_false h1
    refine rf_R_w rp_4 (rf_bk am_t4 4 5) 8 _ _ _ (by repeat (first | exact trivial | refine ⟨rfl, ?_⟩)) (by decide +kernel) ?_
    refine And.intro (h (Int32.not_le.mp h2)) ?_
    exact rf_R_ret (pc := 18) rp_4 rfl rfl rfl ⟨rfl, by rw [if_neg h2]⟩
/-- fails(place) -/
theorem r_fails {d : Nat} {p : Int32} {s : rf_S} : rf_R d 10 (0, [(0, .ref rf_o), (1, .int p)], [], s) (fun r s' => r = some (.int 0) ∧ s' = rf_si (if 0 ≤ s.1 9 then s else rf_si s 9 p) 5 0) := by
  refine rf_R_w rp_10 (rf_bk am_t10 0 3) 0 _ _ _ (by repeat (first | exact trivial | refine ⟨rfl, ?_⟩)) (by decide +kernel) ?_
  refine rf_R_if (b := am_cnd .ge (s.1 9) 0) (p := 12) (q := 7) (fun h1 => ?_) (fun h1 => ?_)
  · have h2 : 0 ≤ s.1 9 := of_decide_eq_true h1
    refine rf_R_w rp_10 (rf_bk am_t10 6 4) 12 _ _ _ (by repeat (first | exact trivial | refine ⟨rfl, ?_⟩)) (by decide +kernel) ?_
    refine And.intro rfl ?_
    exact rf_R_ret (pc := 18) rp_10 rfl rfl rfl ⟨rfl, by rw [if_pos h2]; rfl⟩
  · have h2 : ¬ 0 ≤ s.1 9 := of_decide_eq_false h1
    refine rf_R_w rp_10 (rf_bk am_t10 3 7) 7 _ _ _ (by repeat (first | exact trivial | refine ⟨rfl, ?_⟩)) (by decide +kernel) ?_
    refine And.intro rfl (And.intro rfl ?_)
    exact rf_R_ret (pc := 18) rp_10 rfl rfl rfl ⟨rfl, by rw [if_neg h2]; rfl⟩
