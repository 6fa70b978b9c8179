/-! PART 73: the law on a script of at most one call: what is owed is that each call is answered alike on fresh objects -/
section P1
variable {L : Nat} {xs : Nat → Int32}
theorem am_R_sw {d k a p : Nat} {x v : Int32} {sw : List (Int32 × Nat)} {lv : am_L} {st : List Value} {A : am_A} {Q : Option Value → am_A → Prop} (h1 : x = v → am_R L xs d k (p, lv, st, A) Q) (h2 : ¬ x = v → am_R L xs d k (am_sw x sw a, lv, st, A) Q) : am_R L xs d k (am_sw x ((v, p) :: sw) a, lv, st, A) Q := by
  rw [am_sw_cons]
  by_cases h : x = v
  · rw [if_pos h.symm]; exact h1 h
  · rw [if_neg (fun z => h z.symm)]; exact h2 h
theorem am_R_scr {d k pc a b cI : Nat} {sw : List (Int32 × Nat)} {i : Int32} {lv : am_L} {r : List Value} {A : am_A} {M : am_T} {t : List (Nat × am_I)} {Q : Option Value → am_A → Prop} (hk : am_prog[k]? = some (M, t)) (hI : am_look t pc = some (.iaload, 1, a, b, cI, sw)) (hi : ¬ (i < 0 ∨ L ≤ i.toNatClampNeg)) (h : am_R L xs d k (pc + 1, lv, .int (xs i.toNatClampNeg) :: r, A) Q) : am_R L xs d k (pc, lv, .int i :: .ref 1000000000 :: r, A) Q := by
  refine am_R_nx hk (c' := (pc + 1, lv, .int (xs i.toNatClampNeg) :: r, A)) ?_ h
  simp only [am_nx, hI, Option.bind_some, am_kd, am_hp, am_ial, if_true, if_neg hi, Option.map_some]
theorem am_R_sl {d k pc a b cI : Nat} {sw : List (Int32 × Nat)} {lv : am_L} {r : List Value} {A : am_A} {M : am_T} {t : List (Nat × am_I)} {Q : Option Value → am_A → Prop} (hk : am_prog[k]? = some (M, t)) (hI : am_look t pc = some (.arraylength, 1, a, b, cI, sw)) (h : am_R L xs d k (pc + 1, lv, .int (Int32.ofNat L) :: r, A) Q) : am_R L xs d k (pc, lv, .ref 1000000000 :: r, A) Q := by
  refine am_R_nx hk (c' := (pc + 1, lv, .int (Int32.ofNat L) :: r, A)) ?_ h
  simp only [am_nx, hI, Option.bind_some, am_kd, am_hp, am_len, if_true, Option.map_some]
/-- a call is answered alike, and the room suffices -/
def p1_ok (L : Nat) (xs : Nat → Int32) (k1 k2 : Nat) (a : List Value) (A2 : am_A) : Prop := am_R L xs 999 k1 (0, lv_args 0 (.ref 0 :: a), [], A2) (fun v A3 => ∃ x : Int32, v = some (.int x) ∧ (am_ob 0 A3 40 0).isSome = true ∧ am_R L xs 999 k2 (0, lv_args 0 (.ref 40 :: a), [], A3) (fun w A4 => w = some (.int x) ∧ A4.1.length ≤ 600000 ∧ A4.2 ≤ 7302250))
def p1_Q (v : Option Value) (A : am_A) : Prop := v = some (.int 1) ∧ A.1.length ≤ 600000 ∧ A.2 ≤ 7302250
theorem rp_96 : am_prog[96]? = some (am_m96, am_t96) := rfl
theorem p1_end {i : Int32} {a b : Value} {A : am_A} (hA : A.1.length ≤ 600000 ∧ A.2 ≤ 7302250) (hc : am_cnd .gt i (Int32.ofNat L - (Int8.ofInt 6).toInt32) = true) : am_R L xs 1000 96 (18, [(3, .int i), (2, a), (1, b), (0, .ref 1000000000)], [], A) p1_Q := by
  refine am_R_w rp_96 (rf_bk am_t96 10 2) 18 _ _ _ ⟨rfl, rfl, trivial⟩ (by decide) ?_
  refine am_R_sl (pc := 20) rp_96 rfl ?_
  refine am_R_w rp_96 (rf_bk am_t96 13 3) 21 _ _ _ (by repeat (first | exact trivial | refine ⟨rfl, ?_⟩)) (by decide +kernel) ?_
  refine am_R_ifb (b := am_cnd .gt i (Int32.ofNat L - (Int8.ofInt 6).toInt32)) (p := 307) (q := 27) (fun _ => ?_) (fun h => by rw [hc] at h; cases h)
  refine am_R_w rp_96 (rf_bk am_t96 187 1) 307 _ _ _ ⟨rfl, trivial⟩ (by decide) ?_
  exact am_R_re (pc := 308) (v := some (.int 1)) rp_96 rfl rfl rfl ⟨rfl, hA⟩
theorem p1_back {A : am_A} (hA : A.1.length ≤ 600000 ∧ A.2 ≤ 7302250) : am_R 6 xs 1000 96 (301, [(3, .int (Int32.ofInt 0)), (2, .ref 40), (1, .ref 0), (0, .ref 1000000000)], [], A) p1_Q := by
  refine am_R_w rp_96 (rf_bk am_t96 185 2) 301 _ _ _ (by repeat (first | exact trivial | refine ⟨rfl, ?_⟩)) (by decide +kernel) ?_
  exact p1_end (i := Int32.ofInt 0 + Int32.ofInt 6) hA (by decide)
theorem p1_c0 {A2 : am_A} (ho : (am_ob 0 A2 0 1).isSome = true) (h : p1_ok 6 xs 98 88 [.int (xs 1), .int (xs 2), .int (xs 3), .int (xs 4), .int (xs 5)] A2) : am_R 6 xs 1000 96 (84, [(3, .int (Int32.ofInt 0)), (2, .ref 40), (1, .ref 0), (0, .ref 1000000000)], [], A2) p1_Q := by
  refine am_R_w rp_96 (rf_bk am_t96 22 5) 84 _ _ _ (by repeat (first | exact trivial | refine ⟨rfl, ?_⟩)) (by decide +kernel) ?_
  show am_R 6 xs 1000 96 (89, [(3, .int (Int32.ofInt 0)), (2, .ref 40), (1, .ref 0), (0, .ref 1000000000)], [.int (Int32.ofInt 0 + Int32.ofInt 1), .ref 1000000000, .ref 0], A2) _
  refine am_R_scr (pc := 89) rp_96 rfl (by decide) ?_
  show am_R 6 xs 1000 96 (90, [(3, .int (Int32.ofInt 0)), (2, .ref 40), (1, .ref 0), (0, .ref 1000000000)], [.int (xs 1), .ref 0], A2) _
  refine am_R_w rp_96 (rf_bk am_t96 28 4) 90 _ _ _ (by repeat (first | exact trivial | refine ⟨rfl, ?_⟩)) (by decide +kernel) ?_
  show am_R 6 xs 1000 96 (94, [(3, .int (Int32.ofInt 0)), (2, .ref 40), (1, .ref 0), (0, .ref 1000000000)], [.int (Int32.ofInt 0 + Int32.ofInt 2), .ref 1000000000, .int (xs 1), .ref 0], A2) _
  refine am_R_scr (pc := 94) rp_96 rfl (by decide) ?_
  show am_R 6 xs 1000 96 (95, [(3, .int (Int32.ofInt 0)), (2, .ref 40), (1, .ref 0), (0, .ref 1000000000)], [.int (xs 2), .int (xs 1), .ref 0], A2) _
  refine am_R_w rp_96 (rf_bk am_t96 33 4) 95 _ _ _ (by repeat (first | exact trivial | refine ⟨rfl, ?_⟩)) (by decide +kernel) ?_
  show am_R 6 xs 1000 96 (99, [(3, .int (Int32.ofInt 0)), (2, .ref 40), (1, .ref 0), (0, .ref 1000000000)], [.int (Int32.ofInt 0 + Int32.ofInt 3), .ref 1000000000, .int (xs 2), .int (xs 1), .ref 0], A2) _
  refine am_R_scr (pc := 99) rp_96 rfl (by decide) ?_
  show am_R 6 xs 1000 96 (100, [(3, .int (Int32.ofInt 0)), (2, .ref 40), (1, .ref 0), (0, .ref 1000000000)], [.int (xs 3), .int (xs 2), .int (xs 1), .ref 0], A2) _
  refine am_R_w rp_96 (rf_bk am_t96 38 4) 100 _ _ _ (by repeat (first | exact trivial | refine ⟨rfl, ?_⟩)) (by decide +kernel) ?_
  show am_R 6 xs 1000 96 (104, [(3, .int (Int32.ofInt 0)), (2, .ref 40), (1, .ref 0), (0, .ref 1000000000)], [.int (Int32.ofInt 0 + Int32.ofInt 4), .ref 1000000000, .int (xs 3), .int (xs 2), .int (xs 1), .ref 0], A2) _
  refine am_R_scr (pc := 104) rp_96 rfl (by decide) ?_
  show am_R 6 xs 1000 96 (105, [(3, .int (Int32.ofInt 0)), (2, .ref 40), (1, .ref 0), (0, .ref 1000000000)], [.int (xs 4), .int (xs 3), .int (xs 2), .int (xs 1), .ref 0], A2) _
  refine am_R_w rp_96 (rf_bk am_t96 43 4) 105 _ _ _ (by repeat (first | exact trivial | refine ⟨rfl, ?_⟩)) (by decide +kernel) ?_
  show am_R 6 xs 1000 96 (109, [(3, .int (Int32.ofInt 0)), (2, .ref 40), (1, .ref 0), (0, .ref 1000000000)], [.int (Int32.ofInt 0 + Int32.ofInt 5), .ref 1000000000, .int (xs 4), .int (xs 3), .int (xs 2), .int (xs 1), .ref 0], A2) _
  refine am_R_scr (pc := 109) rp_96 rfl (by decide) ?_
  show am_R 6 xs 1000 96 (110, [(3, .int (Int32.ofInt 0)), (2, .ref 40), (1, .ref 0), (0, .ref 1000000000)], [.int (xs 5), .int (xs 4), .int (xs 3), .int (xs 2), .int (xs 1), .ref 0], A2) _
  obtain ⟨fs, hfs⟩ := Option.isSome_iff_exists.mp ho
  have hrc : am_rc 0 (.invokevirtual 13) A2 [.ref 0, .int (xs 1), .int (xs 2), .int (xs 3), .int (xs 4), .int (xs 5)] 1 = true := by unfold am_rc; dsimp only; rw [hfs]; rfl
  refine am_R_call (pc := 110) (q := ([.ref 0, .int (xs 1), .int (xs 2), .int (xs 3), .int (xs 4), .int (xs 5)], [])) rp_96 rfl rfl (by decide) rp_98 rfl (Nat.le_of_ble_eq_true rfl) ⟨hrc, Nat.le_of_ble_eq_true rfl⟩ h (fun v A3 h => ?_)
  obtain ⟨x, rfl, ho3, h⟩ := h
  refine am_R_w rp_96 (rf_bk am_t96 49 5) 113 _ _ _ (by repeat (first | exact trivial | refine ⟨rfl, ?_⟩)) (by decide +kernel) ?_
  show am_R 6 xs 1000 96 (118, [(3, .int (Int32.ofInt 0)), (2, .ref 40), (1, .ref 0), (0, .ref 1000000000)], [.int (Int32.ofInt 0 + Int32.ofInt 1), .ref 1000000000, .ref 40, .int x], A3) _
  refine am_R_scr (pc := 118) rp_96 rfl (by decide) ?_
  show am_R 6 xs 1000 96 (119, [(3, .int (Int32.ofInt 0)), (2, .ref 40), (1, .ref 0), (0, .ref 1000000000)], [.int (xs 1), .ref 40, .int x], A3) _
  refine am_R_w rp_96 (rf_bk am_t96 55 4) 119 _ _ _ (by repeat (first | exact trivial | refine ⟨rfl, ?_⟩)) (by decide +kernel) ?_
  show am_R 6 xs 1000 96 (123, [(3, .int (Int32.ofInt 0)), (2, .ref 40), (1, .ref 0), (0, .ref 1000000000)], [.int (Int32.ofInt 0 + Int32.ofInt 2), .ref 1000000000, .int (xs 1), .ref 40, .int x], A3) _
  refine am_R_scr (pc := 123) rp_96 rfl (by decide) ?_
  show am_R 6 xs 1000 96 (124, [(3, .int (Int32.ofInt 0)), (2, .ref 40), (1, .ref 0), (0, .ref 1000000000)], [.int (xs 2), .int (xs 1), .ref 40, .int x], A3) _
  refine am_R_w rp_96 (rf_bk am_t96 60 4) 124 _ _ _ (by repeat (first | exact trivial | refine ⟨rfl, ?_⟩)) (by decide +kernel) ?_
  show am_R 6 xs 1000 96 (128, [(3, .int (Int32.ofInt 0)), (2, .ref 40), (1, .ref 0), (0, .ref 1000000000)], [.int (Int32.ofInt 0 + Int32.ofInt 3), .ref 1000000000, .int (xs 2), .int (xs 1), .ref 40, .int x], A3) _
  refine am_R_scr (pc := 128) rp_96 rfl (by decide) ?_
  show am_R 6 xs 1000 96 (129, [(3, .int (Int32.ofInt 0)), (2, .ref 40), (1, .ref 0), (0, .ref 1000000000)], [.int (xs 3), .int (xs 2), .int (xs 1), .ref 40, .int x], A3) _
  refine am_R_w rp_96 (rf_bk am_t96 65 4) 129 _ _ _ (by repeat (first | exact trivial | refine ⟨rfl, ?_⟩)) (by decide +kernel) ?_
  show am_R 6 xs 1000 96 (133, [(3, .int (Int32.ofInt 0)), (2, .ref 40), (1, .ref 0), (0, .ref 1000000000)], [.int (Int32.ofInt 0 + Int32.ofInt 4), .ref 1000000000, .int (xs 3), .int (xs 2), .int (xs 1), .ref 40, .int x], A3) _
  refine am_R_scr (pc := 133) rp_96 rfl (by decide) ?_
  show am_R 6 xs 1000 96 (134, [(3, .int (Int32.ofInt 0)), (2, .ref 40), (1, .ref 0), (0, .ref 1000000000)], [.int (xs 4), .int (xs 3), .int (xs 2), .int (xs 1), .ref 40, .int x], A3) _
  refine am_R_w rp_96 (rf_bk am_t96 70 4) 134 _ _ _ (by repeat (first | exact trivial | refine ⟨rfl, ?_⟩)) (by decide +kernel) ?_
  show am_R 6 xs 1000 96 (138, [(3, .int (Int32.ofInt 0)), (2, .ref 40), (1, .ref 0), (0, .ref 1000000000)], [.int (Int32.ofInt 0 + Int32.ofInt 5), .ref 1000000000, .int (xs 4), .int (xs 3), .int (xs 2), .int (xs 1), .ref 40, .int x], A3) _
  refine am_R_scr (pc := 138) rp_96 rfl (by decide) ?_
  show am_R 6 xs 1000 96 (139, [(3, .int (Int32.ofInt 0)), (2, .ref 40), (1, .ref 0), (0, .ref 1000000000)], [.int (xs 5), .int (xs 4), .int (xs 3), .int (xs 2), .int (xs 1), .ref 40, .int x], A3) _
  obtain ⟨fs3, hfs3⟩ := Option.isSome_iff_exists.mp ho3
  have hrc3 : am_rc 0 (.invokevirtual 17) A3 [.ref 40, .int (xs 1), .int (xs 2), .int (xs 3), .int (xs 4), .int (xs 5)] 0 = true := by unfold am_rc; dsimp only; rw [hfs3]; rfl
  refine am_R_call (pc := 139) (q := ([.ref 40, .int (xs 1), .int (xs 2), .int (xs 3), .int (xs 4), .int (xs 5)], [.int x])) rp_96 rfl rfl (by decide) rp_88 rfl (Nat.le_of_ble_eq_true rfl) ⟨hrc3, Nat.le_of_ble_eq_true rfl⟩ h (fun w A4 h => ?_)
  obtain ⟨rfl, hA⟩ := h
  refine am_R_w rp_96 (rf_bk am_t96 76 1) 142 _ _ _ ⟨rfl, trivial⟩ (by decide) ?_
  refine am_R_ifb (b := am_cnd .eq x x) (p := 301) (q := 145) (fun _ => p1_back hA) (fun hb => absurd rfl (of_decide_eq_false hb))
theorem p1_c1 {A2 : am_A} (ho : (am_ob 0 A2 0 1).isSome = true) (h : p1_ok 6 xs 99 89 [.int (xs 1)] A2) : am_R 6 xs 1000 96 (147, [(3, .int (Int32.ofInt 0)), (2, .ref 40), (1, .ref 0), (0, .ref 1000000000)], [], A2) p1_Q := by
  refine am_R_w rp_96 (rf_bk am_t96 79 5) 147 _ _ _ (by repeat (first | exact trivial | refine ⟨rfl, ?_⟩)) (by decide +kernel) ?_
  show am_R 6 xs 1000 96 (152, [(3, .int (Int32.ofInt 0)), (2, .ref 40), (1, .ref 0), (0, .ref 1000000000)], [.int (Int32.ofInt 0 + Int32.ofInt 1), .ref 1000000000, .ref 0], A2) _
  refine am_R_scr (pc := 152) rp_96 rfl (by decide) ?_
  show am_R 6 xs 1000 96 (153, [(3, .int (Int32.ofInt 0)), (2, .ref 40), (1, .ref 0), (0, .ref 1000000000)], [.int (xs 1), .ref 0], A2) _
  obtain ⟨fs, hfs⟩ := Option.isSome_iff_exists.mp ho
  have hrc : am_rc 0 (.invokevirtual 18) A2 [.ref 0, .int (xs 1)] 1 = true := by unfold am_rc; dsimp only; rw [hfs]; rfl
  refine am_R_call (pc := 153) (q := ([.ref 0, .int (xs 1)], [])) rp_96 rfl rfl (by decide) rp_99 rfl (Nat.le_of_ble_eq_true rfl) ⟨hrc, Nat.le_of_ble_eq_true rfl⟩ h (fun v A3 h => ?_)
  obtain ⟨x, rfl, ho3, h⟩ := h
  refine am_R_w rp_96 (rf_bk am_t96 86 5) 156 _ _ _ (by repeat (first | exact trivial | refine ⟨rfl, ?_⟩)) (by decide +kernel) ?_
  show am_R 6 xs 1000 96 (161, [(3, .int (Int32.ofInt 0)), (2, .ref 40), (1, .ref 0), (0, .ref 1000000000)], [.int (Int32.ofInt 0 + Int32.ofInt 1), .ref 1000000000, .ref 40, .int x], A3) _
  refine am_R_scr (pc := 161) rp_96 rfl (by decide) ?_
  show am_R 6 xs 1000 96 (162, [(3, .int (Int32.ofInt 0)), (2, .ref 40), (1, .ref 0), (0, .ref 1000000000)], [.int (xs 1), .ref 40, .int x], A3) _
  obtain ⟨fs3, hfs3⟩ := Option.isSome_iff_exists.mp ho3
  have hrc3 : am_rc 0 (.invokevirtual 22) A3 [.ref 40, .int (xs 1)] 0 = true := by unfold am_rc; dsimp only; rw [hfs3]; rfl
  refine am_R_call (pc := 162) (q := ([.ref 40, .int (xs 1)], [.int x])) rp_96 rfl rfl (by decide) rp_89 rfl (Nat.le_of_ble_eq_true rfl) ⟨hrc3, Nat.le_of_ble_eq_true rfl⟩ h (fun w A4 h => ?_)
  obtain ⟨rfl, hA⟩ := h
  refine am_R_w rp_96 (rf_bk am_t96 93 1) 165 _ _ _ ⟨rfl, trivial⟩ (by decide) ?_
  refine am_R_ifb (b := am_cnd .eq x x) (p := 301) (q := 168) (fun _ => p1_back hA) (fun hb => absurd rfl (of_decide_eq_false hb))
theorem p1_c2 {A2 : am_A} (ho : (am_ob 0 A2 0 1).isSome = true) (h : p1_ok 6 xs 100 38 [] A2) : am_R 6 xs 1000 96 (170, [(3, .int (Int32.ofInt 0)), (2, .ref 40), (1, .ref 0), (0, .ref 1000000000)], [], A2) p1_Q := by
  refine am_R_w rp_96 (rf_bk am_t96 96 1) 170 _ _ _ (by repeat (first | exact trivial | refine ⟨rfl, ?_⟩)) (by decide +kernel) ?_
  obtain ⟨fs, hfs⟩ := Option.isSome_iff_exists.mp ho
  have hrc : am_rc 0 (.invokevirtual 23) A2 [.ref 0] 1 = true := by unfold am_rc; dsimp only; rw [hfs]; rfl
  refine am_R_call (pc := 171) (q := ([.ref 0], [])) rp_96 rfl rfl (by decide) rp_100 rfl (Nat.le_of_ble_eq_true rfl) ⟨hrc, Nat.le_of_ble_eq_true rfl⟩ h (fun v A3 h => ?_)
  obtain ⟨x, rfl, ho3, h⟩ := h
  refine am_R_w rp_96 (rf_bk am_t96 98 1) 174 _ _ _ (by repeat (first | exact trivial | refine ⟨rfl, ?_⟩)) (by decide +kernel) ?_
  obtain ⟨fs3, hfs3⟩ := Option.isSome_iff_exists.mp ho3
  have hrc3 : am_rc 0 (.invokevirtual 27) A3 [.ref 40] 0 = true := by unfold am_rc; dsimp only; rw [hfs3]; rfl
  refine am_R_call (pc := 175) (q := ([.ref 40], [.int x])) rp_96 rfl rfl (by decide) rp_38 rfl (Nat.le_of_ble_eq_true rfl) ⟨hrc3, Nat.le_of_ble_eq_true rfl⟩ h (fun w A4 h => ?_)
  obtain ⟨rfl, hA⟩ := h
  refine am_R_w rp_96 (rf_bk am_t96 100 1) 178 _ _ _ ⟨rfl, trivial⟩ (by decide) ?_
  refine am_R_ifb (b := am_cnd .eq x x) (p := 301) (q := 181) (fun _ => p1_back hA) (fun hb => absurd rfl (of_decide_eq_false hb))
theorem p1_c3 {A2 : am_A} (ho : (am_ob 0 A2 0 1).isSome = true) (h : p1_ok 6 xs 101 90 [.int (xs 1)] A2) : am_R 6 xs 1000 96 (183, [(3, .int (Int32.ofInt 0)), (2, .ref 40), (1, .ref 0), (0, .ref 1000000000)], [], A2) p1_Q := by
  refine am_R_w rp_96 (rf_bk am_t96 103 5) 183 _ _ _ (by repeat (first | exact trivial | refine ⟨rfl, ?_⟩)) (by decide +kernel) ?_
  show am_R 6 xs 1000 96 (188, [(3, .int (Int32.ofInt 0)), (2, .ref 40), (1, .ref 0), (0, .ref 1000000000)], [.int (Int32.ofInt 0 + Int32.ofInt 1), .ref 1000000000, .ref 0], A2) _
  refine am_R_scr (pc := 188) rp_96 rfl (by decide) ?_
  show am_R 6 xs 1000 96 (189, [(3, .int (Int32.ofInt 0)), (2, .ref 40), (1, .ref 0), (0, .ref 1000000000)], [.int (xs 1), .ref 0], A2) _
  obtain ⟨fs, hfs⟩ := Option.isSome_iff_exists.mp ho
  have hrc : am_rc 0 (.invokevirtual 28) A2 [.ref 0, .int (xs 1)] 1 = true := by unfold am_rc; dsimp only; rw [hfs]; rfl
  refine am_R_call (pc := 189) (q := ([.ref 0, .int (xs 1)], [])) rp_96 rfl rfl (by decide) rp_101 rfl (Nat.le_of_ble_eq_true rfl) ⟨hrc, Nat.le_of_ble_eq_true rfl⟩ h (fun v A3 h => ?_)
  obtain ⟨x, rfl, ho3, h⟩ := h
  refine am_R_w rp_96 (rf_bk am_t96 110 5) 192 _ _ _ (by repeat (first | exact trivial | refine ⟨rfl, ?_⟩)) (by decide +kernel) ?_
  show am_R 6 xs 1000 96 (197, [(3, .int (Int32.ofInt 0)), (2, .ref 40), (1, .ref 0), (0, .ref 1000000000)], [.int (Int32.ofInt 0 + Int32.ofInt 1), .ref 1000000000, .ref 40, .int x], A3) _
  refine am_R_scr (pc := 197) rp_96 rfl (by decide) ?_
  show am_R 6 xs 1000 96 (198, [(3, .int (Int32.ofInt 0)), (2, .ref 40), (1, .ref 0), (0, .ref 1000000000)], [.int (xs 1), .ref 40, .int x], A3) _
  obtain ⟨fs3, hfs3⟩ := Option.isSome_iff_exists.mp ho3
  have hrc3 : am_rc 0 (.invokevirtual 31) A3 [.ref 40, .int (xs 1)] 0 = true := by unfold am_rc; dsimp only; rw [hfs3]; rfl
  refine am_R_call (pc := 198) (q := ([.ref 40, .int (xs 1)], [.int x])) rp_96 rfl rfl (by decide) rp_90 rfl (Nat.le_of_ble_eq_true rfl) ⟨hrc3, Nat.le_of_ble_eq_true rfl⟩ h (fun w A4 h => ?_)
  obtain ⟨rfl, hA⟩ := h
  refine am_R_w rp_96 (rf_bk am_t96 117 1) 201 _ _ _ ⟨rfl, trivial⟩ (by decide) ?_
  refine am_R_ifb (b := am_cnd .eq x x) (p := 301) (q := 204) (fun _ => p1_back hA) (fun hb => absurd rfl (of_decide_eq_false hb))
theorem p1_c4 {A2 : am_A} (ho : (am_ob 0 A2 0 1).isSome = true) (h : p1_ok 6 xs 102 91 [] A2) : am_R 6 xs 1000 96 (206, [(3, .int (Int32.ofInt 0)), (2, .ref 40), (1, .ref 0), (0, .ref 1000000000)], [], A2) p1_Q := by
  refine am_R_w rp_96 (rf_bk am_t96 120 1) 206 _ _ _ (by repeat (first | exact trivial | refine ⟨rfl, ?_⟩)) (by decide +kernel) ?_
  obtain ⟨fs, hfs⟩ := Option.isSome_iff_exists.mp ho
  have hrc : am_rc 0 (.invokevirtual 32) A2 [.ref 0] 1 = true := by unfold am_rc; dsimp only; rw [hfs]; rfl
  refine am_R_call (pc := 207) (q := ([.ref 0], [])) rp_96 rfl rfl (by decide) rp_102 rfl (Nat.le_of_ble_eq_true rfl) ⟨hrc, Nat.le_of_ble_eq_true rfl⟩ h (fun v A3 h => ?_)
  obtain ⟨x, rfl, ho3, h⟩ := h
  refine am_R_w rp_96 (rf_bk am_t96 122 1) 210 _ _ _ (by repeat (first | exact trivial | refine ⟨rfl, ?_⟩)) (by decide +kernel) ?_
  obtain ⟨fs3, hfs3⟩ := Option.isSome_iff_exists.mp ho3
  have hrc3 : am_rc 0 (.invokevirtual 35) A3 [.ref 40] 0 = true := by unfold am_rc; dsimp only; rw [hfs3]; rfl
  refine am_R_call (pc := 211) (q := ([.ref 40], [.int x])) rp_96 rfl rfl (by decide) rp_91 rfl (Nat.le_of_ble_eq_true rfl) ⟨hrc3, Nat.le_of_ble_eq_true rfl⟩ h (fun w A4 h => ?_)
  obtain ⟨rfl, hA⟩ := h
  refine am_R_w rp_96 (rf_bk am_t96 124 1) 214 _ _ _ ⟨rfl, trivial⟩ (by decide) ?_
  refine am_R_ifb (b := am_cnd .eq x x) (p := 301) (q := 217) (fun _ => p1_back hA) (fun hb => absurd rfl (of_decide_eq_false hb))
theorem p1_c5 {A2 : am_A} (ho : (am_ob 0 A2 0 1).isSome = true) (h : p1_ok 6 xs 103 92 [.int (xs 1)] A2) : am_R 6 xs 1000 96 (219, [(3, .int (Int32.ofInt 0)), (2, .ref 40), (1, .ref 0), (0, .ref 1000000000)], [], A2) p1_Q := by
  refine am_R_w rp_96 (rf_bk am_t96 127 5) 219 _ _ _ (by repeat (first | exact trivial | refine ⟨rfl, ?_⟩)) (by decide +kernel) ?_
  show am_R 6 xs 1000 96 (224, [(3, .int (Int32.ofInt 0)), (2, .ref 40), (1, .ref 0), (0, .ref 1000000000)], [.int (Int32.ofInt 0 + Int32.ofInt 1), .ref 1000000000, .ref 0], A2) _
  refine am_R_scr (pc := 224) rp_96 rfl (by decide) ?_
  show am_R 6 xs 1000 96 (225, [(3, .int (Int32.ofInt 0)), (2, .ref 40), (1, .ref 0), (0, .ref 1000000000)], [.int (xs 1), .ref 0], A2) _
  obtain ⟨fs, hfs⟩ := Option.isSome_iff_exists.mp ho
  have hrc : am_rc 0 (.invokevirtual 36) A2 [.ref 0, .int (xs 1)] 1 = true := by unfold am_rc; dsimp only; rw [hfs]; rfl
  refine am_R_call (pc := 225) (q := ([.ref 0, .int (xs 1)], [])) rp_96 rfl rfl (by decide) rp_103 rfl (Nat.le_of_ble_eq_true rfl) ⟨hrc, Nat.le_of_ble_eq_true rfl⟩ h (fun v A3 h => ?_)
  obtain ⟨x, rfl, ho3, h⟩ := h
  refine am_R_w rp_96 (rf_bk am_t96 134 5) 228 _ _ _ (by repeat (first | exact trivial | refine ⟨rfl, ?_⟩)) (by decide +kernel) ?_
  show am_R 6 xs 1000 96 (233, [(3, .int (Int32.ofInt 0)), (2, .ref 40), (1, .ref 0), (0, .ref 1000000000)], [.int (Int32.ofInt 0 + Int32.ofInt 1), .ref 1000000000, .ref 40, .int x], A3) _
  refine am_R_scr (pc := 233) rp_96 rfl (by decide) ?_
  show am_R 6 xs 1000 96 (234, [(3, .int (Int32.ofInt 0)), (2, .ref 40), (1, .ref 0), (0, .ref 1000000000)], [.int (xs 1), .ref 40, .int x], A3) _
  obtain ⟨fs3, hfs3⟩ := Option.isSome_iff_exists.mp ho3
  have hrc3 : am_rc 0 (.invokevirtual 39) A3 [.ref 40, .int (xs 1)] 0 = true := by unfold am_rc; dsimp only; rw [hfs3]; rfl
  refine am_R_call (pc := 234) (q := ([.ref 40, .int (xs 1)], [.int x])) rp_96 rfl rfl (by decide) rp_92 rfl (Nat.le_of_ble_eq_true rfl) ⟨hrc3, Nat.le_of_ble_eq_true rfl⟩ h (fun w A4 h => ?_)
  obtain ⟨rfl, hA⟩ := h
  refine am_R_w rp_96 (rf_bk am_t96 141 1) 237 _ _ _ ⟨rfl, trivial⟩ (by decide) ?_
  refine am_R_ifb (b := am_cnd .eq x x) (p := 301) (q := 240) (fun _ => p1_back hA) (fun hb => absurd rfl (of_decide_eq_false hb))
theorem p1_c6 {A2 : am_A} (ho : (am_ob 0 A2 0 1).isSome = true) (h : p1_ok 6 xs 104 93 [] A2) : am_R 6 xs 1000 96 (242, [(3, .int (Int32.ofInt 0)), (2, .ref 40), (1, .ref 0), (0, .ref 1000000000)], [], A2) p1_Q := by
  refine am_R_w rp_96 (rf_bk am_t96 144 1) 242 _ _ _ (by repeat (first | exact trivial | refine ⟨rfl, ?_⟩)) (by decide +kernel) ?_
  obtain ⟨fs, hfs⟩ := Option.isSome_iff_exists.mp ho
  have hrc : am_rc 0 (.invokevirtual 40) A2 [.ref 0] 1 = true := by unfold am_rc; dsimp only; rw [hfs]; rfl
  refine am_R_call (pc := 243) (q := ([.ref 0], [])) rp_96 rfl rfl (by decide) rp_104 rfl (Nat.le_of_ble_eq_true rfl) ⟨hrc, Nat.le_of_ble_eq_true rfl⟩ h (fun v A3 h => ?_)
  obtain ⟨x, rfl, ho3, h⟩ := h
  refine am_R_w rp_96 (rf_bk am_t96 146 1) 246 _ _ _ (by repeat (first | exact trivial | refine ⟨rfl, ?_⟩)) (by decide +kernel) ?_
  obtain ⟨fs3, hfs3⟩ := Option.isSome_iff_exists.mp ho3
  have hrc3 : am_rc 0 (.invokevirtual 43) A3 [.ref 40] 0 = true := by unfold am_rc; dsimp only; rw [hfs3]; rfl
  refine am_R_call (pc := 247) (q := ([.ref 40], [.int x])) rp_96 rfl rfl (by decide) rp_93 rfl (Nat.le_of_ble_eq_true rfl) ⟨hrc3, Nat.le_of_ble_eq_true rfl⟩ h (fun w A4 h => ?_)
  obtain ⟨rfl, hA⟩ := h
  refine am_R_w rp_96 (rf_bk am_t96 148 1) 250 _ _ _ ⟨rfl, trivial⟩ (by decide) ?_
  refine am_R_ifb (b := am_cnd .eq x x) (p := 301) (q := 253) (fun _ => p1_back hA) (fun hb => absurd rfl (of_decide_eq_false hb))
theorem p1_c7 {A2 : am_A} (ho : (am_ob 0 A2 0 1).isSome = true) (h : p1_ok 6 xs 105 94 [.int (xs 1)] A2) : am_R 6 xs 1000 96 (255, [(3, .int (Int32.ofInt 0)), (2, .ref 40), (1, .ref 0), (0, .ref 1000000000)], [], A2) p1_Q := by
  refine am_R_w rp_96 (rf_bk am_t96 151 5) 255 _ _ _ (by repeat (first | exact trivial | refine ⟨rfl, ?_⟩)) (by decide +kernel) ?_
  show am_R 6 xs 1000 96 (260, [(3, .int (Int32.ofInt 0)), (2, .ref 40), (1, .ref 0), (0, .ref 1000000000)], [.int (Int32.ofInt 0 + Int32.ofInt 1), .ref 1000000000, .ref 0], A2) _
  refine am_R_scr (pc := 260) rp_96 rfl (by decide) ?_
  show am_R 6 xs 1000 96 (261, [(3, .int (Int32.ofInt 0)), (2, .ref 40), (1, .ref 0), (0, .ref 1000000000)], [.int (xs 1), .ref 0], A2) _
  obtain ⟨fs, hfs⟩ := Option.isSome_iff_exists.mp ho
  have hrc : am_rc 0 (.invokevirtual 44) A2 [.ref 0, .int (xs 1)] 1 = true := by unfold am_rc; dsimp only; rw [hfs]; rfl
  refine am_R_call (pc := 261) (q := ([.ref 0, .int (xs 1)], [])) rp_96 rfl rfl (by decide) rp_105 rfl (Nat.le_of_ble_eq_true rfl) ⟨hrc, Nat.le_of_ble_eq_true rfl⟩ h (fun v A3 h => ?_)
  obtain ⟨x, rfl, ho3, h⟩ := h
  refine am_R_w rp_96 (rf_bk am_t96 158 5) 264 _ _ _ (by repeat (first | exact trivial | refine ⟨rfl, ?_⟩)) (by decide +kernel) ?_
  show am_R 6 xs 1000 96 (269, [(3, .int (Int32.ofInt 0)), (2, .ref 40), (1, .ref 0), (0, .ref 1000000000)], [.int (Int32.ofInt 0 + Int32.ofInt 1), .ref 1000000000, .ref 40, .int x], A3) _
  refine am_R_scr (pc := 269) rp_96 rfl (by decide) ?_
  show am_R 6 xs 1000 96 (270, [(3, .int (Int32.ofInt 0)), (2, .ref 40), (1, .ref 0), (0, .ref 1000000000)], [.int (xs 1), .ref 40, .int x], A3) _
  obtain ⟨fs3, hfs3⟩ := Option.isSome_iff_exists.mp ho3
  have hrc3 : am_rc 0 (.invokevirtual 47) A3 [.ref 40, .int (xs 1)] 0 = true := by unfold am_rc; dsimp only; rw [hfs3]; rfl
  refine am_R_call (pc := 270) (q := ([.ref 40, .int (xs 1)], [.int x])) rp_96 rfl rfl (by decide) rp_94 rfl (Nat.le_of_ble_eq_true rfl) ⟨hrc3, Nat.le_of_ble_eq_true rfl⟩ h (fun w A4 h => ?_)
  obtain ⟨rfl, hA⟩ := h
  refine am_R_w rp_96 (rf_bk am_t96 165 1) 273 _ _ _ ⟨rfl, trivial⟩ (by decide) ?_
  refine am_R_ifb (b := am_cnd .eq x x) (p := 301) (q := 276) (fun _ => p1_back hA) (fun hb => absurd rfl (of_decide_eq_false hb))
theorem p1_c8 {A2 : am_A} (ho : (am_ob 0 A2 0 1).isSome = true) (h : p1_ok 6 xs 106 95 [.int (xs 1)] A2) : am_R 6 xs 1000 96 (278, [(3, .int (Int32.ofInt 0)), (2, .ref 40), (1, .ref 0), (0, .ref 1000000000)], [], A2) p1_Q := by
  refine am_R_w rp_96 (rf_bk am_t96 168 5) 278 _ _ _ (by repeat (first | exact trivial | refine ⟨rfl, ?_⟩)) (by decide +kernel) ?_
  show am_R 6 xs 1000 96 (283, [(3, .int (Int32.ofInt 0)), (2, .ref 40), (1, .ref 0), (0, .ref 1000000000)], [.int (Int32.ofInt 0 + Int32.ofInt 1), .ref 1000000000, .ref 0], A2) _
  refine am_R_scr (pc := 283) rp_96 rfl (by decide) ?_
  show am_R 6 xs 1000 96 (284, [(3, .int (Int32.ofInt 0)), (2, .ref 40), (1, .ref 0), (0, .ref 1000000000)], [.int (xs 1), .ref 0], A2) _
  obtain ⟨fs, hfs⟩ := Option.isSome_iff_exists.mp ho
  have hrc : am_rc 0 (.invokevirtual 48) A2 [.ref 0, .int (xs 1)] 1 = true := by unfold am_rc; dsimp only; rw [hfs]; rfl
  refine am_R_call (pc := 284) (q := ([.ref 0, .int (xs 1)], [])) rp_96 rfl rfl (by decide) rp_106 rfl (Nat.le_of_ble_eq_true rfl) ⟨hrc, Nat.le_of_ble_eq_true rfl⟩ h (fun v A3 h => ?_)
  obtain ⟨x, rfl, ho3, h⟩ := h
  refine am_R_w rp_96 (rf_bk am_t96 175 5) 287 _ _ _ (by repeat (first | exact trivial | refine ⟨rfl, ?_⟩)) (by decide +kernel) ?_
  show am_R 6 xs 1000 96 (292, [(3, .int (Int32.ofInt 0)), (2, .ref 40), (1, .ref 0), (0, .ref 1000000000)], [.int (Int32.ofInt 0 + Int32.ofInt 1), .ref 1000000000, .ref 40, .int x], A3) _
  refine am_R_scr (pc := 292) rp_96 rfl (by decide) ?_
  show am_R 6 xs 1000 96 (293, [(3, .int (Int32.ofInt 0)), (2, .ref 40), (1, .ref 0), (0, .ref 1000000000)], [.int (xs 1), .ref 40, .int x], A3) _
  obtain ⟨fs3, hfs3⟩ := Option.isSome_iff_exists.mp ho3
  have hrc3 : am_rc 0 (.invokevirtual 51) A3 [.ref 40, .int (xs 1)] 0 = true := by unfold am_rc; dsimp only; rw [hfs3]; rfl
  refine am_R_call (pc := 293) (q := ([.ref 40, .int (xs 1)], [.int x])) rp_96 rfl rfl (by decide) rp_95 rfl (Nat.le_of_ble_eq_true rfl) ⟨hrc3, Nat.le_of_ble_eq_true rfl⟩ h (fun w A4 h => ?_)
  obtain ⟨rfl, hA⟩ := h
  refine am_R_w rp_96 (rf_bk am_t96 182 1) 296 _ _ _ ⟨rfl, trivial⟩ (by decide) ?_
  refine am_R_ifb (b := am_cnd .eq x x) (p := 301) (q := 299) (fun _ => p1_back hA) (fun hb => absurd rfl (of_decide_eq_false hb))
/-- the law behind both constructors -/
theorem p1_law {A2 : am_A} (hL : L ≤ 6) (ho : (am_ob 0 A2 0 1).isSome = true) (hA : A2.1.length ≤ 600000 ∧ A2.2 ≤ 7302250)
    (h0 : p1_ok 6 xs 98 88 [.int (xs 1), .int (xs 2), .int (xs 3), .int (xs 4), .int (xs 5)] A2)
    (h1 : p1_ok 6 xs 99 89 [.int (xs 1)] A2)
    (h2 : p1_ok 6 xs 100 38 [] A2)
    (h3 : p1_ok 6 xs 101 90 [.int (xs 1)] A2)
    (h4 : p1_ok 6 xs 102 91 [] A2)
    (h5 : p1_ok 6 xs 103 92 [.int (xs 1)] A2)
    (h6 : p1_ok 6 xs 104 93 [] A2)
    (h7 : p1_ok 6 xs 105 94 [.int (xs 1)] A2)
    (h8 : p1_ok 6 xs 106 95 [.int (xs 1)] A2)
    : am_R L xs 1000 96 (18, [(3, .int (Int32.ofInt 0)), (2, .ref 40), (1, .ref 0), (0, .ref 1000000000)], [], A2) p1_Q := by
  have hd : ∀ l, l < 6 → am_cnd .gt (Int32.ofInt 0) (Int32.ofNat l - (Int8.ofInt 6).toInt32) = true := by decide
  by_cases hlt : L < 6
  · exact p1_end hA (hd L hlt)
  obtain rfl : L = 6 := by omega
  refine am_R_w rp_96 (rf_bk am_t96 10 2) 18 _ _ _ ⟨rfl, rfl, trivial⟩ (by decide) ?_
  refine am_R_sl (pc := 20) rp_96 rfl ?_
  refine am_R_w rp_96 (rf_bk am_t96 13 3) 21 _ _ _ (by repeat (first | exact trivial | refine ⟨rfl, ?_⟩)) (by decide +kernel) ?_
  refine am_R_ifb (b := am_cnd .gt (Int32.ofInt 0) (Int32.ofNat 6 - (Int8.ofInt 6).toInt32)) (p := 307) (q := 27) (fun hb => absurd hb (by decide)) (fun _ => ?_)
  refine am_R_w rp_96 (rf_bk am_t96 16 2) 27 _ _ _ ⟨rfl, rfl, trivial⟩ (by decide) ?_
  refine am_R_scr (pc := 29) rp_96 rfl (by decide) ?_
  refine am_R_w rp_96 (rf_bk am_t96 19 3) 30 _ _ _ (by repeat (first | exact trivial | refine ⟨rfl, ?_⟩)) (by decide +kernel) ?_
  show am_R 6 xs 1000 96 (am_sw (xs (Int32.ofInt 0).toNatClampNeg &&& (Int8.ofInt 15).toInt32) [(0, 84), (1, 147), (2, 170), (3, 183), (4, 206), (5, 219), (6, 242), (7, 255), (8, 278)] 301, [(3, .int (Int32.ofInt 0)), (2, .ref 40), (1, .ref 0), (0, .ref 1000000000)], [], A2) _
  refine am_R_sw (fun _ => p1_c0 ho h0) (fun _ => ?_)
  refine am_R_sw (fun _ => p1_c1 ho h1) (fun _ => ?_)
  refine am_R_sw (fun _ => p1_c2 ho h2) (fun _ => ?_)
  refine am_R_sw (fun _ => p1_c3 ho h3) (fun _ => ?_)
  refine am_R_sw (fun _ => p1_c4 ho h4) (fun _ => ?_)
  refine am_R_sw (fun _ => p1_c5 ho h5) (fun _ => ?_)
  refine am_R_sw (fun _ => p1_c6 ho h6) (fun _ => ?_)
  refine am_R_sw (fun _ => p1_c7 ho h7) (fun _ => ?_)
  refine am_R_sw (fun _ => p1_c8 ho h8) (fun _ => ?_)
  show am_R 6 xs 1000 96 (301, _, _, _) _
  exact p1_back hA
end P1
