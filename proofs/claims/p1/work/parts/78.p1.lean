/-! PART 78: at most one call on fresh objects: the law's pure run (p1's) -/
theorem fr_P2 : fr_P fr_A2 := by
  obtain ⟨r1, h1, e1⟩ := Option.map_eq_some_iff.mp fr_r35
  obtain ⟨r2, h2, e2⟩ := Option.map_eq_some_iff.mp fr_r2
  obtain ⟨r3, h3, e3⟩ := Option.map_eq_some_iff.mp fr_r41
  obtain ⟨fs, h4, e4⟩ := Option.map_eq_some_iff.mp fr_m40
  obtain ⟨g1, e4⟩ := Prod.mk.inj e4
  obtain ⟨g2, e4⟩ := Prod.mk.inj e4
  obtain ⟨g3, g4⟩ := Prod.mk.inj e4
  have hl : fr_A2.1.length ≤ 600000 := by rw [(fr_run2 0 (fun _ => 0)).2.2]; decide
  have hz := fr_b
  have o0 := fr_o0
  have o1 := fr_o1
  have o25 := fr_o25
  have o34 := fr_o34
  generalize fr_A2 = A at *
  exact ⟨o0, o1, o25, o34, ⟨r1, h1, e1⟩, ⟨r2, h2, e2⟩, ⟨r3, h3, e3⟩, ⟨fs, h4, g1, g2, g3, g4⟩, hl, hz⟩
theorem rp_0 : am_prog[0]? = some (am_m0, am_t0) := rfl
theorem p1_start {L f g : Nat} {xs : Nat → Int32} {A1 A2 : am_A} (h1 : am_rn L xs f 999 97 0 [(0, .ref 0)] [] fr_A0 = some (none, A1)) (hl : A1.1.length = 40) (h2 : am_rn L xs g 999 0 0 [(0, .ref 40)] [] (A1.1 ++ [.inr (0, (am_nf 0).map defaultValue)], A1.2 + (am_nf 0).length) = some (none, A2)) (h : am_R L xs 1000 96 (18, [(3, .int (Int32.ofInt 0)), (2, .ref 40), (1, .ref 0), (0, .ref 1000000000)], [], A2) p1_Q) : am_R L xs 1000 96 (0, [(0, .ref 1000000000)], [], ([], 0)) p1_Q := by
  refine am_R_w rp_96 (rf_bk am_t96 0 2) 0 _ _ _ ⟨rfl, rfl, trivial⟩ (by decide) ?_
  show am_R L xs 1000 96 (4, [(0, .ref 1000000000)], [.ref 0, .ref 0], fr_A0) p1_Q
  refine am_R_call (pc := 4) (q := ([.ref 0], [.ref 0])) (Q' := fun v A => v = none ∧ A = A1) rp_96 rfl rfl (by decide) rp_97 rfl (Nat.le_of_ble_eq_true rfl) ⟨rfl, Nat.le_of_ble_eq_true rfl⟩ (am_R_of h1 ⟨rfl, rfl⟩) (fun v A e => ?_)
  obtain ⟨rfl, eA⟩ := e
  rw [eA]
  clear eA
  refine am_R_w rp_96 (rf_bk am_t96 3 3) 7 _ _ _ (by repeat (first | exact trivial | refine ⟨rfl, ?_⟩)) (by decide +kernel) ?_
  show am_R L xs 1000 96 (12, [(1, .ref 0), (0, .ref 1000000000)], [.ref (0 + A1.1.length), .ref (0 + A1.1.length)], (A1.1 ++ [.inr (0, (am_nf 0).map defaultValue)], A1.2 + (am_nf 0).length)) p1_Q
  rw [hl]
  generalize (A1.1 ++ [.inr (0, (am_nf 0).map defaultValue)], A1.2 + (am_nf 0).length) = B at *
  refine am_R_call (pc := 12) (q := ([.ref 40], [.ref 40])) (Q' := fun v A => v = none ∧ A = A2) rp_96 rfl rfl (by decide) rp_0 rfl (Nat.le_of_ble_eq_true rfl) ⟨rfl, Nat.le_of_ble_eq_true rfl⟩ (am_R_of h2 ⟨rfl, rfl⟩) (fun v A e => ?_)
  obtain ⟨rfl, eA⟩ := e
  rw [eA]
  clear eA
  refine am_R_w rp_96 (rf_bk am_t96 7 3) 15 _ _ _ (by repeat (first | exact trivial | refine ⟨rfl, ?_⟩)) (by decide +kernel) ?_
  exact h
theorem p1_ops {xs : Nat → Int32} {A2 : am_A} {L : Nat} (hL : L ≤ 6) (hP : fr_P A2) (c2 : p1_ok 6 xs 100 38 [] A2) (c4 : p1_ok 6 xs 102 91 [] A2) (c6 : p1_ok 6 xs 104 93 [] A2) (c1 : p1_ok 6 xs 99 89 [.int 0] A2) (c8 : ∀ k ∈ ([0, 1, 2, 3, 4, 5, 6] : List Int32), p1_ok 6 xs 106 95 [.int k] A2) : am_R L xs 1000 96 (18, [(3, .int (Int32.ofInt 0)), (2, .ref 40), (1, .ref 0), (0, .ref 1000000000)], [], A2) p1_Q := by
  have ho : (am_ob 0 A2 0 1).isSome = true := by rw [hP.1]; rfl
  exact p1_law hL ho hP.2.2.2.2.2.2.2.2 (p1_feed hP _ _ _ _ _) (p1_endN hP c1 _) c2 (p1_heap hP _) c4 (p1_step hP _) c6 (p1_text hP _) (p1_count hP c8 _)
/-- WHAT p1 OWES -/
theorem p1_pure : ∀ (L : Nat) (xs : Nat → Int32), L ≤ 6 → ∃ (f : Nat) (A' : am_A), am_rn L xs f 1000 96 0 [(0, .ref 1000000000)] [] ([], 0) = some (some (.int 1), A') ∧ A'.1.length ≤ 600000 ∧ A'.2 ≤ 7302250 := by
  intro L xs hL
  have n0 : ns_S [] := fun v hv => by cases hv
  have n1 : ∀ k : Int32, ns_S [.int k] := fun k => ns_c.mpr ⟨ns_i, n0⟩
  have c2 := fr_chk_ok (xs := xs) fr_c_program n0
  have c4 := fr_chk_ok (xs := xs) fr_c_start n0
  have c6 := fr_chk_ok (xs := xs) fr_c_size n0
  have c1 := fr_chk_ok (xs := xs) fr_c_end (n1 0)
  have c8 : ∀ k ∈ ([0, 1, 2, 3, 4, 5, 6] : List Int32), p1_ok 6 xs 106 95 [.int k] fr_A2 := fun k hk => fr_chk_ok (List.all_eq_true.mp fr_c_count k hk) (n1 k)
  have r1 := fr_run1 L xs
  have r2 := (fr_run2 L xs).1
  have hP := fr_P2
  unfold fr_B1 at r2
  generalize fr_A2 = A2 at *
  generalize fr_A1 = A1 at *
  obtain ⟨f, v, A', h1, h2⟩ := p1_start r1.1 r1.2.2 r2 (p1_ops hL hP c2 c4 c6 c1 c8)
  obtain ⟨rfl, h3⟩ := h2
  exact ⟨f, A', h1, h3⟩
