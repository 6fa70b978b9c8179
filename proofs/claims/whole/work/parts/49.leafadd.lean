/-! PART 49: Table.add, Words.fit -/
section ADD
variable {sL : Nat} {sx : Nat → Int32}
theorem nI_mul (a b : Nat) : nI a * nI b = nI (a * b) := (Int32.ofNat_mul a b).symm
theorem am_up_comm {B : am_A} {q L : Nat} {x e : am_E} (h : q ≠ L) : am_up 0 (am_up 0 B q x) L e = am_up 0 (am_up 0 B L e) q x := by
  unfold am_up
  simp only [Nat.sub_zero]
  rw [List.set_comm _ _ h]
theorem c_Table_end {d q R : Nat} {B : am_A} {w x : Value} (hq : am_ob 0 B q 10 = some [w, x, .int (nI R)]) : am_R sL sx d 272 (115, [(0, .ref q)], [], B) (fun r A' => r = some (.int (nI R)) ∧ A' = am_up 0 B q (.inr (10, [w, x, .int (nI (R + 1))]))) := by
  refine am_R_w rp_272 (rf_bk am_t272 68 10) 115 _ _ _ (by repeat (first | exact trivial | refine ⟨rfl, ?_⟩)) (by decide +kernel) ?_
  refine ⟨_, hq, _, rfl, _, hq, ⟨Nat.le_of_ble_eq_true rfl, rfl⟩, _, am_ob_self hq, _, rfl, ?_⟩
  show am_R sL sx d 272 (131, [(0, .ref q)], [.int (nI R + Int32.ofInt 1 - Int32.ofInt 1)], am_up 0 B q (.inr (10, [w, x, .int (nI R + Int32.ofInt 1)]))) _
  rw [rf_o1, nI_1, nI_pred]
  exact am_R_re (pc := 131) (v := some (.int (nI R))) rp_272 rfl rfl rfl ⟨rfl, rfl⟩
/-- Table.add() -/
theorem c_Table_add {d q a n w R : Nat} {A : am_A} {f : Nat → Int32} (hq : am_ob 0 A q 10 = some [.int (nI w), .ref a, .int (nI R)]) (ha : am_ia 0 A a .int = some (n, f)) (hqa : q ≠ a) (hs : a ≠ 1000000000) (hA : A.1.length < 1000000000) (hw1 : 1 ≤ w) (hw : w ≤ 16) (hRn : R * w ≤ n) (hn : n ≤ 4194304) :
    am_R sL sx d 272 (0, [(0, .ref q)], [], A) (fun r A' => (1048576 < (R + 1) * w ∧ r = some (.int 0) ∧ A' = A) ∨
      ((R + 1) * w ≤ 1048576 ∧ (R + 1) * w ≤ n ∧ r = some (.int (nI R)) ∧ ∃ f' : Nat → Int32, (∀ i, i < R * w → f' i = f i) ∧ (∀ i, R * w ≤ i → i < (R + 1) * w → f' i = 0) ∧ A' = am_up 0 (am_up 0 A a (.inl (.int, n, .inl f'))) q (.inr (10, [.int (nI w), .ref a, .int (nI (R + 1))]))) ∨
      ((R + 1) * w ≤ 1048576 ∧ n < (R + 1) * w ∧ r = some (.int (nI R)) ∧ ∃ f' : Nat → Int32, (∀ i, i < R * w → f' i = f i) ∧ (∀ i, R * w ≤ i → i < (R + 1) * w → f' i = 0) ∧ A' = am_up 0 (am_app A (.inl (.int, (R + 1) * w * 2, .inl f')) ((R + 1) * w * 2)) q (.inr (10, [.int (nI w), .ref A.1.length, .int (nI (R + 1))])))) := by
  have e1 : (R + 1) * w = R * w + w := by rw [Nat.add_mul, Nat.one_mul]
  generalize hF : R * w = F at *
  rw [e1]
  generalize hT : F + w = T at *
  refine am_R_w rp_272 (rf_bk am_t272 0 13) 0 _ _ _ (by repeat (first | exact trivial | refine ⟨rfl, ?_⟩)) (by decide +kernel) ?_
  refine ⟨_, hq, _, rfl, _, hq, _, rfl, _, hq, _, rfl, ?_⟩
  show am_R sL sx d 272 (if am_cnd .lt (nI R * nI w) 0 = true then 27 else 21, [(2, .int (nI R * nI w + nI w)), (1, .int (nI R * nI w)), (0, .ref q)], [], A) _
  rw [nI_mul, hF, nI_add, hT]
  refine am_R_ifb (fun h => absurd (of_decide_eq_true h) (nI_pos (by omega))) (fun _ => ?_)
  refine am_R_w rp_272 (rf_bk am_t272 13 3) 21 _ _ _ (by repeat (first | exact trivial | refine ⟨rfl, ?_⟩)) (by decide +kernel) ?_
  refine am_R_ifb (b := am_cnd .le (nI T) (nI 1048576)) (p := 29) (q := 27) (fun h => ?_) (fun h => ?_)
  rotate_left
  · have h2 : ¬ T ≤ 1048576 := fun z => (of_decide_eq_false h) (nI_le z (by omega))
    refine am_R_w rp_272 (rf_bk am_t272 16 1) 27 _ _ _ ⟨rfl, trivial⟩ (by decide) ?_
    exact am_R_re (pc := 28) (v := some (.int 0)) rp_272 rfl rfl rfl (Or.inl ⟨by omega, rfl, rfl⟩)
  have h2 : T ≤ 1048576 := (nI_leI (by omega) (by omega)).mp (of_decide_eq_true h)
  clear h
  refine am_R_w rp_272 (rf_bk am_t272 18 5) 29 _ _ _ (by repeat (first | exact trivial | refine ⟨rfl, ?_⟩)) (by decide +kernel) ?_
  refine ⟨_, hq, _, rfl, hs, _, am_al_ia ha, ?_⟩
  refine am_R_ifb (b := am_cnd .le (nI T) (nI n)) (p := 86) (q := 38) (fun h => ?_) (fun h => ?_)
  · have h3 : T ≤ n := (nI_leI (by omega) (by omega)).mp (of_decide_eq_true h)
    refine am_R_w rp_272 (rf_bk am_t272 51 2) 86 _ _ _ (by repeat (first | exact trivial | refine ⟨rfl, ?_⟩)) (by decide +kernel) ?_
    refine am_R_le (l := [(3, .int (nI F)), (2, .int (nI T)), (0, .ref q)]) rfl rfl ⟨rfl, rfl, rfl, trivial⟩ ?_
    refine c_Table_zero (fr := .null) hqa hs h3 (by omega) w F A f hT hq ha (fun f' g1 g2 => ?_)
    refine am_R_imp (c_Table_end ((am_ob_ne hqa).trans hq)) (fun r A' hr => ?_)
    exact Or.inr (Or.inl ⟨h2, h3, hr.1, f', g1, g2, hr.2⟩)
  · have h3 : n < T := Nat.lt_of_not_le (fun z => (of_decide_eq_false h) (nI_le (a := T) (b := n) z (by omega)))
    refine am_R_w rp_272 (rf_bk am_t272 23 4) 38 _ _ _ (by repeat (first | exact trivial | refine ⟨rfl, ?_⟩)) (by decide +kernel) ?_
    have e2 : nI T * Int32.ofInt 2 = nI (T * 2) := by rw [rf_o2]; exact nI_mul T 2
    have e3 : (nI (T * 2)).toNatClampNeg = T * 2 := nI_clamp (by omega)
    refine ⟨?_, _, rfl, ?_⟩
    · show ¬ (nI T * Int32.ofInt 2 < 0 ∨ 60000000 < (nI T * Int32.ofInt 2).toNatClampNeg)
      rw [e2, e3]
      rintro (z | z)
      · exact nI_pos (by omega) z
      · omega
    show am_R sL sx d 272 (43, [(2, .int (nI T)), (1, .int (nI F)), (0, .ref q)], [.ref (0 + A.1.length)], (A.1 ++ [.inl (.int, (nI T * Int32.ofInt 2).toNatClampNeg, .inl (fun _ => 0))], A.2 + (nI T * Int32.ofInt 2).toNatClampNeg)) _
    rw [e2, e3, Nat.zero_add]
    refine am_R_w rp_272 (rf_bk am_t272 27 3) 43 _ _ _ (by repeat (first | exact trivial | refine ⟨rfl, ?_⟩)) (by decide +kernel) ?_
    have hqL : q ≠ A.1.length := by
      have := am_ob_inv hq
      unfold am_at at this
      rw [if_pos (Nat.zero_le _)] at this
      have := (List.getElem?_eq_some_iff.mp this).1
      omega
    refine c_Table_copy (z := T * 2) (fr := nI F) (to := nI T) hs (by omega) (show n ≤ T * 2 by omega) (by omega) hq ha n 0 (fun _ => 0) (by omega) (fun g' _ g2 => ?_)
    refine am_R_w rp_272 (rf_bk am_t272 48 5) 81 _ _ _ (by repeat (first | exact trivial | refine ⟨rfl, ?_⟩)) (by decide +kernel) ?_
    refine ⟨_, am_ob_app hq, ⟨Nat.le_of_ble_eq_true rfl, rfl⟩, ?_⟩
    refine am_R_le (l := [(3, .int (nI F)), (2, .int (nI T)), (0, .ref q)]) rfl rfl ⟨rfl, rfl, rfl, trivial⟩ ?_
    refine c_Table_zero (fr := .null) hqL (by omega) (show T ≤ T * 2 by omega) (by omega) w F _ g' hT (am_ob_self (am_ob_app hq)) ((am_ia_ne hqL.symm).trans am_ia_new) (fun f' g3 g4 => ?_)
    refine am_R_imp (c_Table_end ((am_ob_ne hqL).trans (am_ob_self (am_ob_app hq)))) (fun r A' hr => ?_)
    refine Or.inr (Or.inr ⟨h2, h3, hr.1, f', fun i hi => ?_, g4, ?_⟩)
    · rw [g3 i hi, g2 i (by omega) (by omega)]
    · rw [hr.2, am_up_comm hqL, am_up_up, am_app_up]
/-- Words.fit(m) -/
theorem c_Words_fit {d q a n : Nat} {A : am_A} {f : Nat → Int64} {m : Int32} (hq : am_ob 0 A q 11 = some [.ref a]) (ha : am_la 0 A a = some (n, f)) (hs : a ≠ 1000000000) (hA : A.1.length < 1000000000) (hn : n ≤ 4194304) :
    am_R sL sx d 279 (0, [(0, .ref q), (1, .int m)], [], A) (fun r A' => r = none ∧ (((m ≤ nI n ∨ nI 1048576 < m) ∧ A' = A) ∨
      (¬ (m ≤ nI n ∨ nI 1048576 < m) ∧ ∃ f' : Nat → Int64, (∀ i, i < n → f' i = f i) ∧ (∀ i, n ≤ i → f' i = 0) ∧ A' = am_up 0 (am_app A (.inl (.long, m.toNatClampNeg * 2, .inr (.inl f'))) (m.toNatClampNeg * 2)) q (.inr (11, [.ref A.1.length]))))) := by
  refine am_R_w rp_279 (rf_bk am_t279 0 5) 0 _ _ _ (by repeat (first | exact trivial | refine ⟨rfl, ?_⟩)) (by decide +kernel) ?_
  refine ⟨_, hq, _, rfl, hs, _, am_al_la ha, ?_⟩
  refine am_R_ifb (b := am_cnd .le m (nI n)) (p := 15) (q := 9) (fun h => ?_) (fun h => ?_)
  · exact am_R_re (pc := 15) rp_279 rfl rfl rfl ⟨rfl, Or.inl ⟨Or.inl (of_decide_eq_true h), rfl⟩⟩
  have h1 : ¬ m ≤ nI n := of_decide_eq_false h
  refine am_R_w rp_279 (rf_bk am_t279 5 3) 9 _ _ _ (by repeat (first | exact trivial | refine ⟨rfl, ?_⟩)) (by decide +kernel) ?_
  refine am_R_ifb (b := am_cnd .le m (nI 1048576)) (p := 16) (q := 15) (fun h => ?_) (fun h => ?_)
  rotate_left
  · exact am_R_re (pc := 15) rp_279 rfl rfl rfl ⟨rfl, Or.inl ⟨Or.inr (Int32.not_le.mp (of_decide_eq_false h)), rfl⟩⟩
  have h2 : m ≤ nI 1048576 := of_decide_eq_true h
  have h0 : ¬ m < 0 := by
    intro z
    exact h1 (Int32.le_of_lt (Int32.lt_of_lt_of_le z (nI_pos' (by omega))))
  obtain ⟨M, hM, rfl⟩ := nI_of h0
  have hM2 : M ≤ 1048576 := (nI_leI hM (by omega)).mp h2
  have hM1 : n < M := Nat.lt_of_not_le (fun z => h1 (nI_le (a := M) (b := n) z (by omega)))
  have e2 : nI M * Int32.ofInt 2 = nI (M * 2) := by rw [rf_o2]; exact nI_mul M 2
  have e3 : (nI (M * 2)).toNatClampNeg = M * 2 := nI_clamp (by omega)
  refine am_R_w rp_279 (rf_bk am_t279 9 4) 16 _ _ _ (by repeat (first | exact trivial | refine ⟨rfl, ?_⟩)) (by decide +kernel) ?_
  refine ⟨?_, _, rfl, ?_⟩
  · show ¬ (nI M * Int32.ofInt 2 < 0 ∨ 60000000 < (nI M * Int32.ofInt 2).toNatClampNeg)
    rw [e2, e3]
    rintro (z | z)
    · exact nI_pos (by omega) z
    · omega
  show am_R sL sx d 279 (21, [(0, .ref q), (1, .int (nI M))], [.ref (0 + A.1.length)], (A.1 ++ [.inl (.long, (nI M * Int32.ofInt 2).toNatClampNeg, .inr (.inl (fun _ => 0)))], A.2 + (nI M * Int32.ofInt 2).toNatClampNeg)) _
  rw [e2, e3, Nat.zero_add, nI_clamp hM]
  refine am_R_w rp_279 (rf_bk am_t279 13 3) 21 _ _ _ (by repeat (first | exact trivial | refine ⟨rfl, ?_⟩)) (by decide +kernel) ?_
  refine c_Words_copy (z := M * 2) (to := nI M) hs (by omega) (show n ≤ M * 2 by omega) (by omega) hq ha n 0 (fun _ => 0) (by omega) (fun g' _ g2 g3 => ?_)
  refine am_R_w rp_279 (rf_bk am_t279 34 3) 54 _ _ _ (by repeat (first | exact trivial | refine ⟨rfl, ?_⟩)) (by decide +kernel) ?_
  refine ⟨_, am_ob_app hq, ⟨Nat.le_of_ble_eq_true rfl, rfl⟩, ?_⟩
  refine am_R_re (pc := 59) rp_279 rfl rfl rfl ⟨rfl, Or.inr ⟨fun z => z.elim h1 (fun y => absurd h2 (Int32.not_le.mpr y)), g', fun i hi => g2 i (by omega) hi, fun i hi => g3 i hi, rfl⟩⟩
end ADD
