/-! PART 31: leaves of the class: Words.set, Word, Bytes -/
set_option maxRecDepth 20000 in
theorem rp_275 : am_prog[275]? = some (am_m275, am_t275) := rfl
set_option maxRecDepth 20000 in
theorem rp_276 : am_prog[276]? = some (am_m276, am_t276) := rfl
set_option maxRecDepth 20000 in
theorem rp_277 : am_prog[277]? = some (am_m277, am_t277) := rfl
set_option maxRecDepth 20000 in
theorem rp_118 : am_prog[118]? = some (am_m118, am_t118) := rfl
set_option maxRecDepth 20000 in
theorem rp_119 : am_prog[119]? = some (am_m119, am_t119) := rfl
set_option maxRecDepth 20000 in
theorem rp_120 : am_prog[120]? = some (am_m120, am_t120) := rfl
section LEAF2
variable {sL : Nat} {sx : Nat → Int32}
/-- Words.set(i, w): nothing outside -/
theorem c_Words_set {d q a : Nat} {A : am_A} {x : Nat × (Nat → Int64)} {i : Int32} {v : Int64} (hq : am_ob 0 A q 11 = some [.ref a]) (ha : am_la 0 A a = some x) (hs : a ≠ 1000000000) (hn : x.1 < 2 ^ 31) :
    am_R sL sx d 281 (0, [(0, .ref q), (1, .int i), (2, .long v)], [], A) (fun r A' => r = none ∧ (((i < 0 ∨ Int32.ofNat x.1 ≤ i) ∧ A' = A) ∨ (¬ (i < 0 ∨ Int32.ofNat x.1 ≤ i) ∧ A' = am_up 0 A a (.inl (.long, x.1, .inr (.inl (vp_updL x.2 i.toNatClampNeg v))))))) := by
  have end0 : ∀ lv, (i < 0 ∨ Int32.ofNat x.1 ≤ i) → am_R sL sx d 281 (20, lv, [], A) (fun r A' => r = none ∧ (((i < 0 ∨ Int32.ofNat x.1 ≤ i) ∧ A' = A) ∨ (¬ (i < 0 ∨ Int32.ofNat x.1 ≤ i) ∧ A' = am_up 0 A a (.inl (.long, x.1, .inr (.inl (vp_updL x.2 i.toNatClampNeg v))))))) := by
    intro lv h
    exact am_R_re (pc := 20) rp_281 rfl rfl rfl ⟨rfl, Or.inl ⟨h, rfl⟩⟩
  refine am_R_w rp_281 (rf_bk am_t281 0 2) 0 _ _ _ ⟨rfl, rfl, trivial⟩ (by decide) ?_
  refine am_R_ifb (b := am_cnd .lt i 0) (p := 20) (q := 4) (fun h => end0 _ (Or.inl (of_decide_eq_true h))) (fun h => ?_)
  have h0 : ¬ i < 0 := of_decide_eq_false h
  refine am_R_w rp_281 (rf_bk am_t281 2 5) 4 _ _ _ (by repeat (first | exact trivial | refine ⟨rfl, ?_⟩)) (by decide +kernel) ?_
  refine ⟨_, hq, _, rfl, hs, _, am_al_la ha, ?_⟩
  refine am_R_ifb (b := am_cnd .ge i (Int32.ofNat x.1)) (p := 20) (q := 13) (fun h => end0 _ (Or.inr (of_decide_eq_true h))) (fun h1 => ?_)
  have h2 : ¬ Int32.ofNat x.1 ≤ i := of_decide_eq_false h1
  refine am_R_w rp_281 (rf_bk am_t281 7 5) 13 _ _ _ (by repeat (first | exact trivial | refine ⟨rfl, ?_⟩)) (by decide +kernel) ?_
  refine ⟨_, hq, _, rfl, _, ha, rf_in_of h0 (Int32.not_le.mp h2) hn, ?_⟩
  exact am_R_re (pc := 20) rp_281 rfl rfl rfl ⟨rfl, Or.inr ⟨fun z => z.elim h0 h2, rfl⟩⟩
/-- Word.of, tag, value: as the reference's wordOf, isOf -/
theorem c_Word_of {d : Nat} {A : am_A} {t v : Int32} : am_R sL sx d 275 (0, [(0, .int t), (1, .int v)], [], A) (fun r A' => A' = A ∧ r = some (.long (rf_word t v))) := by
  refine am_R_w rp_275 (rf_bk am_t275 0 9) 0 _ _ _ (by repeat (first | exact trivial | refine ⟨rfl, ?_⟩)) (by decide +kernel) ?_
  exact am_R_re (pc := 12) rp_275 rfl rfl rfl ⟨rfl, rfl⟩
theorem c_Word_tag {d : Nat} {A : am_A} {w : Int64} : am_R sL sx d 276 (0, [(0, .long w)], [], A) (fun r A' => A' = A ∧ r = some (.int (rf_isOf w))) := by
  refine am_R_w rp_276 (rf_bk am_t276 0 4) 0 _ _ _ (by repeat (first | exact trivial | refine ⟨rfl, ?_⟩)) (by decide +kernel) ?_
  exact am_R_re (pc := 5) rp_276 rfl rfl rfl ⟨rfl, rfl⟩
theorem c_Word_value {d : Nat} {A : am_A} {w : Int64} : am_R sL sx d 277 (0, [(0, .long w)], [], A) (fun r A' => A' = A ∧ r = some (.int w.toInt32)) := by
  refine am_R_w rp_277 (rf_bk am_t277 0 2) 0 _ _ _ ⟨rfl, rfl, trivial⟩ (by decide) ?_
  exact am_R_re (pc := 2) rp_277 rfl rfl rfl ⟨rfl, rfl⟩
/-- Bytes.length(), isOver() -/
theorem c_Bytes_length {d q : Nat} {A : am_A} {v o : Value} {n : Int32} (hq : am_ob 0 A q 3 = some [v, .int n, o]) : am_R sL sx d 118 (0, [(0, .ref q)], [], A) (fun r A' => A' = A ∧ r = some (.int n)) := by
  refine am_R_w rp_118 (rf_bk am_t118 0 2) 0 _ _ _ ⟨rfl, rfl, trivial⟩ (by decide) ?_
  refine ⟨_, hq, _, rfl, ?_⟩
  exact am_R_re (pc := 4) rp_118 rfl rfl rfl ⟨rfl, rfl⟩
theorem c_Bytes_isOver {d q : Nat} {A : am_A} {v n : Value} {o : Int32} (ho : o = 0 ∨ o = 1) (hq : am_ob 0 A q 3 = some [v, n, .int o]) : am_R sL sx d 119 (0, [(0, .ref q)], [], A) (fun r A' => A' = A ∧ r = some (.int o)) := by
  refine am_R_w rp_119 (rf_bk am_t119 0 2) 0 _ _ _ ⟨rfl, rfl, trivial⟩ (by decide) ?_
  refine ⟨_, hq, _, rfl, ?_⟩
  rcases ho with rfl | rfl
  · exact am_R_re (pc := 4) rp_119 rfl rfl rfl ⟨rfl, rfl⟩
  · exact am_R_re (pc := 4) rp_119 rfl rfl rfl ⟨rfl, rfl⟩
theorem am_al_b {A : am_A} {q : Nat} {x : Nat × (Nat → Int32)} (h : am_ia 0 A q .byte = some x) : am_al 0 A q = some x.1 := by
  unfold am_al
  rw [am_ia_inv h]
  rfl
theorem rf_om1 : Int32.ofInt (-1) = -1 := by decide
end LEAF2
