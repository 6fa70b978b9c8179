/-! PART 32: Bytes.at -/
section LEAF3
variable {sL : Nat} {sx : Nat → Int32}
/-- Bytes.at(i): -1 outside -/
def by_out (n : Int32) (m : Nat) (i : Int32) : Prop := i < 0 ∨ n ≤ i ∨ Int32.ofNat m ≤ i
theorem c_Bytes_at {d q a : Nat} {A : am_A} {x : Nat × (Nat → Int32)} {n i : Int32} {o : Value} (hq : am_ob 0 A q 3 = some [.ref a, .int n, o]) (ha : am_ia 0 A a .byte = some x) (hs : a ≠ 1000000000) (hn : x.1 < 2 ^ 31) :
    am_R sL sx d 120 (0, [(0, .ref q), (1, .int i)], [], A) (fun r A' => A' = A ∧ ((by_out n x.1 i ∧ r = some (.int (-1))) ∨ (¬ by_out n x.1 i ∧ r = some (.int (x.2 i.toNatClampNeg &&& 255))))) := by
  have end0 : ∀ lv, by_out n x.1 i → am_R sL sx d 120 (21, lv, [], A) (fun r A' => A' = A ∧ ((by_out n x.1 i ∧ r = some (.int (-1))) ∨ (¬ by_out n x.1 i ∧ r = some (.int (x.2 i.toNatClampNeg &&& 255))))) := by
    intro lv h
    refine am_R_w rp_120 (rf_bk am_t120 11 2) 21 _ _ _ ⟨rfl, rfl, trivial⟩ (by decide) ?_
    show am_R sL sx d 120 (35, lv, [.int (Int32.ofInt (-1))], A) _
    rw [rf_om1]
    exact am_R_re (pc := 35) (v := some (.int (-1))) rp_120 rfl rfl rfl ⟨rfl, Or.inl ⟨h, rfl⟩⟩
  refine am_R_w rp_120 (rf_bk am_t120 0 2) 0 _ _ _ ⟨rfl, rfl, trivial⟩ (by decide) ?_
  refine am_R_ifb (b := am_cnd .lt i 0) (p := 21) (q := 4) (fun h => end0 _ (Or.inl (of_decide_eq_true h))) (fun h1 => ?_)
  have g1 : ¬ i < 0 := of_decide_eq_false h1
  refine am_R_w rp_120 (rf_bk am_t120 2 4) 4 _ _ _ (by repeat (first | exact trivial | refine ⟨rfl, ?_⟩)) (by decide +kernel) ?_
  refine ⟨_, hq, _, rfl, ?_⟩
  refine am_R_ifb (b := am_cnd .ge i n) (p := 21) (q := 12) (fun h => end0 _ (Or.inr (Or.inl (of_decide_eq_true h)))) (fun h2 => ?_)
  have g2 : ¬ n ≤ i := of_decide_eq_false h2
  refine am_R_w rp_120 (rf_bk am_t120 6 5) 12 _ _ _ (by repeat (first | exact trivial | refine ⟨rfl, ?_⟩)) (by decide +kernel) ?_
  refine ⟨_, hq, _, rfl, hs, _, am_al_b ha, ?_⟩
  refine am_R_ifb (b := am_cnd .lt i (Int32.ofNat x.1)) (p := 25) (q := 21) (fun h3 => ?_) (fun h => end0 _ (Or.inr (Or.inr (Int32.not_lt.mp (of_decide_eq_false h)))))
  have g3 : i < Int32.ofNat x.1 := of_decide_eq_true h3
  refine am_R_w rp_120 (rf_bk am_t120 13 6) 25 _ _ _ (by repeat (first | exact trivial | refine ⟨rfl, ?_⟩)) (by decide +kernel) ?_
  refine ⟨_, hq, _, rfl, _, ha, rf_in_of g1 g3 hn, ?_⟩
  have e255 : (Int16.ofInt 255).toInt32 = 255 := by decide
  show am_R sL sx d 120 (35, [(0, .ref q), (1, .int i)], [.int (x.2 i.toNatClampNeg &&& (Int16.ofInt 255).toInt32)], A) _
  rw [e255]
  refine am_R_re (pc := 35) (v := some (.int (x.2 i.toNatClampNeg &&& 255))) rp_120 rfl rfl rfl ⟨rfl, Or.inr ⟨?_, rfl⟩⟩
  rintro (z | z | z)
  · exact g1 z
  · exact g2 z
  · exact absurd g3 (Int32.not_lt.mpr z)
end LEAF3
