/-! PART 50: two rows (of whole's parts 50 and 55) -/
theorem cf_at_len {A : am_A} {o : Nat} {e : am_E} : (am_up 0 A o e).1.length = A.1.length := by simp [am_up]
theorem cf_sk_irem {a : Nat} {x y : Int32} {st : List Value} (hy : ¬ y = 0) : am_sk .irem a (.int y :: .int x :: st) = some (.int (x - x / y * y) :: st) := by
  simp only [am_sk, am_ii, if_neg hy, Option.map_some]
