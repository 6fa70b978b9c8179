/-! PART 38: the reference: isSame -/
theorem rp_17 : am_prog[17]? = some (am_m17, am_t17) := rfl
theorem rf_add {a k : Nat} : nI a + nI k = nI (a + k) := nI_add a k
set_option maxRecDepth 10000 in
/-- isSame's loop: e is whether all before k are the same -/
theorem r_same_loop {d a b n : Nat} {ol : Int32} {s : rf_S} {Q : Option Value → rf_S → Prop} (ha : a + n ≤ 2000) (hb : b + n ≤ 2000) : ∀ (m k : Nat) (e : Int32), k + m = n → (e = 0 ∨ e = 1) →
    ((e = 1 ∧ ∀ i, k ≤ i → i < n → s.2.2.1 2 (a + i) = s.2.2.1 2 (b + i)) → Q (some (.int 1)) s) → (¬ (e = 1 ∧ ∀ i, k ≤ i → i < n → s.2.2.1 2 (a + i) = s.2.2.1 2 (b + i)) → Q (some (.int 0)) s) →
    rf_R d 17 (16, [(6, .int (nI k)), (5, .int e), (0, .ref rf_o), (1, .int (nI a)), (2, .int (nI n)), (3, .int (nI b)), (4, .int ol)], [], s) Q := by
  have fin : ∀ (k : Nat) (e : Int32), (e = 0 ∨ e = 1) → Q (some (.int e)) s → rf_R d 17 (61, [(6, .int (nI k)), (5, .int e), (0, .ref rf_o), (1, .int (nI a)), (2, .int (nI n)), (3, .int (nI b)), (4, .int ol)], [], s) Q := by
    intro k e he hq
    refine rf_R_w rp_17 (rf_bk am_t17 33 1) 61 _ _ _ ⟨rfl, trivial⟩ (by decide) ?_
    rcases he with rfl | rfl
    · exact rf_R_ret (pc := 63) (v := some (.int 0)) rp_17 rfl rfl rfl hq
    · exact rf_R_ret (pc := 63) (v := some (.int 1)) rp_17 rfl rfl rfl hq
  intro m
  induction m with
  | zero =>
    intro k e hk he h1 h0
    refine rf_R_w rp_17 (rf_bk am_t17 9 3) 16 _ _ _ ⟨rfl, rfl, rfl, trivial⟩ (by decide) ?_
    refine rf_R_if (b := am_cnd .ge (nI k) (nI n)) (p := 61) (q := 22) (fun _ => ?_) (fun h => ?_)
    · refine fin k e he ?_
      rcases he with rfl | rfl
      · exact h0 (fun z => absurd z.1 (by decide))
      · exact h1 ⟨rfl, fun i q1 q2 => absurd q2 (by omega)⟩
    · exact absurd (nI_le (show n ≤ k by omega) (by omega)) (of_decide_eq_false h)
  | succ m ih =>
    intro k e hk he h1 h0
    refine rf_R_w rp_17 (rf_bk am_t17 9 3) 16 _ _ _ ⟨rfl, rfl, rfl, trivial⟩ (by decide) ?_
    refine rf_R_if (b := am_cnd .ge (nI k) (nI n)) (p := 61) (q := 22) (fun h => ?_) (fun _ => ?_)
    · exact absurd (of_decide_eq_true h) (nI_ge (show k < n by omega) (by omega))
    refine rf_R_w rp_17 (rf_bk am_t17 12 2) 22 _ _ _ ⟨rfl, rfl, trivial⟩ (by decide) ?_
    refine rf_R_if (b := am_cnd .eq e 0) (p := 61) (q := 27) (fun h => ?_) (fun h => ?_)
    · have hz : e = 0 := of_decide_eq_true h
      subst hz
      exact fin k 0 he (h0 (fun z => absurd z.1 (by decide)))
    have hz : ¬ e = 0 := of_decide_eq_false h
    obtain rfl : e = 1 := he.resolve_left hz
    refine rf_R_w rp_17 (rf_bk am_t17 14 13) 27 _ _ _ (by repeat (first | exact trivial | refine ⟨rfl, ?_⟩)) (by decide +kernel) ?_
    have ka : (nI a + nI k).toNatClampNeg = a + k := by rw [rf_add]; exact nI_clamp (by omega)
    have kb : (nI b + nI k).toNatClampNeg = b + k := by rw [rf_add]; exact nI_clamp (by omega)
    refine And.intro (show rf_in (nI a + nI k) 2000 by rw [rf_add]; exact nI_in (by omega) (by omega)) (And.intro (show rf_in (nI b + nI k) 2000 by rw [rf_add]; exact nI_in (by omega) (by omega)) ?_)
    refine rf_R_if (b := am_cnd .ne (s.2.2.1 2 (nI a + nI k).toNatClampNeg) (s.2.2.1 2 (nI b + nI k).toNatClampNeg)) (p := 52) (q := 48) (fun h => ?_) (fun h => ?_)
    · rw [ka, kb] at h
      have hne : ¬ s.2.2.1 2 (a + k) = s.2.2.1 2 (b + k) := of_decide_eq_true h
      refine rf_R_w rp_17 (rf_bk am_t17 29 4) 52 _ _ _ ⟨rfl, rfl, rfl, rfl, trivial⟩ (by decide) ?_
      show rf_R d 17 (16, [(6, .int (nI k + Int32.ofInt 1)), (5, .int (Int32.ofInt 0)), (0, .ref rf_o), (1, .int (nI a)), (2, .int (nI n)), (3, .int (nI b)), (4, .int ol)], [], s) Q
      rw [rf_o1, nI_1]
      exact ih (k + 1) 0 (by omega) (Or.inl rfl) (fun z => absurd z.1 (by decide)) (fun _ => h0 (fun z => hne (z.2 k (Nat.le_refl _) (by omega))))
    · rw [ka, kb] at h
      have heq : s.2.2.1 2 (a + k) = s.2.2.1 2 (b + k) := Decidable.not_not.mp (of_decide_eq_false h)
      refine rf_R_w rp_17 (rf_bk am_t17 27 2) 48 _ _ _ ⟨rfl, rfl, trivial⟩ (by decide) ?_
      refine rf_R_w rp_17 (rf_bk am_t17 30 3) 53 _ _ _ ⟨rfl, rfl, rfl, trivial⟩ (by decide) ?_
      show rf_R d 17 (16, [(6, .int (nI k + Int32.ofInt 1)), (5, .int (Int32.ofInt 1)), (0, .ref rf_o), (1, .int (nI a)), (2, .int (nI n)), (3, .int (nI b)), (4, .int ol)], [], s) Q
      rw [rf_o1, nI_1]
      refine ih (k + 1) 1 (by omega) (Or.inr rfl) (fun z => h1 ⟨rfl, fun i q1 q2 => ?_⟩) (fun z => h0 (fun y => z ⟨rfl, fun i q1 q2 => y.2 i (by omega) q2⟩))
      rcases Nat.eq_or_lt_of_le q1 with rfl | q3
      · exact heq
      · exact z.2 i q3 q2
