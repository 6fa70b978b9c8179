/-! PART 34: Bytes.add -/
section LEAF5
variable {sL : Nat} {sx : Nat → Int32}
/-- Bytes.add(b): it remembers when there is no place -/
theorem c_Bytes_add {d q a : Nat} {A : am_A} {x : Nat × (Nat → Int32)} {n o b : Int32} (hq : am_ob 0 A q 3 = some [.ref a, .int n, .int o]) (ha : am_ia 0 A a .byte = some x) (hs : a ≠ 1000000000) (hqa : q ≠ a) (hn : x.1 < 2 ^ 31) :
    am_R sL sx d 122 (0, [(0, .ref q), (1, .int b)], [], A) (fun r A' => r = none ∧ (((n < 0 ∨ Int32.ofNat x.1 ≤ n) ∧ A' = am_up 0 A q (.inr (3, [.ref a, .int n, .int 1]))) ∨ (¬ (n < 0 ∨ Int32.ofNat x.1 ≤ n) ∧ A' = am_up 0 (am_up 0 A a (.inl (.byte, x.1, .inl (upd x.2 n.toNatClampNeg (vp_nar .byte b.toInt8.toInt32))))) q (.inr (3, [.ref a, .int (n + 1), .int o]))))) := by
  have end0 : ∀ lv, lv = [(0, .ref q), (1, .int b)] → (n < 0 ∨ Int32.ofNat x.1 ≤ n) → am_R sL sx d 122 (19, lv, [], A) (fun r A' => r = none ∧ (((n < 0 ∨ Int32.ofNat x.1 ≤ n) ∧ A' = am_up 0 A q (.inr (3, [.ref a, .int n, .int 1]))) ∨ (¬ (n < 0 ∨ Int32.ofNat x.1 ≤ n) ∧ A' = am_up 0 (am_up 0 A a (.inl (.byte, x.1, .inl (upd x.2 n.toNatClampNeg (vp_nar .byte b.toInt8.toInt32))))) q (.inr (3, [.ref a, .int (n + 1), .int o]))))) := by
    intro lv hlv h
    subst hlv
    refine am_R_w rp_122 (rf_bk am_t122 9 3) 19 _ _ _ ⟨rfl, rfl, rfl, trivial⟩ (by decide) ?_
    refine ⟨_, hq, ⟨Nat.le_of_ble_eq_true rfl, rfl⟩, ?_⟩
    show am_R sL sx d 122 (24, [(0, .ref q), (1, .int b)], [], am_up 0 A q (.inr (3, [.ref a, .int n, .int (Int32.ofInt 1)]))) _
    rw [rf_o1]
    exact am_R_re (pc := 24) rp_122 rfl rfl rfl ⟨rfl, Or.inl ⟨h, rfl⟩⟩
  refine am_R_w rp_122 (rf_bk am_t122 0 3) 0 _ _ _ ⟨rfl, rfl, rfl, trivial⟩ (by decide) ?_
  refine ⟨_, hq, _, rfl, ?_⟩
  refine am_R_ifb (b := am_cnd .lt n 0) (p := 19) (q := 7) (fun h => end0 _ rfl (Or.inl (of_decide_eq_true h))) (fun h1 => ?_)
  have g1 : ¬ n < 0 := of_decide_eq_false h1
  refine am_R_w rp_122 (rf_bk am_t122 3 6) 7 _ _ _ (by repeat (first | exact trivial | refine ⟨rfl, ?_⟩)) (by decide +kernel) ?_
  refine ⟨_, hq, _, rfl, _, hq, _, rfl, hs, _, am_al_b ha, ?_⟩
  refine am_R_ifb (b := am_cnd .lt n (Int32.ofNat x.1)) (p := 25) (q := 19) (fun h2 => ?_) (fun h => end0 _ rfl (Or.inr (Int32.not_lt.mp (of_decide_eq_false h))))
  have g2 : n < Int32.ofNat x.1 := of_decide_eq_true h2
  refine am_R_w rp_122 (rf_bk am_t122 13 13) 25 _ _ _ (by repeat (first | exact trivial | refine ⟨rfl, ?_⟩)) (by decide +kernel) ?_
  have hq2 := (am_ob_ne (e := .inl (.byte, x.1, .inl (upd x.2 n.toNatClampNeg (vp_nar .byte b.toInt8.toInt32)))) (ci := 3) (A := A) hqa).trans hq
  refine ⟨_, hq, _, rfl, _, hq, _, rfl, _, ha, rf_in_of g1 g2 hn, _, hq2, _, rfl, _, hq2, ⟨Nat.le_of_ble_eq_true rfl, rfl⟩, ?_⟩
  show am_R sL sx d 122 (46, [(0, .ref q), (1, .int b)], [], am_up 0 (am_up 0 A a (.inl (.byte, x.1, .inl (upd x.2 n.toNatClampNeg (vp_nar .byte b.toInt8.toInt32))))) q (.inr (3, [.ref a, .int (n + Int32.ofInt 1), .int o]))) _
  rw [rf_o1]
  exact am_R_re (pc := 46) rp_122 rfl rfl rfl ⟨rfl, Or.inr ⟨fun z => z.elim g1 (fun y => absurd g2 (Int32.not_lt.mpr y)), rfl⟩⟩
end LEAF5
