/-! PART 77: feed on fresh objects -/
section P1F
variable {L : Nat} {xs : Nat → Int32}
/-- the class's tape has n bytes -/
def fd_t (A : am_A) (n : Nat) : Prop := ∃ (f : Nat → Int32) (o : Int32), am_ob 0 A 1 3 = some [.ref 2, .int (nI n), .int o] ∧ am_ia 0 A 2 .byte = some (2000, f)
/-- nothing but the tape has changed -/
def fd_p (A A' : am_A) : Prop := A'.1.length = A.1.length ∧ A'.2 = A.2 ∧ ∀ q, q ≠ 1 → q ≠ 2 → am_at 0 A' q = am_at 0 A q
theorem fd_p.rf {A : am_A} : fd_p A A := ⟨rfl, rfl, fun _ _ _ => rfl⟩
theorem fd_p.tr {A B C : am_A} (h : fd_p A B) (g : fd_p B C) : fd_p A C := ⟨g.1.trans h.1, g.2.1.trans h.2.1, fun q h1 h2 => (g.2.2 q h1 h2).trans (h.2.2 q h1 h2)⟩
theorem fd_p.ob {A A' : am_A} {q ci : Nat} (h : fd_p A A') (h1 : q ≠ 1) (h2 : q ≠ 2) : am_ob 0 A' q ci = am_ob 0 A q ci := by
  unfold am_ob
  rw [h.2.2 q h1 h2]
theorem fd_p.ia {A A' : am_A} {q : Nat} {ty : FieldType} (h : fd_p A A') (h1 : q ≠ 1) (h2 : q ≠ 2) : am_ia 0 A' q ty = am_ia 0 A q ty := by
  unfold am_ia
  rw [h.2.2 q h1 h2]
theorem fd_add {d n : Nat} {b : Int32} {A : am_A} (h : fd_t A n) (hn : n < 2000) : am_R L xs d 122 (0, [(0, .ref 1), (1, .int b)], [], A) (fun r A' => r = none ∧ fd_t A' (n + 1) ∧ fd_p A A') := by
  obtain ⟨f, o, h1, h2⟩ := h
  refine am_R_imp (c_Bytes_add (b := b) h1 h2 (by decide) (by decide) (by show 2000 < 2 ^ 31; decide)) (fun r A' e => ⟨e.1, ?_⟩)
  rcases e.2 with ⟨z, _⟩ | ⟨z, e⟩
  · rcases z with z | z
    · exact absurd z (nI_pos (by omega))
    · exact absurd z (nI_ge (a := n) (b := 2000) hn (by decide))
  · rw [e, nI_1]
    have g1 : am_ob 0 (am_up 0 A 2 (.inl (.byte, 2000, .inl (upd f (nI n).toNatClampNeg (vp_nar .byte b.toInt8.toInt32))))) 1 3 = some [.ref 2, .int (nI n), .int o] := (am_ob_ne (by decide)).trans h1
    refine ⟨⟨_, o, am_ob_self g1, (am_ia_ne (by decide)).trans (am_ia_self (am_ia_inv h2))⟩, by rw [cf_at_len, cf_at_len], rfl, fun q q1 q2 => ?_⟩
    rw [rf_at_up q1, rf_at_up q2]
theorem fd_rc {A : am_A} {n i : Nat} {vs : List Value} (h : fd_t A n) : am_rc 0 (.invokevirtual i) A (.ref 1 :: vs) 3 = true := by
  obtain ⟨f, o, h1, h2⟩ := h
  unfold am_rc
  dsimp only
  rw [h1]
  rfl
theorem fd_four {d n : Nat} {b : Int32} {A : am_A} (h : fd_t A n) (hn : n + 4 ≤ 2000) : am_R L xs (d + 1) 123 (0, [(0, .ref 1), (1, .int b)], [], A) (fun r A' => r = none ∧ fd_t A' (n + 4) ∧ fd_p A A') := by
  refine am_R_w rp_123 (rf_bk am_t123 0 4) 0 _ _ _ (by repeat (first | exact trivial | refine ⟨rfl, ?_⟩)) (by decide +kernel) ?_
  refine am_R_call (pc := 5) (q := ([.ref 1, .int (b >>> ((Int8.ofInt 24).toInt32 &&& 31))], [])) rp_123 rfl rfl (by decide) rp_122 rfl (Nat.le_of_ble_eq_true rfl) ⟨fd_rc h, Nat.le_of_ble_eq_true rfl⟩ (fd_add h (by omega)) (fun v A1 e => ?_)
  obtain ⟨rfl, t1, p1⟩ := e
  refine am_R_w rp_123 (rf_bk am_t123 5 4) 8 _ _ _ (by repeat (first | exact trivial | refine ⟨rfl, ?_⟩)) (by decide +kernel) ?_
  refine am_R_call (pc := 13) (q := ([.ref 1, .int (b >>> ((Int8.ofInt 16).toInt32 &&& 31))], [])) rp_123 rfl rfl (by decide) rp_122 rfl (Nat.le_of_ble_eq_true rfl) ⟨fd_rc t1, Nat.le_of_ble_eq_true rfl⟩ (fd_add t1 (by omega)) (fun v A2 e => ?_)
  obtain ⟨rfl, t2, p2⟩ := e
  refine am_R_w rp_123 (rf_bk am_t123 10 4) 16 _ _ _ (by repeat (first | exact trivial | refine ⟨rfl, ?_⟩)) (by decide +kernel) ?_
  refine am_R_call (pc := 21) (q := ([.ref 1, .int (b >>> ((Int8.ofInt 8).toInt32 &&& 31))], [])) rp_123 rfl rfl (by decide) rp_122 rfl (Nat.le_of_ble_eq_true rfl) ⟨fd_rc t2, Nat.le_of_ble_eq_true rfl⟩ (fd_add t2 (by omega)) (fun v A3 e => ?_)
  obtain ⟨rfl, t3, p3⟩ := e
  refine am_R_w rp_123 (rf_bk am_t123 15 2) 24 _ _ _ ⟨rfl, rfl, trivial⟩ (by decide) ?_
  refine am_R_call (pc := 26) (q := ([.ref 1, .int b], [])) rp_123 rfl rfl (by decide) rp_122 rfl (Nat.le_of_ble_eq_true rfl) ⟨fd_rc t3, Nat.le_of_ble_eq_true rfl⟩ (fd_add t3 (by omega)) (fun v A4 e => ?_)
  obtain ⟨rfl, t4, p4⟩ := e
  exact am_R_re (pc := 29) rp_123 rfl rfl rfl ⟨rfl, t4, p1.tr (p2.tr (p3.tr p4))⟩
/-- the class's feed -/
theorem fd_class {d : Nat} {x1 x2 x3 x4 x5 : Int32} {A : am_A} (ho : am_ob 0 A 0 1 = some [.ref 1, .ref 3, .ref 22, .ref 24, .ref 25, .int 0, .int 2000]) (h : fd_t A 0) : am_R L xs (d + 1 + 1) 98 (0, [(0, .ref 0), (1, .int x1), (2, .int x2), (3, .int x3), (4, .int x4), (5, .int x5)], [], A) (fun r A' => r = some (.int (nI 20)) ∧ fd_p A A') := by
  have len : ∀ (B : am_A) (n : Nat), fd_t B n → am_R L xs (d + 1) 118 (0, [(0, .ref 1)], [], B) (fun r A' => A' = B ∧ r = some (.int (nI n))) := by
    intro B n hB
    obtain ⟨f, o, h1, h2⟩ := hB
    exact c_Bytes_length h1
  have o0 : ∀ B, fd_p A B → am_ob 0 B 0 1 = some [.ref 1, .ref 3, .ref 22, .ref 24, .ref 25, .int 0, .int 2000] := fun B hB => (hB.ob (by decide) (by decide)).trans ho
  refine am_R_w rp_98 (rf_bk am_t98 0 2) 0 _ _ _ ⟨rfl, rfl, trivial⟩ (by decide) ?_
  refine ⟨_, ho, _, rfl, ?_⟩
  refine am_R_call (pc := 4) (q := ([.ref 1], [])) rp_98 rfl rfl (by decide) rp_118 rfl (Nat.le_of_ble_eq_true rfl) ⟨fd_rc h, Nat.le_of_ble_eq_true rfl⟩ (len A 0 h) (fun v B e => ?_)
  obtain ⟨eB, rfl⟩ := e
  rw [eB]
  clear eB
  refine am_R_w rp_98 (rf_bk am_t98 3 2) 7 _ _ _ ⟨rfl, rfl, trivial⟩ (by decide) ?_
  refine am_R_ifb (b := am_cnd .le (nI 0) (Int16.ofInt 1980).toInt32) (p := 15) (q := 13) (fun _ => ?_) (fun z => absurd z (by decide))
  refine am_R_w rp_98 (rf_bk am_t98 7 3) 15 _ _ _ (by repeat (first | exact trivial | refine ⟨rfl, ?_⟩)) (by decide +kernel) ?_
  refine ⟨_, ho, _, rfl, ?_⟩
  refine am_R_call (pc := 20) (q := ([.ref 1, .int x1], [])) rp_98 rfl rfl (by decide) rp_123 rfl (Nat.le_of_ble_eq_true rfl) ⟨fd_rc h, Nat.le_of_ble_eq_true rfl⟩ (fd_four h (by decide)) (fun v A1 e => ?_)
  obtain ⟨rfl, t1, p1⟩ := e
  refine am_R_w rp_98 (rf_bk am_t98 11 3) 23 _ _ _ (by repeat (first | exact trivial | refine ⟨rfl, ?_⟩)) (by decide +kernel) ?_
  refine ⟨_, o0 A1 p1, _, rfl, ?_⟩
  refine am_R_call (pc := 28) (q := ([.ref 1, .int x2], [])) rp_98 rfl rfl (by decide) rp_123 rfl (Nat.le_of_ble_eq_true rfl) ⟨fd_rc t1, Nat.le_of_ble_eq_true rfl⟩ (fd_four t1 (by decide)) (fun v A2 e => ?_)
  obtain ⟨rfl, t2, p2⟩ := e
  have p2 := p1.tr p2
  refine am_R_w rp_98 (rf_bk am_t98 15 3) 31 _ _ _ (by repeat (first | exact trivial | refine ⟨rfl, ?_⟩)) (by decide +kernel) ?_
  refine ⟨_, o0 A2 p2, _, rfl, ?_⟩
  refine am_R_call (pc := 36) (q := ([.ref 1, .int x3], [])) rp_98 rfl rfl (by decide) rp_123 rfl (Nat.le_of_ble_eq_true rfl) ⟨fd_rc t2, Nat.le_of_ble_eq_true rfl⟩ (fd_four t2 (by decide)) (fun v A3 e => ?_)
  obtain ⟨rfl, t3, p3⟩ := e
  have p3 := p2.tr p3
  refine am_R_w rp_98 (rf_bk am_t98 19 3) 39 _ _ _ (by repeat (first | exact trivial | refine ⟨rfl, ?_⟩)) (by decide +kernel) ?_
  refine ⟨_, o0 A3 p3, _, rfl, ?_⟩
  refine am_R_call (pc := 45) (q := ([.ref 1, .int x4], [])) rp_98 rfl rfl (by decide) rp_123 rfl (Nat.le_of_ble_eq_true rfl) ⟨fd_rc t3, Nat.le_of_ble_eq_true rfl⟩ (fd_four t3 (by decide)) (fun v A4 e => ?_)
  obtain ⟨rfl, t4, p4⟩ := e
  have p4 := p3.tr p4
  refine am_R_w rp_98 (rf_bk am_t98 23 3) 48 _ _ _ (by repeat (first | exact trivial | refine ⟨rfl, ?_⟩)) (by decide +kernel) ?_
  refine ⟨_, o0 A4 p4, _, rfl, ?_⟩
  refine am_R_call (pc := 54) (q := ([.ref 1, .int x5], [])) rp_98 rfl rfl (by decide) rp_123 rfl (Nat.le_of_ble_eq_true rfl) ⟨fd_rc t4, Nat.le_of_ble_eq_true rfl⟩ (fd_four t4 (by decide)) (fun v A5 e => ?_)
  obtain ⟨rfl, t5, p5⟩ := e
  have p5 := p4.tr p5
  refine am_R_w rp_98 (rf_bk am_t98 27 2) 57 _ _ _ ⟨rfl, rfl, trivial⟩ (by decide) ?_
  refine ⟨_, o0 A5 p5, _, rfl, ?_⟩
  refine am_R_call (pc := 61) (q := ([.ref 1], [])) rp_98 rfl rfl (by decide) rp_118 rfl (Nat.le_of_ble_eq_true rfl) ⟨fd_rc t5, Nat.le_of_ble_eq_true rfl⟩ (len A5 20 t5) (fun v B e => ?_)
  obtain ⟨eB, rfl⟩ := e
  rw [eB]
  clear eB
  exact am_R_re (pc := 64) (v := some (.int (nI 20))) rp_98 rfl rfl rfl ⟨rfl, p5⟩
/-- the reference's tape has n bytes -/
def fd_r (A : am_A) (n : Nat) : Prop := ∃ (fs : List Value) (f : Nat → Int32), am_ob 0 A 40 0 = some fs ∧ fs[0]? = some (.ref 41) ∧ fs[1]? = some (.int (nI n)) ∧ fs.length = 84 ∧ am_ia 0 A 41 .int = some (2000, f)
theorem am_R_sk {d k pc a b cI l : Nat} {lv : am_L} {st st' : List Value} {A : am_A} {M : am_T} {t : List (Nat × am_I)} {Q : Option Value → am_A → Prop} {ins : Instr} {sw : List (Int32 × Nat)} (hk : am_prog[k]? = some (M, t)) (hI : am_look t pc = some (ins, l, a, b, cI, sw)) (hkd : am_kd ins sw = 0) (hv : am_sk ins a st = some st') (h : am_R L xs d k (pc + l, lv, st', A) Q) : am_R L xs d k (pc, lv, st, A) Q := by
  refine am_R_nx hk (c' := (pc + l, lv, st', A)) ?_ h
  simp only [am_nx, hI, Option.bind_some, hkd, hv, Option.map_some]
theorem fd_body {d k : Nat} {x1 x2 x3 x4 x5 v : Int32} {A : am_A} {Q : Option Value → am_A → Prop} (hk : k < 20) (h : fd_r A k) (K : ∀ B, fd_r B (k + 1) → B.1.length = A.1.length → B.2 = A.2 → am_R L xs d 88 (18, [(0, .ref 40), (1, .int x1), (2, .int x2), (3, .int x3), (4, .int x4), (5, .int x5), (6, .int (nI (k + 1)))], [], B) Q) : am_R L xs d 88 (71, [(0, .ref 40), (1, .int x1), (2, .int x2), (3, .int x3), (4, .int x4), (5, .int x5), (6, .int (nI k))], [.int v], A) Q := by
  obtain ⟨fs, f, h1, h2, h3, h4, h5⟩ := id h
  refine am_R_w rp_88 (rf_bk am_t88 34 10) 71 _ _ _ (by repeat (first | exact trivial | refine ⟨rfl, ?_⟩)) (by decide +kernel) ?_
  refine ⟨_, h1, _, h2, _, h1, _, h3, ?_⟩
  refine am_R_sk (pc := 90) (st' := [.int (nI k - nI k / Int32.ofInt 4 * Int32.ofInt 4), .int (Int8.ofInt 8).toInt32, .int (Int8.ofInt 24).toInt32, .int v, .int (nI k), .ref 41]) rp_88 rfl rfl (cf_sk_irem (by decide)) ?_
  generalize nI k - nI k / Int32.ofInt 4 * Int32.ofInt 4 = u
  refine am_R_w rp_88 (rf_bk am_t88 45 6) 91 [(7, .int v), (0, .ref 40), (1, .int x1), (2, .int x2), (3, .int x3), (4, .int x4), (5, .int x5), (6, .int (nI k))] _ _ (by repeat (first | exact trivial | refine ⟨rfl, ?_⟩)) (by decide +kernel) ?_
  refine ⟨_, h5, nI_in (by show k < 2000; omega) (by show 2000 < 2 ^ 31; decide), ?_⟩
  show am_R L xs d 88 (99, [(7, .int v), (0, .ref 40), (1, .int x1), (2, .int x2), (3, .int x3), (4, .int x4), (5, .int x5), (6, .int (nI k))], [], am_up 0 A 41 (.inl (.int, 2000, .inl (upd f (nI k).toNatClampNeg (v >>> (((Int8.ofInt 24).toInt32 - (Int8.ofInt 8).toInt32 * u) &&& 31) &&& (Int16.ofInt 255).toInt32))))) Q
  generalize (v >>> (((Int8.ofInt 24).toInt32 - (Int8.ofInt 8).toInt32 * u) &&& 31) &&& (Int16.ofInt 255).toInt32) = w
  have g1 : am_ob 0 (am_up 0 A 41 (.inl (.int, 2000, .inl (upd f (nI k).toNatClampNeg w)))) 40 0 = some fs := (am_ob_ne (by decide)).trans h1
  have g5 := am_ia_self (n := 2000) (ty := .int) (f := upd f (nI k).toNatClampNeg w) (am_ia_inv h5)
  have gl := cf_at_len (A := A) (o := 41) (e := .inl (.int, 2000, .inl (upd f (nI k).toNatClampNeg w)))
  have gz : (am_up 0 A 41 (.inl (.int, 2000, .inl (upd f (nI k).toNatClampNeg w)))).2 = A.2 := rfl
  generalize am_up 0 A 41 (.inl (.int, 2000, .inl (upd f (nI k).toNatClampNeg w))) = B at *
  refine am_R_w rp_88 (rf_bk am_t88 51 6) 99 _ _ _ (by repeat (first | exact trivial | refine ⟨rfl, ?_⟩)) (by decide +kernel) ?_
  refine ⟨_, g1, _, h3, _, g1, ⟨by rw [h4]; decide, rfl⟩, ?_⟩
  refine am_R_w rp_88 (rf_bk am_t88 57 2) 109 _ _ _ (by repeat (first | exact trivial | refine ⟨rfl, ?_⟩)) (by decide +kernel) ?_
  refine am_R_le (l := [(0, .ref 40), (1, .int x1), (2, .int x2), (3, .int x3), (4, .int x4), (5, .int x5), (6, .int (nI k + Int32.ofInt 1))]) rfl rfl ⟨rfl, rfl, rfl, rfl, rfl, rfl, rfl, trivial⟩ ?_
  show am_R L xs d 88 (18, [(0, .ref 40), (1, .int x1), (2, .int x2), (3, .int x3), (4, .int x4), (5, .int x5), (6, .int (nI k + Int32.ofInt 1))], [], am_up 0 B 40 (.inr (0, fs.set 1 (.int (nI k + Int32.ofInt 1))))) Q
  rw [rc_i1, nI_1]
  refine K _ ⟨fs.set 1 (.int (nI (k + 1))), _, am_ob_self g1, ?_, ?_, by rw [List.length_set]; exact h4, (am_ia_ne (by decide)).trans g5⟩ (by rw [cf_at_len, gl]) gz
  · rw [List.getElem?_set_ne (by decide)]; exact h2
  · rw [List.getElem?_set_self (by rw [h4]; decide)]
theorem fd_loop {d : Nat} {x1 x2 x3 x4 x5 : Int32} {Q : Option Value → am_A → Prop} : ∀ (m k : Nat) (A : am_A), k + m = 20 → fd_r A k → (∀ A', fd_r A' 20 → A'.1.length = A.1.length → A'.2 = A.2 → Q (some (.int (nI 20))) A') →
    am_R L xs d 88 (18, [(0, .ref 40), (1, .int x1), (2, .int x2), (3, .int x3), (4, .int x4), (5, .int x5), (6, .int (nI k))], [], A) Q := by
  intro m
  induction m with
  | zero =>
    intro k A hk h K
    obtain rfl : k = 20 := by omega
    obtain ⟨fs, f, h1, h2, h3, h4, h5⟩ := id h
    refine am_R_w rp_88 (rf_bk am_t88 10 3) 18 _ _ _ (by repeat (first | exact trivial | refine ⟨rfl, ?_⟩)) (by decide +kernel) ?_
    refine am_R_ifb (b := am_cnd .ge (nI 20) (Int8.ofInt 20).toInt32) (p := 115) (q := 25) (fun _ => ?_) (fun z => absurd z (by decide))
    refine am_R_w rp_88 (rf_bk am_t88 59 2) 115 _ _ _ ⟨rfl, rfl, trivial⟩ (by decide) ?_
    refine ⟨_, h1, _, h3, ?_⟩
    exact am_R_re (pc := 119) (v := some (.int (nI 20))) rp_88 rfl rfl rfl (K A h rfl rfl)
  | succ m ih =>
    intro k A hk h K
    obtain ⟨fs, f, h1, h2, h3, h4, h5⟩ := id h
    have body : ∀ v : Int32, am_R L xs d 88 (71, [(0, .ref 40), (1, .int x1), (2, .int x2), (3, .int x3), (4, .int x4), (5, .int x5), (6, .int (nI k))], [.int v], A) Q := fun v => fd_body (by omega) h (fun B b1 b2 b3 => ih (k + 1) B (by omega) b1 (fun A' r1 r2 r3 => K A' r1 (r2.trans b2) (r3.trans b3)))
    refine am_R_w rp_88 (rf_bk am_t88 10 3) 18 _ _ _ (by repeat (first | exact trivial | refine ⟨rfl, ?_⟩)) (by decide +kernel) ?_
    have e20 : (Int8.ofInt 20).toInt32 = nI 20 := by decide
    refine am_R_ifb (b := am_cnd .ge (nI k) (Int8.ofInt 20).toInt32) (p := 115) (q := 25) (fun z => absurd (of_decide_eq_true z) (by rw [e20]; exact nI_ge (by omega) (by decide))) (fun _ => ?_)
    refine am_R_w rp_88 (rf_bk am_t88 13 3) 25 _ _ _ (by repeat (first | exact trivial | refine ⟨rfl, ?_⟩)) (by decide +kernel) ?_
    refine am_R_ifb (b := am_cnd .ge (nI k) (Int32.ofInt 4)) (p := 35) (q := 31) (fun _ => ?_) (fun _ => ?_)
    rotate_left
    · refine am_R_w rp_88 (rf_bk am_t88 16 2) 31 _ _ _ ⟨rfl, rfl, trivial⟩ (by decide) ?_
      exact body x1
    refine am_R_w rp_88 (rf_bk am_t88 18 3) 35 _ _ _ (by repeat (first | exact trivial | refine ⟨rfl, ?_⟩)) (by decide +kernel) ?_
    refine am_R_ifb (b := am_cnd .ge (nI k) (Int8.ofInt 8).toInt32) (p := 46) (q := 42) (fun _ => ?_) (fun _ => ?_)
    rotate_left
    · refine am_R_w rp_88 (rf_bk am_t88 21 2) 42 _ _ _ ⟨rfl, rfl, trivial⟩ (by decide) ?_
      exact body x2
    refine am_R_w rp_88 (rf_bk am_t88 23 3) 46 _ _ _ (by repeat (first | exact trivial | refine ⟨rfl, ?_⟩)) (by decide +kernel) ?_
    refine am_R_ifb (b := am_cnd .ge (nI k) (Int8.ofInt 12).toInt32) (p := 57) (q := 53) (fun _ => ?_) (fun _ => ?_)
    rotate_left
    · refine am_R_w rp_88 (rf_bk am_t88 26 2) 53 _ _ _ ⟨rfl, rfl, trivial⟩ (by decide) ?_
      exact body x3
    refine am_R_w rp_88 (rf_bk am_t88 28 3) 57 _ _ _ (by repeat (first | exact trivial | refine ⟨rfl, ?_⟩)) (by decide +kernel) ?_
    refine am_R_ifb (b := am_cnd .ge (nI k) (Int8.ofInt 16).toInt32) (p := 69) (q := 64) (fun _ => ?_) (fun _ => ?_)
    · refine am_R_w rp_88 (rf_bk am_t88 33 1) 69 _ _ _ ⟨rfl, trivial⟩ (by decide) ?_
      exact body x5
    · refine am_R_w rp_88 (rf_bk am_t88 31 2) 64 _ _ _ ⟨rfl, rfl, trivial⟩ (by decide) ?_
      exact body x4
theorem fd_ref {d : Nat} {x1 x2 x3 x4 x5 : Int32} {A : am_A} (h : fd_r A 0) : am_R L xs d 88 (0, [(0, .ref 40), (1, .int x1), (2, .int x2), (3, .int x3), (4, .int x4), (5, .int x5)], [], A) (fun r A' => r = some (.int (nI 20)) ∧ A'.1.length = A.1.length ∧ A'.2 = A.2) := by
  obtain ⟨fs, f, h1, h2, h3, h4, h5⟩ := id h
  refine am_R_w rp_88 (rf_bk am_t88 0 6) 0 _ _ _ (by repeat (first | exact trivial | refine ⟨rfl, ?_⟩)) (by decide +kernel) ?_
  refine ⟨_, h1, _, h3, ?_⟩
  refine am_R_ifb (b := am_cnd .le (nI 0 + (Int8.ofInt 20).toInt32) (Int16.ofInt 2000).toInt32) (p := 15) (q := 13) (fun _ => ?_) (fun z => absurd z (by decide))
  refine am_R_w rp_88 (rf_bk am_t88 8 2) 15 _ _ _ ⟨rfl, rfl, trivial⟩ (by decide) ?_
  refine am_R_le (l := [(0, .ref 40), (1, .int x1), (2, .int x2), (3, .int x3), (4, .int x4), (5, .int x5), (6, .int (nI 0))]) rfl rfl ⟨rfl, rfl, rfl, rfl, rfl, rfl, rfl, trivial⟩ ?_
  exact fd_loop 20 0 A rfl h (fun A' _ r2 r3 => ⟨rfl, r2, r3⟩)
theorem p1_feed {A2 : am_A} (hP : fr_P A2) (x1 x2 x3 x4 x5 : Int32) : p1_ok 6 xs 98 88 [.int x1, .int x2, .int x3, .int x4, .int x5] A2 := by
  obtain ⟨o0, o1, _, _, _, ⟨row, hrow, hrl⟩, ⟨row2, hrow2, hrl2⟩, ⟨fs, hfs, f0, f1, f73, fl⟩, hbnd⟩ := hP
  obtain ⟨rn, rf⟩ := row
  obtain ⟨rn2, rf2⟩ := row2
  cases hrl
  cases hrl2
  show am_R 6 xs 999 98 (0, [(0, .ref 0), (1, .int x1), (2, .int x2), (3, .int x3), (4, .int x4), (5, .int x5)], [], A2) _
  refine am_R_imp (fd_class (d := 997) o0 ⟨rf, 0, o1, hrow⟩) (fun v A3 e => ?_)
  obtain ⟨rfl, hp⟩ := e
  have g40 : am_ob 0 A3 40 0 = some fs := (hp.ob (by decide) (by decide)).trans hfs
  refine ⟨_, rfl, fr_s g40, ?_⟩
  show am_R 6 xs 999 88 (0, [(0, .ref 40), (1, .int x1), (2, .int x2), (3, .int x3), (4, .int x4), (5, .int x5)], [], A3) _
  refine am_R_imp (fd_ref ⟨fs, rf2, g40, f0, f1, fl, (hp.ia (by decide) (by decide)).trans hrow2⟩) (fun w A4 e => ?_)
  exact ⟨e.1, by rw [e.2.1, hp.1]; exact hbnd.1, by rw [e.2.2, hp.2.1]; exact hbnd.2⟩
end P1F
