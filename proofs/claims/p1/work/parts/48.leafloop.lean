/-! PART 48: leaves of the class with loops: Table.add, Words.fit, Bytes.addLetters; Heap.beginMove -/
set_option maxRecDepth 20000 in
theorem rp_272 : am_prog[272]? = some (am_m272, am_t272) := rfl
set_option maxRecDepth 20000 in
theorem rp_279 : am_prog[279]? = some (am_m279, am_t279) := rfl
theorem rp_143 : am_prog[143]? = some (am_m143, am_t143) := rfl
theorem rp_124 : am_prog[124]? = some (am_m124, am_t124) := rfl
theorem am_up_id {A : am_A} {q : Nat} {e : am_E} (h : am_at 0 A q = some e) : am_up 0 A q e = A := by
  unfold am_at at h
  rw [if_pos (Nat.zero_le _)] at h
  simp only [Nat.sub_zero] at h
  obtain ⟨hl, he⟩ := List.getElem?_eq_some_iff.mp h
  subst he
  unfold am_up
  simp
theorem am_ia_self {A : am_A} {a n : Nat} {ty : FieldType} {f : Nat → Int32} {e : am_E} (h : am_at 0 A a = some e) : am_ia 0 (am_up 0 A a (.inl (ty, n, .inl f))) a ty = some (n, f) := by
  unfold am_ia
  rw [rf_at_self h]
  simp
theorem am_la_self {A : am_A} {a n : Nat} {f : Nat → Int64} {e : am_E} (h : am_at 0 A a = some e) : am_la 0 (am_up 0 A a (.inl (.long, n, .inr (.inl f)))) a = some (n, f) := by
  unfold am_la
  rw [rf_at_self h]
  simp
theorem am_la_ne {A : am_A} {q o : Nat} {e : am_E} (h : q ≠ o) : am_la 0 (am_up 0 A o e) q = am_la 0 A q := by
  unfold am_la
  rw [rf_at_up h]
/-- a cell more -/
def am_app (A : am_A) (e : am_E) (n : Nat) : am_A := (A.1 ++ [e], A.2 + n)
theorem am_app_lt {A : am_A} {p n : Nat} {e x : am_E} (h : am_at 0 A p = some x) : am_at 0 (am_app A e n) p = some x := by
  unfold am_at am_app at *
  rw [if_pos (Nat.zero_le _)] at h ⊢
  simp only [Nat.sub_zero] at h ⊢
  rw [List.getElem?_append_left (List.getElem?_eq_some_iff.mp h).1]
  exact h
theorem am_app_eq {A : am_A} {n : Nat} {e : am_E} : am_at 0 (am_app A e n) A.1.length = some e := by
  unfold am_at am_app
  rw [if_pos (Nat.zero_le _)]
  simp
theorem am_app_up {A : am_A} {n : Nat} {e e' : am_E} : am_up 0 (am_app A e n) A.1.length e' = am_app A e' n := by
  unfold am_up am_app
  simp
theorem am_ob_app {A : am_A} {p ci n : Nat} {e : am_E} {fs : List Value} (h : am_ob 0 A p ci = some fs) : am_ob 0 (am_app A e n) p ci = some fs := by
  have := am_app_lt (e := e) (n := n) (am_ob_inv h)
  unfold am_ob
  rw [this]
  simp
theorem am_ia_app {A : am_A} {p n : Nat} {ty : FieldType} {e : am_E} {x : Nat × (Nat → Int32)} (h : am_ia 0 A p ty = some x) : am_ia 0 (am_app A e n) p ty = some x := by
  have := am_app_lt (e := e) (n := n) (am_ia_inv h)
  unfold am_ia
  rw [this]
  simp
theorem am_la_app {A : am_A} {p n : Nat} {e : am_E} {x : Nat × (Nat → Int64)} (h : am_la 0 A p = some x) : am_la 0 (am_app A e n) p = some x := by
  have := am_app_lt (e := e) (n := n) (am_la_inv h)
  unfold am_la
  rw [this]
  simp
theorem am_ia_new {A : am_A} {n m : Nat} {ty : FieldType} {f : Nat → Int32} : am_ia 0 (am_app A (.inl (ty, n, .inl f)) m) A.1.length ty = some (n, f) := by
  unfold am_ia
  rw [am_app_eq]
  simp
theorem am_la_new {A : am_A} {n m : Nat} {f : Nat → Int64} : am_la 0 (am_app A (.inl (.long, n, .inr (.inl f))) m) A.1.length = some (n, f) := by
  unfold am_la
  rw [am_app_eq]
  simp
section LVM
variable {sL : Nat} {sx : Nat → Int32}
theorem am_run_lv : ∀ (f d k pc : Nat) (l m : am_L) (st : List Value) (A : am_A) (x : Option Value × am_A), rf_le l m → am_rn sL sx f d k pc l st A = some x → am_rn sL sx f d k pc m st A = some x := by
  intro f
  induction f with
  | zero => intro d k pc l m st A x _ h; simp [am_rn, am_run] at h
  | succ f ih =>
    intro d k pc l m st A x hl h
    unfold am_rn at h ⊢
    rw [am_run] at h ⊢
    obtain ⟨M, hM, h⟩ := Option.bind_eq_some_iff.mp h
    obtain ⟨I, hI, h⟩ := Option.bind_eq_some_iff.mp h
    refine Option.bind_eq_some_iff.mpr ⟨M, hM, Option.bind_eq_some_iff.mpr ⟨I, hI, ?_⟩⟩
    split at h
    · obtain ⟨q, h1, h2⟩ := Option.bind_eq_some_iff.mp h; exact Option.bind_eq_some_iff.mpr ⟨q, h1, ih _ _ _ _ _ _ _ _ hl h2⟩
    · obtain ⟨q, h1, h2⟩ := Option.bind_eq_some_iff.mp h; exact Option.bind_eq_some_iff.mpr ⟨q, rf_le_lo hl h1, ih _ _ _ _ _ _ _ _ hl h2⟩
    · obtain ⟨q, h1, h2⟩ := Option.bind_eq_some_iff.mp h
      obtain ⟨m', h3, h4⟩ := rf_le_so hl h1
      exact Option.bind_eq_some_iff.mpr ⟨_, h3, ih _ _ _ _ _ _ _ _ h4 h2⟩
    · obtain ⟨q, h1, h2⟩ := Option.bind_eq_some_iff.mp h; exact Option.bind_eq_some_iff.mpr ⟨q, h1, ih _ _ _ _ _ _ _ _ hl h2⟩
    · obtain ⟨q, h1, h2⟩ := Option.bind_eq_some_iff.mp h; exact Option.bind_eq_some_iff.mpr ⟨q, h1, ih _ _ _ _ _ _ _ _ hl h2⟩
    · obtain ⟨q, h1, h2⟩ := Option.bind_eq_some_iff.mp h; exact Option.bind_eq_some_iff.mpr ⟨q, h1, ih _ _ _ _ _ _ _ _ hl h2⟩
    · exact h
    · obtain ⟨q, h1, h2⟩ := Option.bind_eq_some_iff.mp h
      refine Option.bind_eq_some_iff.mpr ⟨q, h1, ?_⟩
      split at h2
      · cases h2
      · rename_i hc
        rw [if_neg hc]
        cases d with
        | zero => cases h2
        | succ d' =>
          dsimp only at h2 ⊢
          split at h2
          · rename_i ha
            rw [if_pos ha]
            exact ih _ _ _ _ _ _ _ _ hl h2
          · rename_i ha
            rw [if_neg ha]
            split at h2
            · rename_i ha2
              rw [if_pos ha2]
              split at h2
              · cases h2
              · rename_i h8
                rw [if_neg h8]
                obtain ⟨w, h3, h4⟩ := Option.bind_eq_some_iff.mp h2
                exact Option.bind_eq_some_iff.mpr ⟨w, h3, ih _ _ _ _ _ _ _ _ hl h4⟩
            · rename_i ha2
              rw [if_neg ha2]
              obtain ⟨N, h3, h4⟩ := Option.bind_eq_some_iff.mp h2
              refine Option.bind_eq_some_iff.mpr ⟨N, h3, ?_⟩
              split at h4
              · rename_i hrc
                rw [if_pos hrc]
                obtain ⟨w, h5, h6⟩ := Option.bind_eq_some_iff.mp h4
                exact Option.bind_eq_some_iff.mpr ⟨w, h5, ih _ _ _ _ _ _ _ _ hl h6⟩
              · cases h4
    · exact ih _ _ _ _ _ _ _ _ hl h
    · cases h
theorem am_R_le {d k pc : Nat} {l m : am_L} {st : List Value} {A : am_A} {Q : Option Value → am_A → Prop} (h1 : rf_nd l = true) (h2 : rf_nd m = true) (h3 : rf_sub l m) (h : am_R sL sx d k (pc, l, st, A) Q) : am_R sL sx d k (pc, m, st, A) Q := by
  obtain ⟨f, v, A', hf, hq⟩ := h
  exact ⟨f, v, A', am_run_lv _ _ _ _ _ _ _ _ _ ⟨h1, h2, rf_sub_mem h3⟩ hf, hq⟩
/-- Heap.beginMove(): the two rows change places, nothing is used -/
theorem c_beginMove {d q x y : Nat} {A : am_A} {l u m : Value} (hq : am_ob 0 A q 4 = some [.ref x, .ref y, l, u, m]) : am_R sL sx d 143 (0, [(0, .ref q)], [], A) (fun r A' => r = none ∧ A' = am_up 0 A q (.inr (4, [.ref y, .ref x, l, .int 0, m]))) := by
  refine am_R_w rp_143 (rf_bk am_t143 0 13) 0 _ _ _ (by repeat (first | exact trivial | refine ⟨rfl, ?_⟩)) (by decide +kernel) ?_
  refine ⟨_, hq, _, rfl, _, hq, _, rfl, _, hq, ⟨Nat.le_of_ble_eq_true rfl, rfl⟩, _, am_ob_self hq, ⟨Nat.le_of_ble_eq_true rfl, rfl⟩, _, am_ob_self (am_ob_self hq), ⟨Nat.le_of_ble_eq_true rfl, rfl⟩, ?_⟩
  refine am_R_re (pc := 23) rp_143 rfl rfl rfl ⟨rfl, ?_⟩
  rw [am_up_up, am_up_up]
  rfl
/-- Table.add's second loop: zeros -/
theorem c_Table_zero {d q a n t : Nat} {w r fr : Value} {Q : Option Value → am_A → Prop} (hqa : q ≠ a) (hs : a ≠ 1000000000) (htn : t ≤ n) (hn : n < 2 ^ 31) : ∀ (m j : Nat) (A : am_A) (f : Nat → Int32), j + m = t → am_ob 0 A q 10 = some [w, .ref a, r] → am_ia 0 A a .int = some (n, f) →
    (∀ f' : Nat → Int32, (∀ i, i < j → f' i = f i) → (∀ i, j ≤ i → i < t → f' i = 0) → am_R sL sx d 272 (115, [(0, .ref q)], [], am_up 0 A a (.inl (.int, n, .inl f'))) Q) →
    am_R sL sx d 272 (88, [(3, .int (nI j)), (2, .int (nI t)), (0, .ref q)], [], A) Q := by
  intro m
  induction m with
  | zero =>
    intro j A f hj hq ha K
    refine am_R_w rp_272 (rf_bk am_t272 53 3) 88 _ _ _ (by repeat (first | exact trivial | refine ⟨rfl, ?_⟩)) (by decide +kernel) ?_
    refine am_R_ifb (b := am_cnd .ge (nI j) (nI t)) (p := 115) (q := 93) (fun h => ?_) (fun h => ?_)
    · have := K f (fun _ _ => rfl) (fun i h1 h2 => by omega)
      rw [am_up_id (am_ia_inv ha)] at this
      exact am_R_le (l := [(0, .ref q)]) rfl rfl ⟨rfl, trivial⟩ this
    · exact absurd (nI_le (by omega) (by omega)) (of_decide_eq_false h)
  | succ m ih =>
    intro j A f hj hq ha K
    refine am_R_w rp_272 (rf_bk am_t272 53 3) 88 _ _ _ (by repeat (first | exact trivial | refine ⟨rfl, ?_⟩)) (by decide +kernel) ?_
    refine am_R_ifb (b := am_cnd .ge (nI j) (nI t)) (p := 115) (q := 93) (fun h => ?_) (fun h => ?_)
    · exact absurd (of_decide_eq_true h) (nI_ge (by omega) (by omega))
    · refine am_R_w rp_272 (rf_bk am_t272 56 5) 93 _ _ _ (by repeat (first | exact trivial | refine ⟨rfl, ?_⟩)) (by decide +kernel) ?_
      refine ⟨_, hq, _, rfl, hs, _, am_al_ia ha, ?_⟩
      refine am_R_ifb (b := am_cnd .ge (nI j) (Int32.ofNat n)) (p := 115) (q := 102) (fun h => ?_) (fun h => ?_)
      · exact absurd (of_decide_eq_true h) (nI_ge (by omega) (by omega))
      · refine am_R_w rp_272 (rf_bk am_t272 61 7) 102 _ _ _ (by repeat (first | exact trivial | refine ⟨rfl, ?_⟩)) (by decide +kernel) ?_
        refine ⟨_, hq, _, rfl, _, ha, nI_in (by omega) (by omega), ?_⟩
        show am_R sL sx d 272 (88, [(3, .int (nI j + Int32.ofInt 1)), (2, .int (nI t)), (0, .ref q)], [], am_up 0 A a (.inl (.int, n, .inl (upd f (nI j).toNatClampNeg (Int32.ofInt 0))))) Q
        rw [rf_o1, nI_1, nI_clamp (by omega), rc_i0]
        refine ih (j + 1) _ (upd f j 0) (by omega) ((am_ob_ne hqa).trans hq) (am_ia_self (am_ia_inv ha)) (fun f' h1 h2 => ?_)
        rw [am_up_up]
        refine K f' (fun i hi => ?_) (fun i h3 h4 => ?_)
        · rw [h1 i (by omega)]
          simp [upd, show i ≠ j by omega]
        · by_cases hij : i = j
          · subst hij
            rw [h1 i (by omega)]
            simp [upd]
          · exact h2 i (by omega) h4
/-- Table.add's first loop: the old row comes into the new one -/
theorem c_Table_copy {d q a n m : Nat} {A : am_A} {f : Nat → Int32} {w r : Value} {fr to : Int32} {z : Nat} {Q : Option Value → am_A → Prop} (hs : a ≠ 1000000000) (hA : A.1.length ≠ 1000000000) (hnm : n ≤ m) (hm : m < 2 ^ 31) (hq : am_ob 0 A q 10 = some [w, .ref a, r]) (ha : am_ia 0 A a .int = some (n, f)) : ∀ (k j : Nat) (g : Nat → Int32), j + k = n →
    (∀ g' : Nat → Int32, (∀ i, i < j → g' i = g i) → (∀ i, j ≤ i → i < n → g' i = f i) → am_R sL sx d 272 (81, [(0, .ref q), (1, .int fr), (2, .int to), (3, .ref A.1.length)], [], am_app A (.inl (.int, m, .inl g')) z) Q) →
    am_R sL sx d 272 (47, [(4, .int (nI j)), (3, .ref A.1.length), (2, .int to), (1, .int fr), (0, .ref q)], [], am_app A (.inl (.int, m, .inl g)) z) Q := by
  intro k
  induction k with
  | zero =>
    intro j g hj K
    refine am_R_w rp_272 (rf_bk am_t272 30 5) 47 _ _ _ (by repeat (first | exact trivial | refine ⟨rfl, ?_⟩)) (by decide +kernel) ?_
    refine ⟨_, am_ob_app hq, _, rfl, hs, _, am_al_ia (am_ia_app ha), ?_⟩
    refine am_R_ifb (b := am_cnd .ge (nI j) (Int32.ofNat n)) (p := 81) (q := 57) (fun h => ?_) (fun h => ?_)
    · exact am_R_le (l := [(0, .ref q), (1, .int fr), (2, .int to), (3, .ref A.1.length)]) rfl rfl ⟨rfl, rfl, rfl, rfl, trivial⟩ (K g (fun _ _ => rfl) (fun i h1 h2 => by omega))
    · exact absurd (nI_le (by omega) (by omega)) (of_decide_eq_false h)
  | succ k ih =>
    intro j g hj K
    refine am_R_w rp_272 (rf_bk am_t272 30 5) 47 _ _ _ (by repeat (first | exact trivial | refine ⟨rfl, ?_⟩)) (by decide +kernel) ?_
    refine ⟨_, am_ob_app hq, _, rfl, hs, _, am_al_ia (am_ia_app ha), ?_⟩
    refine am_R_ifb (b := am_cnd .ge (nI j) (Int32.ofNat n)) (p := 81) (q := 57) (fun h => ?_) (fun h => ?_)
    · exact absurd (of_decide_eq_true h) (nI_ge (by omega) (by omega))
    · refine am_R_w rp_272 (rf_bk am_t272 35 4) 57 _ _ _ (by repeat (first | exact trivial | refine ⟨rfl, ?_⟩)) (by decide +kernel) ?_
      refine ⟨hA, _, am_al_ia am_ia_new, ?_⟩
      refine am_R_ifb (b := am_cnd .ge (nI j) (Int32.ofNat m)) (p := 81) (q := 64) (fun h => ?_) (fun h => ?_)
      · exact absurd (of_decide_eq_true h) (nI_ge (by omega) (by omega))
      · refine am_R_w rp_272 (rf_bk am_t272 39 9) 64 _ _ _ (by repeat (first | exact trivial | refine ⟨rfl, ?_⟩)) (by decide +kernel) ?_
        refine ⟨_, am_ob_app hq, _, rfl, hs, _, am_ia_app ha, nI_in (by omega) (by omega), _, am_ia_new, nI_in (by omega) (by omega), ?_⟩
        show am_R sL sx d 272 (47, [(4, .int (nI j + Int32.ofInt 1)), (3, .ref A.1.length), (2, .int to), (1, .int fr), (0, .ref q)], [], am_up 0 (am_app A (.inl (.int, m, .inl g)) z) A.1.length (.inl (.int, m, .inl (upd g (nI j).toNatClampNeg (f (nI j).toNatClampNeg))))) Q
        rw [rf_o1, nI_1, nI_clamp (by omega), am_app_up]
        refine ih (j + 1) (upd g j (f j)) (by omega) (fun g' h1 h2 => ?_)
        refine K g' (fun i hi => ?_) (fun i h3 h4 => ?_)
        · rw [h1 i (by omega)]
          simp [upd, show i ≠ j by omega]
        · by_cases hij : i = j
          · subst hij
            rw [h1 i (by omega)]
            simp [upd]
          · exact h2 i (by omega) h4
/-- Words.fit's loop -/
theorem c_Words_copy {d q a n m : Nat} {A : am_A} {f : Nat → Int64} {to : Int32} {z : Nat} {Q : Option Value → am_A → Prop} (hs : a ≠ 1000000000) (hA : A.1.length ≠ 1000000000) (hnm : n ≤ m) (hm : m < 2 ^ 31) (hq : am_ob 0 A q 11 = some [.ref a]) (ha : am_la 0 A a = some (n, f)) : ∀ (k j : Nat) (g : Nat → Int64), j + k = n →
    (∀ g' : Nat → Int64, (∀ i, i < j → g' i = g i) → (∀ i, j ≤ i → i < n → g' i = f i) → (∀ i, n ≤ i → g' i = g i) → am_R sL sx d 279 (54, [(0, .ref q), (2, .ref A.1.length)], [], am_app A (.inl (.long, m, .inr (.inl g'))) z) Q) →
    am_R sL sx d 279 (24, [(3, .int (nI j)), (2, .ref A.1.length), (0, .ref q), (1, .int to)], [], am_app A (.inl (.long, m, .inr (.inl g))) z) Q := by
  intro k
  induction k with
  | zero =>
    intro j g hj K
    refine am_R_w rp_279 (rf_bk am_t279 16 5) 24 _ _ _ (by repeat (first | exact trivial | refine ⟨rfl, ?_⟩)) (by decide +kernel) ?_
    refine ⟨_, am_ob_app hq, _, rfl, hs, _, am_al_la (am_la_app ha), ?_⟩
    refine am_R_ifb (b := am_cnd .ge (nI j) (Int32.ofNat n)) (p := 54) (q := 33) (fun h => ?_) (fun h => ?_)
    · exact am_R_le (l := [(0, .ref q), (2, .ref A.1.length)]) rfl rfl ⟨rfl, rfl, trivial⟩ (K g (fun _ _ => rfl) (fun i h1 h2 => by omega) (fun _ _ => rfl))
    · exact absurd (nI_le (by omega) (by omega)) (of_decide_eq_false h)
  | succ k ih =>
    intro j g hj K
    refine am_R_w rp_279 (rf_bk am_t279 16 5) 24 _ _ _ (by repeat (first | exact trivial | refine ⟨rfl, ?_⟩)) (by decide +kernel) ?_
    refine ⟨_, am_ob_app hq, _, rfl, hs, _, am_al_la (am_la_app ha), ?_⟩
    refine am_R_ifb (b := am_cnd .ge (nI j) (Int32.ofNat n)) (p := 54) (q := 33) (fun h => ?_) (fun h => ?_)
    · exact absurd (of_decide_eq_true h) (nI_ge (by omega) (by omega))
    · refine am_R_w rp_279 (rf_bk am_t279 21 4) 33 _ _ _ (by repeat (first | exact trivial | refine ⟨rfl, ?_⟩)) (by decide +kernel) ?_
      refine ⟨hA, _, am_al_la am_la_new, ?_⟩
      refine am_R_ifb (b := am_cnd .ge (nI j) (Int32.ofNat m)) (p := 54) (q := 39) (fun h => ?_) (fun h => ?_)
      · exact absurd (of_decide_eq_true h) (nI_ge (by omega) (by omega))
      · refine am_R_w rp_279 (rf_bk am_t279 25 9) 39 _ _ _ (by repeat (first | exact trivial | refine ⟨rfl, ?_⟩)) (by decide +kernel) ?_
        refine ⟨_, am_ob_app hq, _, rfl, _, am_la_app ha, nI_in (by omega) (by omega), _, am_la_new, nI_in (by omega) (by omega), ?_⟩
        show am_R sL sx d 279 (24, [(3, .int (nI j + Int32.ofInt 1)), (2, .ref A.1.length), (0, .ref q), (1, .int to)], [], am_up 0 (am_app A (.inl (.long, m, .inr (.inl g))) z) A.1.length (.inl (.long, m, .inr (.inl (vp_updL g (nI j).toNatClampNeg (f (nI j).toNatClampNeg)))))) Q
        rw [rf_o1, nI_1, nI_clamp (by omega), am_app_up]
        refine ih (j + 1) (vp_updL g j (f j)) (by omega) (fun g' h1 h2 h5 => ?_)
        refine K g' (fun i hi => ?_) (fun i h3 h4 => ?_) (fun i h6 => ?_)
        · rw [h1 i (by omega)]
          simp [vp_updL, show i ≠ j by omega]
        · by_cases hij : i = j
          · subst hij
            rw [h1 i (by omega)]
            simp [vp_updL]
          · exact h2 i (by omega) h4
        · rw [h5 i h6]
          simp [vp_updL, show i ≠ j by omega]
end LVM
