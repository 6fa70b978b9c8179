/-! PART 74: the calls on fresh objects, but feed -/
theorem fr_gen {f d k pc n : Nat} {lv : am_L} {st : List Value} {A0 : am_A} {o : Option (Option Value × am_A)} (ho : am_rn 0 (fun _ => 0) f d k pc lv st A0 = o) (hn : o.map (fun r => (r.1.isNone, r.2.1.length)) = some (true, n)) (h9 : n < 1000000000) (hl : ns_L lv) (hs : ns_S st) (hA : ns_A A0) (L : Nat) (xs : Nat → Int32) {B : am_A} : am_rn L xs f d k pc lv st A0 = some (none, (o.getD (none, B)).2) ∧ ns_A (o.getD (none, B)).2 ∧ (o.getD (none, B)).2.1.length = n := by
  obtain ⟨r, hr, he⟩ := Option.map_eq_some_iff.mp hn
  obtain ⟨v, A⟩ := r
  have h1 : v.isNone = true := (Prod.mk.inj he).1
  have h2 : A.1.length = n := (Prod.mk.inj he).2
  have hv : v = none := Option.isNone_iff_eq_none.mp h1
  subst hv
  rw [hr]
  have := ns_free (L := L) (xs := xs) f d k pc lv st A0 none A hl hs hA (by omega) (ho.trans hr)
  exact ⟨this.1, this.2.2, h2⟩
theorem am_R_of {L f d k pc : Nat} {xs : Nat → Int32} {lv : am_L} {st : List Value} {A A' : am_A} {v : Option Value} {Q : Option Value → am_A → Prop} (h : am_rn L xs f d k pc lv st A = some (v, A')) (q : Q v A') : am_R L xs d k (pc, lv, st, A) Q := ⟨f, v, A', h, q⟩
theorem fr_e1 : am_rn 0 (fun _ => 0) fr_f 999 97 0 [(0, .ref 0)] [] fr_A0 = fr_1 := by unfold fr_1; rfl
theorem fr_e2 : am_rn 0 (fun _ => 0) fr_f 999 0 0 [(0, .ref 40)] [] fr_B1 = fr_2 := by unfold fr_2; rfl
theorem fr_a1 : fr_A1 = (fr_1.getD (none, fr_A0)).2 := by unfold fr_A1; rfl
theorem fr_a2 : fr_A2 = (fr_2.getD (none, fr_B1)).2 := by unfold fr_A2; rfl
theorem fr_n1 {n : Nat} (hn : n ≠ 1000000000) : ns_L [(0, .ref n)] := by
  intro q hq
  rw [List.mem_singleton.mp hq]
  unfold ns_v
  intro z
  exact hn (Value.ref.inj z)
theorem fr_n0 {c : Nat} : ns_e (.inr (c, (am_nf c).map defaultValue)) := by
  intro v hv
  obtain ⟨t, _, ht⟩ := List.mem_map.mp hv
  rw [← ht]
  exact ns_df
theorem fr_nA0 : ns_A fr_A0 := by
  intro e he
  unfold fr_A0 at he
  rw [List.mem_singleton.mp he]
  exact fr_n0
theorem fr_run1 (L : Nat) (xs : Nat → Int32) : am_rn L xs fr_f 999 97 0 [(0, .ref 0)] [] fr_A0 = some (none, fr_A1) ∧ ns_A fr_A1 ∧ fr_A1.1.length = 40 := by
  have h := fr_gen (B := fr_A0) fr_e1 fr_1_ok (by decide) (fr_n1 (by decide)) (fun v hv => by cases hv) fr_nA0 L xs
  rw [← fr_a1] at h
  exact h
theorem fr_nB1 : ns_A fr_B1 := by
  unfold fr_B1
  exact ns_app (fr_run1 0 (fun _ => 0)).2.1 fr_n0
theorem fr_run2 (L : Nat) (xs : Nat → Int32) : am_rn L xs fr_f 999 0 0 [(0, .ref 40)] [] fr_B1 = some (none, fr_A2) ∧ ns_A fr_A2 ∧ fr_A2.1.length = 88 := by
  have h := fr_gen (B := fr_B1) fr_e2 fr_2_ok (by decide) (fr_n1 (by decide)) (fun v hv => by cases hv) fr_nB1 L xs
  rw [← fr_a2] at h
  exact h
/-- two closed calls, answered alike -/
def fr_chk2 (k2 : Nat) (a : List Value) (x : Int32) (A3 : am_A) : Bool := match am_rn 0 (fun _ => 0) fr_g 999 k2 0 (lv_args 0 (.ref 40 :: a)) [] A3 with
  | some (some (.int y), A4) => decide (y = x) && (decide (A4.1.length ≤ 600000) && decide (A4.2 ≤ 7302250))
  | _ => false
def fr_chk (k1 k2 : Nat) (a : List Value) : Bool := match am_rn 0 (fun _ => 0) fr_g 999 k1 0 (lv_args 0 (.ref 0 :: a)) [] fr_A2 with
  | some (some (.int x), A3) => decide (A3.1.length < 1000000000) && ((am_ob 0 A3 40 0).isSome && fr_chk2 k2 a x A3)
  | _ => false
theorem fr_chk_ok {k1 k2 : Nat} {a : List Value} {xs : Nat → Int32} (h : fr_chk k1 k2 a = true) (ha : ns_S a) : p1_ok 6 xs k1 k2 a fr_A2 := by
  have hr0 : ∀ n : Nat, n ≠ 1000000000 → ns_S (.ref n :: a) := by
    intro n hn
    refine ns_c.mpr ⟨?_, ha⟩
    unfold ns_v
    intro z
    exact hn (Value.ref.inj z)
  unfold fr_chk at h
  split at h
  · rename_i x A3 hr
    simp only [Bool.and_eq_true, decide_eq_true_eq] at h
    obtain ⟨h1, h2, h3⟩ := h
    obtain ⟨e1, _, e3⟩ := ns_free (L := 6) (xs := xs) _ _ _ _ _ _ _ _ _ (ns_args (hr0 0 (by decide))) (fun v hv => by cases hv) (fr_run2 0 (fun _ => 0)).2.1 h1 hr
    refine am_R_of e1 ⟨x, rfl, h2, ?_⟩
    unfold fr_chk2 at h3
    split at h3
    · rename_i y A4 hr2
      simp only [Bool.and_eq_true, decide_eq_true_eq] at h3
      obtain ⟨g1, g2, g3⟩ := h3
      obtain ⟨e4, _, _⟩ := ns_free (L := 6) (xs := xs) _ _ _ _ _ _ _ _ _ (ns_args (hr0 40 (by decide))) (fun v hv => by cases hv) e3 (by omega) hr2
      exact am_R_of e4 ⟨by rw [g1], g2, g3⟩
    · cases h3
  · cases h
