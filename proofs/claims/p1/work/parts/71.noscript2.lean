/-! PART 71: runs without the script: the heap's steps, the whole run -/
section NS
variable {L : Nat} {xs : Nat → Int32}
theorem ns_hp_len {sL : Nat} {sx : Nat → Int32} {ins : Instr} {a b : Nat} {st : List Value} {A : am_A} {q : List Value × am_A} (h : am_hp 0 am_nf 1000000000 sL sx ins a b st A = some q) : A.1.length ≤ q.2.1.length := by
  have up : ∀ o e, (am_up 0 A o e).1.length = A.1.length := fun o e => by simp [am_up]
  unfold am_hp at h
  split at h
  · unfold am_get at h
    split at h
    · obtain ⟨fs, _, h2⟩ := Option.bind_eq_some_iff.mp h
      obtain ⟨v, _, h3⟩ := Option.map_eq_some_iff.mp h2
      cases h3; exact Nat.le_refl _
    · cases h
  · unfold am_put at h
    split at h
    · obtain ⟨fs, _, h2⟩ := Option.bind_eq_some_iff.mp h
      split at h2
      · cases h2; rw [up]; exact Nat.le_refl _
      · cases h2
    · cases h
  · unfold am_new at h
    cases h
    simp
  · unfold am_nwa at h
    split at h
    · split at h
      · cases h
      · obtain ⟨x, _, h2⟩ := Option.map_eq_some_iff.mp h
        cases h2
        simp
    · cases h
  · unfold am_len at h
    split at h
    · split at h
      · cases h; exact Nat.le_refl _
      · obtain ⟨n, _, h2⟩ := Option.map_eq_some_iff.mp h
        cases h2; exact Nat.le_refl _
    · cases h
  · unfold am_ial at h
    split at h
    · split at h
      · split at h
        · cases h
        · cases h; exact Nat.le_refl _
      · obtain ⟨x, _, h2⟩ := Option.bind_eq_some_iff.mp h
        split at h2
        · cases h2
        · cases h2; exact Nat.le_refl _
    · cases h
  · unfold am_lal at h
    split at h
    · obtain ⟨x, _, h2⟩ := Option.bind_eq_some_iff.mp h
      split at h2
      · cases h2
      · cases h2; exact Nat.le_refl _
    · cases h
  · unfold am_bal at h
    split at h
    · split at h
      · split at h
        · cases h
        · cases h; exact Nat.le_refl _
      · obtain ⟨x, _, h2⟩ := Option.bind_eq_some_iff.mp h
        split at h2
        · cases h2
        · cases h2; exact Nat.le_refl _
    · cases h
  · unfold am_ias at h
    split at h
    · obtain ⟨x, _, h2⟩ := Option.bind_eq_some_iff.mp h
      split at h2
      · cases h2
      · cases h2; rw [up]; exact Nat.le_refl _
    · cases h
  · unfold am_las at h
    split at h
    · obtain ⟨x, _, h2⟩ := Option.bind_eq_some_iff.mp h
      split at h2
      · cases h2
      · cases h2; rw [up]; exact Nat.le_refl _
    · cases h
  · unfold am_bas at h
    split at h
    · split at h
      · split at h
        · cases h
        · cases h; rw [up]; exact Nat.le_refl _
      · obtain ⟨x, _, h2⟩ := Option.bind_eq_some_iff.mp h
        split at h2
        · cases h2
        · cases h2; rw [up]; exact Nat.le_refl _
    · cases h
  · cases h
theorem ns_df {t : FieldType} : ns_v (defaultValue t) := by
  unfold ns_v
  cases t <;> (intro h; cases h)
theorem ns_hp {ins : Instr} {a b : Nat} {st : List Value} {A : am_A} {q : List Value × am_A} (h : am_hp 0 am_nf 1000000000 0 (fun _ => 0) ins a b st A = some q) (hs : ns_S st) (hA : ns_A A) (hn : A.1.length < 1000000000) : am_hp 0 am_nf 1000000000 L xs ins a b st A = some q ∧ ns_S q.1 ∧ ns_A q.2 := by
  unfold am_hp at h ⊢
  split at h
  · refine ⟨h, ?_⟩
    unfold am_get at h
    split at h
    · obtain ⟨fs, h1, h2⟩ := Option.bind_eq_some_iff.mp h
      obtain ⟨v, h3, h4⟩ := Option.map_eq_some_iff.mp h2
      cases h4
      exact ⟨ns_c.mpr ⟨ns_at h1 hA v (List.mem_of_getElem? h3), (ns_c.mp hs).2⟩, hA⟩
    · cases h
  · refine ⟨h, ?_⟩
    unfold am_put at h
    split at h
    · obtain ⟨fs, h1, h2⟩ := Option.bind_eq_some_iff.mp h
      split at h2
      · cases h2
        refine ⟨(ns_c.mp (ns_c.mp hs).2).2, ns_up hA ?_⟩
        intro v hv
        rcases List.mem_or_eq_of_mem_set hv with z | z
        · exact ns_at h1 hA v z
        · rw [z]; exact (ns_c.mp hs).1
      · cases h2
    · cases h
  · refine ⟨h, ?_⟩
    unfold am_new at h
    cases h
    refine ⟨ns_c.mpr ⟨?_, hs⟩, ns_app hA ?_⟩
    · unfold ns_v
      intro z
      have : (0 + A.1.length : Nat) = 1000000000 := Value.ref.inj z
      omega
    · intro v hv
      obtain ⟨t, _, ht⟩ := List.mem_map.mp hv
      rw [← ht]
      exact ns_df
  · refine ⟨h, ?_⟩
    unfold am_nwa at h
    split at h
    · split at h
      · cases h
      · obtain ⟨x, _, h2⟩ := Option.map_eq_some_iff.mp h
        cases h2
        refine ⟨ns_c.mpr ⟨?_, (ns_c.mp hs).2⟩, ns_app hA trivial⟩
        unfold ns_v
        intro z
        have : (0 + A.1.length : Nat) = 1000000000 := Value.ref.inj z
        omega
    · cases h
  · unfold am_len at h ⊢
    split at h
    · rename_i o r
      have ho : ¬ o = 1000000000 := fun z => (ns_c.mp hs).1 (by rw [z])
      rw [if_neg ho] at h
      rw [if_neg ho]
      refine ⟨h, ?_⟩
      obtain ⟨n, _, h2⟩ := Option.map_eq_some_iff.mp h
      cases h2
      exact ⟨ns_c.mpr ⟨ns_i, (ns_c.mp hs).2⟩, hA⟩
    · cases h
  · unfold am_ial at h ⊢
    split at h
    · rename_i i o r
      have ho : ¬ o = 1000000000 := fun z => (ns_c.mp (ns_c.mp hs).2).1 (by rw [z])
      rw [if_neg ho] at h
      rw [if_neg ho]
      refine ⟨h, ?_⟩
      obtain ⟨x, _, h2⟩ := Option.bind_eq_some_iff.mp h
      split at h2
      · cases h2
      · cases h2
        exact ⟨ns_c.mpr ⟨ns_i, (ns_c.mp (ns_c.mp hs).2).2⟩, hA⟩
    · cases h
  · refine ⟨h, ?_⟩
    unfold am_lal at h
    split at h
    · obtain ⟨x, _, h2⟩ := Option.bind_eq_some_iff.mp h
      split at h2
      · cases h2
      · cases h2
        exact ⟨ns_c.mpr ⟨ns_l, (ns_c.mp (ns_c.mp hs).2).2⟩, hA⟩
    · cases h
  · refine ⟨h, ?_⟩
    unfold am_bal at h
    split at h
    · split at h
      · split at h
        · cases h
        · cases h
          exact ⟨ns_c.mpr ⟨ns_i, (ns_c.mp (ns_c.mp hs).2).2⟩, hA⟩
      · obtain ⟨x, _, h2⟩ := Option.bind_eq_some_iff.mp h
        split at h2
        · cases h2
        · cases h2
          exact ⟨ns_c.mpr ⟨ns_i, (ns_c.mp (ns_c.mp hs).2).2⟩, hA⟩
    · cases h
  · refine ⟨h, ?_⟩
    unfold am_ias at h
    split at h
    · obtain ⟨x, _, h2⟩ := Option.bind_eq_some_iff.mp h
      split at h2
      · cases h2
      · cases h2
        exact ⟨(ns_c.mp (ns_c.mp (ns_c.mp hs).2).2).2, ns_up hA trivial⟩
    · cases h
  · refine ⟨h, ?_⟩
    unfold am_las at h
    split at h
    · obtain ⟨x, _, h2⟩ := Option.bind_eq_some_iff.mp h
      split at h2
      · cases h2
      · cases h2
        exact ⟨(ns_c.mp (ns_c.mp (ns_c.mp hs).2).2).2, ns_up hA trivial⟩
    · cases h
  · refine ⟨h, ?_⟩
    unfold am_bas at h
    split at h
    · split at h
      · split at h
        · cases h
        · cases h
          exact ⟨(ns_c.mp (ns_c.mp (ns_c.mp hs).2).2).2, ns_up hA trivial⟩
      · obtain ⟨x, _, h2⟩ := Option.bind_eq_some_iff.mp h
        split at h2
        · cases h2
        · cases h2
          exact ⟨(ns_c.mp (ns_c.mp (ns_c.mp hs).2).2).2, ns_up hA trivial⟩
    · cases h
  · cases h
/-- the heap never gets shorter -/
theorem ns_len {sL : Nat} {sx : Nat → Int32} : ∀ (f d k pc : Nat) (lv : am_L) (st : List Value) (A : am_A) (v : Option Value) (A' : am_A), am_rn sL sx f d k pc lv st A = some (v, A') → A.1.length ≤ A'.1.length := by
  intro f
  induction f with
  | zero => intro d k pc lv st A v A' h; simp [am_rn, am_run] at h
  | succ f ih =>
    intro d k pc lv st A v A' h
    unfold am_rn at h
    rw [am_run] at h
    obtain ⟨M, hM, h⟩ := Option.bind_eq_some_iff.mp h
    obtain ⟨I, hI, h⟩ := Option.bind_eq_some_iff.mp h
    split at h
    · obtain ⟨q, h1, h2⟩ := Option.bind_eq_some_iff.mp h; exact ih _ _ _ _ _ _ _ _ h2
    · obtain ⟨q, h1, h2⟩ := Option.bind_eq_some_iff.mp h; exact ih _ _ _ _ _ _ _ _ h2
    · obtain ⟨q, h1, h2⟩ := Option.bind_eq_some_iff.mp h; exact ih _ _ _ _ _ _ _ _ h2
    · obtain ⟨q, h1, h2⟩ := Option.bind_eq_some_iff.mp h; exact ih _ _ _ _ _ _ _ _ h2
    · obtain ⟨q, h1, h2⟩ := Option.bind_eq_some_iff.mp h; exact ih _ _ _ _ _ _ _ _ h2
    · obtain ⟨q, h1, h2⟩ := Option.bind_eq_some_iff.mp h
      exact Nat.le_trans (ns_hp_len h1) (ih _ _ _ _ _ _ _ _ h2)
    · obtain ⟨q, h1, h2⟩ := Option.map_eq_some_iff.mp h
      cases h2
      exact Nat.le_refl _
    · obtain ⟨q, h1, h2⟩ := Option.bind_eq_some_iff.mp h
      split at h2
      · cases h2
      · cases d with
        | zero => cases h2
        | succ d' =>
          dsimp only at h2
          split at h2
          · exact ih _ _ _ _ _ _ _ _ h2
          · split at h2
            · split at h2
              · cases h2
              · obtain ⟨w, h3, h4⟩ := Option.bind_eq_some_iff.mp h2
                exact ih _ _ _ _ _ _ _ _ h4
            · obtain ⟨N, h3, h4⟩ := Option.bind_eq_some_iff.mp h2
              split at h4
              · obtain ⟨w, h5, h6⟩ := Option.bind_eq_some_iff.mp h4
                exact Nat.le_trans (ih _ _ _ _ _ _ w.1 w.2 h5) (ih _ _ _ _ _ _ _ _ h6)
              · cases h4
    · exact ih _ _ _ _ _ _ _ _ h
    · cases h
theorem ns_args {i : Nat} {vs : List Value} (h : ns_S vs) : ns_L (lv_args i vs) := by
  induction vs generalizing i with
  | nil => intro q hq; simp [lv_args] at hq
  | cons v vs ih =>
    intro q hq
    unfold lv_args at hq
    rcases List.mem_cons.mp hq with e | e
    · subst e; exact (ns_c.mp h).1
    · exact ih (ns_c.mp h).2 q e
theorem ns_free : ∀ (f d k pc : Nat) (lv : am_L) (st : List Value) (A : am_A) (v : Option Value) (A' : am_A), ns_L lv → ns_S st → ns_A A → A'.1.length < 1000000000 → am_rn 0 (fun _ => 0) f d k pc lv st A = some (v, A') → am_rn L xs f d k pc lv st A = some (v, A') ∧ ns_S v.toList ∧ ns_A A' := by
  intro f
  induction f with
  | zero => intro d k pc lv st A v A' _ _ _ _ h; simp [am_rn, am_run] at h
  | succ f ih =>
    intro d k pc lv st A v A' hl hs hA hn h
    unfold am_rn at h ⊢
    rw [am_run] at h ⊢
    obtain ⟨M, hM, h⟩ := Option.bind_eq_some_iff.mp h
    obtain ⟨I, hI, h⟩ := Option.bind_eq_some_iff.mp h
    simp only [hM, hI, Option.bind_some]
    split at h
    · rename_i hk
      obtain ⟨q, h1, h2⟩ := Option.bind_eq_some_iff.mp h
      simp only [h1, Option.bind_some]
      exact ih _ _ _ _ _ _ _ _ hl (ns_sk h1 hs) hA hn h2
    · rename_i hk
      obtain ⟨q, h1, h2⟩ := Option.bind_eq_some_iff.mp h
      simp only [h1, Option.bind_some]
      exact ih _ _ _ _ _ _ _ _ hl (ns_c.mpr ⟨ns_lo h1 hl, hs⟩) hA hn h2
    · rename_i hk
      obtain ⟨q, h1, h2⟩ := Option.bind_eq_some_iff.mp h
      simp only [h1, Option.bind_some]
      have := ns_so h1 hl hs
      exact ih _ _ _ _ _ _ _ _ this.1 this.2 hA hn h2
    · rename_i hk
      obtain ⟨q, h1, h2⟩ := Option.bind_eq_some_iff.mp h
      simp only [h1, Option.bind_some]
      exact ih _ _ _ _ _ _ _ _ hl (ns_br h1 hs) hA hn h2
    · rename_i hk
      obtain ⟨q, h1, h2⟩ := Option.bind_eq_some_iff.mp h
      simp only [h1, Option.bind_some]
      exact ih _ _ _ _ _ _ _ _ hl (ns_st1 h1 hs) hA hn h2
    · rename_i hk
      obtain ⟨q, h1, h2⟩ := Option.bind_eq_some_iff.mp h
      have hlen := ns_hp_len h1
      have hlen2 := ns_len _ _ _ _ _ _ _ _ _ h2
      have := ns_hp (L := L) (xs := xs) h1 hs hA (by omega)
      simp only [this.1, Option.bind_some]
      exact ih _ _ _ _ _ _ _ _ hl this.2.1 this.2.2 hn h2
    · rename_i hk
      obtain ⟨q, h1, h2⟩ := Option.map_eq_some_iff.mp h
      cases h2
      simp only [h1, Option.map_some]
      refine ⟨trivial, ?_, hA⟩
      unfold am_rt at h1
      split at h1
      · split at h1
        · split at h1
          · cases h1
            exact ns_c.mpr ⟨(ns_c.mp hs).1, fun w hw => by cases hw⟩
          · cases h1
        · cases h1
      · split at h1
        · split at h1
          · cases h1
            exact ns_c.mpr ⟨(ns_c.mp hs).1, fun w hw => by cases hw⟩
          · cases h1
        · cases h1
      · split at h1
        · split at h1
          · cases h1
            exact ns_c.mpr ⟨(ns_c.mp hs).1, fun w hw => by cases hw⟩
          · cases h1
        · cases h1
      · split at h1
        · cases h1
          intro w hw; cases hw
        · cases h1
      · cases h1
    · rename_i hk
      obtain ⟨q, h1, h2⟩ := Option.bind_eq_some_iff.mp h
      simp only [h1, Option.bind_some]
      obtain ⟨c1, c2⟩ := ns_ca h1 hs
      split at h2
      · cases h2
      · rename_i hc
        rw [if_neg hc]
        cases d with
        | zero => cases h2
        | succ d' =>
          dsimp only at h2 ⊢
          split at h2
          · rename_i ha
            rw [if_pos ha]
            exact ih _ _ _ _ _ _ _ _ hl c2 hA hn h2
          · rename_i ha
            rw [if_neg ha]
            split at h2
            · rename_i ha2
              rw [if_pos ha2]
              split at h2
              · cases h2
              · rename_i h8
                rw [if_neg h8]
                obtain ⟨w, h3, h4⟩ := Option.bind_eq_some_iff.mp h2
                simp only [h3, Option.bind_some]
                refine ih _ _ _ _ _ _ _ _ hl ?_ hA hn h4
                intro y hy
                rcases List.mem_append.mp hy with z | z
                · unfold am_sp at h3
                  split at h3
                  · split at h3
                    · cases h3
                      rw [List.mem_singleton.mp z]
                      exact ns_i
                    · cases h3
                  · split at h3
                    · cases h3
                      rw [List.mem_singleton.mp z]
                      exact ns_i
                    · cases h3
                  · cases h3
                · exact c2 y z
            · rename_i ha2
              rw [if_neg ha2]
              obtain ⟨N, h3, h4⟩ := Option.bind_eq_some_iff.mp h2
              simp only [h3, Option.bind_some]
              split at h4
              · rename_i hrc
                rw [if_pos hrc]
                obtain ⟨w, h5, h6⟩ := Option.bind_eq_some_iff.mp h4
                have hlen := ns_len _ _ _ _ _ _ _ _ _ h6
                obtain ⟨e1, e2, e3⟩ := ih _ _ _ _ _ _ w.1 w.2 (ns_args c1) (fun y hy => by cases hy) hA (by omega) h5
                unfold am_rn at e1
                simp only [e1, Option.bind_some]
                refine ih _ _ _ _ _ _ _ _ hl ?_ e3 hn h6
                intro y hy
                rcases List.mem_append.mp hy with z | z
                · exact e2 y z
                · exact c2 y z
              · cases h4
    · rename_i hk
      refine ih _ _ _ _ _ _ _ _ hl (ns_c.mpr ⟨?_, hs⟩) hA hn h
      unfold ns_v
      intro z
      have : (1000000001 : Nat) = 1000000000 := Value.ref.inj z
      omega
    · cases h
end NS
