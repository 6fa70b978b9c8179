/-! PART 24: what the reference's own machine runs, the abstract machine runs -/
def rf_rc (ins : Instr) (vs : List Value) (ci : Nat) : Bool := match ins with
  | .invokevirtual _ => (match vs with
    | .ref o :: _ => decide (o = rf_o ∧ ci = 0)
    | _ => false)
  | _ => true
def rf_run : Nat → Nat → Nat → Nat → am_L → List Value → rf_S → Option (Option Value × rf_S)
  | 0, _, _, _, _, _, _ => none
  | f + 1, d, k, pc, lv, st, s => (am_mth k).bind fun M => (am_tbl k pc).bind fun I =>
    match am_kd I.1 I.2.2.2.2.2 with
    | 0 => (am_sk I.1 I.2.2.1 st).bind fun st' => rf_run f d k (pc + I.2.1) lv st' s
    | 1 => (am_lo I.1 lv).bind fun v => rf_run f d k (pc + I.2.1) lv (v :: st) s
    | 2 => (am_so I.1 M.2.2.1 lv st).bind fun q => rf_run f d k (pc + I.2.1) q.1 q.2 s
    | 3 => (am_br I.1 st).bind fun q => rf_run f d k (if q.1 = true then I.2.2.1 else pc + I.2.1) lv q.2 s
    | 4 => (am_st1 st).bind fun q => rf_run f d k (am_sw q.1 I.2.2.2.2.2 I.2.2.1) lv q.2 s
    | 5 => (rf_hp I.1 I.2.2.1 I.2.2.2.1 st s).bind fun q => rf_run f d k (pc + I.2.1) lv q.1 q.2
    | 6 => (am_rt I.1 M.2.2.2.1 st).map fun v => (v, s)
    | 7 => (am_ca I.1 I.2.2.2.1 st).bind fun q => if ¬ (q.2.map fun v => v.category).sum ≤ 8 ∨ 10000 ≤ I.2.2.1 then none else
        match d with
        | 0 => none
        | d' + 1 => (am_mth I.2.2.1).bind fun N => if rf_rc I.1 q.1 N.2.2.2.2 = true ∧ (lg_sl q.1).length ≤ N.2.2.1 then
            (rf_run f d' I.2.2.1 0 (lv_args 0 q.1) [] s).bind fun w => rf_run f (d' + 1) k (pc + I.2.1) lv (w.1.toList ++ q.2) w.2
            else none
    | _ => none
theorem rf_rc_ok {ins : Instr} {vs : List Value} {ci : Nat} {s : rf_S} {A : am_A} (hH : rf_H s A) (h : rf_rc ins vs ci = true) : am_rc 0 ins A vs ci = true := by
  unfold rf_rc at h
  unfold am_rc
  split at h
  · split at h
    · obtain ⟨rfl, rfl⟩ := of_decide_eq_true h
      simp only [hH.1, Option.isSome_some]
    · cases h
  · rename_i hn
    split
    · exact absurd rfl (hn _)
    · rfl
set_option maxHeartbeats 2000000 in
theorem rf_sound {sL : Nat} {sx : Nat → Int32} : ∀ (f d k pc : Nat) (lv : am_L) (st : List Value) (s s' : rf_S) (v : Option Value) (A : am_A), rf_run f d k pc lv st s = some (v, s') → rf_H s A → ∃ A', am_rn sL sx f d k pc lv st A = some (v, A') ∧ rf_H s' A' ∧ rf_F A A' := by
  intro f
  induction f with
  | zero => intro d k pc lv st s s' v A h; simp [rf_run] at h
  | succ f ih =>
    intro d k pc lv st s s' v A h hH
    rw [rf_run] at h
    obtain ⟨M, hM, h⟩ := Option.bind_eq_some_iff.mp h
    obtain ⟨I, hI, h⟩ := Option.bind_eq_some_iff.mp h
    obtain ⟨ins, len, a, b, cI, sw⟩ := I
    dsimp only at h
    unfold am_rn
    rw [am_run]
    simp only [hM, hI, Option.bind_some]
    split at h
    · rename_i hk
      try simp only [hk]
      obtain ⟨q, h1, h2⟩ := Option.bind_eq_some_iff.mp h
      simp only [h1, Option.bind_some]
      exact ih _ _ _ _ _ _ _ _ _ h2 hH
    · rename_i hk
      try simp only [hk]
      obtain ⟨q, h1, h2⟩ := Option.bind_eq_some_iff.mp h
      simp only [h1, Option.bind_some]
      exact ih _ _ _ _ _ _ _ _ _ h2 hH
    · rename_i hk
      try simp only [hk]
      obtain ⟨q, h1, h2⟩ := Option.bind_eq_some_iff.mp h
      simp only [h1, Option.bind_some]
      exact ih _ _ _ _ _ _ _ _ _ h2 hH
    · rename_i hk
      try simp only [hk]
      obtain ⟨q, h1, h2⟩ := Option.bind_eq_some_iff.mp h
      simp only [h1, Option.bind_some]
      exact ih _ _ _ _ _ _ _ _ _ h2 hH
    · rename_i hk
      try simp only [hk]
      obtain ⟨q, h1, h2⟩ := Option.bind_eq_some_iff.mp h
      simp only [h1, Option.bind_some]
      exact ih _ _ _ _ _ _ _ _ _ h2 hH
    · rename_i hk
      try simp only [hk]
      obtain ⟨q, h1, h2⟩ := Option.bind_eq_some_iff.mp h
      obtain ⟨A1, e1, hH1, hF1⟩ := rf_hp_ok (sL := sL) (sx := sx) (st' := q.1) (s' := q.2) h1 hH
      simp only [e1, Option.bind_some]
      obtain ⟨A2, e2, hH2, hF2⟩ := ih _ _ _ _ _ _ _ _ _ h2 hH1
      exact ⟨A2, e2, hH2, hF1.tr hF2⟩
    · rename_i hk
      try simp only [hk]
      obtain ⟨q, h1, h2⟩ := Option.map_eq_some_iff.mp h
      cases h2
      simp only [h1, Option.map_some]
      exact ⟨A, rfl, hH, rf_F.rf⟩
    · rename_i hk
      try simp only [hk]
      obtain ⟨q, h1, h2⟩ := Option.bind_eq_some_iff.mp h
      simp only [h1, Option.bind_some]
      by_cases hc : ¬ (q.2.map fun v => v.category).sum ≤ 8 ∨ 10000 ≤ a
      · rw [if_pos hc] at h2; cases h2
      · rw [if_neg hc] at h2
        have hc1 : ¬ ¬ (q.2.map fun v => v.category).sum ≤ 8 := fun z => hc (Or.inl z)
        have hc2 : ¬ 10000 ≤ a := fun z => hc (Or.inr z)
        rw [if_neg hc1]
        cases d with
        | zero => cases h2
        | succ d' =>
          dsimp only at h2 ⊢
          rw [if_neg (by omega), if_neg (by omega)]
          obtain ⟨N, h3, h4⟩ := Option.bind_eq_some_iff.mp h2
          simp only [h3, Option.bind_some]
          by_cases hrc : rf_rc ins q.1 N.2.2.2.2 = true ∧ (lg_sl q.1).length ≤ N.2.2.1
          · rw [if_pos hrc] at h4
            rw [if_pos ⟨rf_rc_ok hH hrc.1, hrc.2⟩]
            obtain ⟨w, h5, h6⟩ := Option.bind_eq_some_iff.mp h4
            obtain ⟨A1, e1, hH1, hF1⟩ := ih _ _ _ _ _ _ _ _ A h5 hH
            obtain ⟨A2, e2, hH2, hF2⟩ := ih _ _ _ _ _ _ _ _ A1 h6 hH1
            unfold am_rn at e1 e2
            simp only [e1, Option.bind_some]
            exact ⟨A2, e2, hH2, hF1.tr hF2⟩
          · rw [if_neg hrc] at h4; cases h4
    · cases h
