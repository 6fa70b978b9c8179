/-! PART 55: to run a method of the class on its picture: blocks, branches, calls, leaves -/
theorem cf_run_more : ∀ (f d k pc : Nat) (lv : am_L) (st : List Value) (s : cf_S) (x : Option Value × cf_S), cf_run f d k pc lv st s = some x → cf_run (f + 1) d k pc lv st s = some x := by
  intro f
  induction f with
  | zero => intro d k pc lv st s x h; simp [cf_run] at h
  | succ f ih =>
    intro d k pc lv st s x h
    rw [cf_run] at h ⊢
    obtain ⟨M, hM, h⟩ := Option.bind_eq_some_iff.mp h
    obtain ⟨I, hI, h⟩ := Option.bind_eq_some_iff.mp h
    refine Option.bind_eq_some_iff.mpr ⟨M, hM, Option.bind_eq_some_iff.mpr ⟨I, hI, ?_⟩⟩
    split at h
    · obtain ⟨q, h1, h2⟩ := Option.bind_eq_some_iff.mp h; exact Option.bind_eq_some_iff.mpr ⟨q, h1, ih _ _ _ _ _ _ _ h2⟩
    · obtain ⟨q, h1, h2⟩ := Option.bind_eq_some_iff.mp h; exact Option.bind_eq_some_iff.mpr ⟨q, h1, ih _ _ _ _ _ _ _ h2⟩
    · obtain ⟨q, h1, h2⟩ := Option.bind_eq_some_iff.mp h; exact Option.bind_eq_some_iff.mpr ⟨q, h1, ih _ _ _ _ _ _ _ h2⟩
    · obtain ⟨q, h1, h2⟩ := Option.bind_eq_some_iff.mp h; exact Option.bind_eq_some_iff.mpr ⟨q, h1, ih _ _ _ _ _ _ _ h2⟩
    · obtain ⟨q, h1, h2⟩ := Option.bind_eq_some_iff.mp h; exact Option.bind_eq_some_iff.mpr ⟨q, h1, ih _ _ _ _ _ _ _ h2⟩
    · obtain ⟨q, h1, h2⟩ := Option.bind_eq_some_iff.mp h; exact Option.bind_eq_some_iff.mpr ⟨q, h1, ih _ _ _ _ _ _ _ h2⟩
    · exact h
    · obtain ⟨q, h1, h2⟩ := Option.bind_eq_some_iff.mp h
      refine Option.bind_eq_some_iff.mpr ⟨q, h1, ?_⟩
      split at h2
      · cases h2
      · rename_i hc
        rw [if_neg hc]
        cases d with
        | zero => cases h2
        | succ d' =>
          dsimp only at h2 ⊢
          obtain ⟨N, h3, h4⟩ := Option.bind_eq_some_iff.mp h2
          refine Option.bind_eq_some_iff.mpr ⟨N, h3, ?_⟩
          split at h4
          · rename_i hrc
            rw [if_pos hrc]
            split at h4
            · rename_i hp
              rw [if_pos hp]
              split at h4
              · cases h4
              · rename_i hd
                rw [if_neg hd]
                obtain ⟨w, h5, h6⟩ := Option.bind_eq_some_iff.mp h4
                exact Option.bind_eq_some_iff.mpr ⟨w, h5, ih _ _ _ _ _ _ _ h6⟩
            · rename_i hp
              rw [if_neg hp]
              obtain ⟨w, h5, h6⟩ := Option.bind_eq_some_iff.mp h4
              exact Option.bind_eq_some_iff.mpr ⟨w, ih _ _ _ _ _ _ _ h5, ih _ _ _ _ _ _ _ h6⟩
          · cases h4
    · exact ih _ _ _ _ _ _ _ h
    · cases h
theorem cf_run_le {f g d k pc : Nat} {lv : am_L} {st : List Value} {s : cf_S} {x : Option Value × cf_S} (h : cf_run f d k pc lv st s = some x) (hg : f ≤ g) : cf_run g d k pc lv st s = some x := by
  obtain ⟨n, rfl⟩ := Nat.exists_eq_add_of_le hg
  clear hg
  induction n with
  | zero => exact h
  | succ n ih => exact cf_run_more _ _ _ _ _ _ _ _ ih
theorem cf_run_lv : ∀ (f d k pc : Nat) (l m : am_L) (st : List Value) (s : cf_S) (x : Option Value × cf_S), rf_le l m → cf_run f d k pc l st s = some x → cf_run f d k pc m st s = some x := by
  intro f
  induction f with
  | zero => intro d k pc l m st s x _ h; simp [cf_run] at h
  | succ f ih =>
    intro d k pc l m st s x hl h
    rw [cf_run] at h ⊢
    obtain ⟨M, hM, h⟩ := Option.bind_eq_some_iff.mp h
    obtain ⟨I, hI, h⟩ := Option.bind_eq_some_iff.mp h
    refine Option.bind_eq_some_iff.mpr ⟨M, hM, Option.bind_eq_some_iff.mpr ⟨I, hI, ?_⟩⟩
    split at h
    · obtain ⟨q, h1, h2⟩ := Option.bind_eq_some_iff.mp h; exact Option.bind_eq_some_iff.mpr ⟨q, h1, ih _ _ _ _ _ _ _ _ hl h2⟩
    · obtain ⟨q, h1, h2⟩ := Option.bind_eq_some_iff.mp h; exact Option.bind_eq_some_iff.mpr ⟨q, rf_le_lo hl h1, ih _ _ _ _ _ _ _ _ hl h2⟩
    · obtain ⟨q, h1, h2⟩ := Option.bind_eq_some_iff.mp h
      obtain ⟨m', h3, h4⟩ := rf_le_so hl h1
      exact Option.bind_eq_some_iff.mpr ⟨_, h3, ih _ _ _ _ _ _ _ _ h4 h2⟩
    · obtain ⟨q, h1, h2⟩ := Option.bind_eq_some_iff.mp h; exact Option.bind_eq_some_iff.mpr ⟨q, h1, ih _ _ _ _ _ _ _ _ hl h2⟩
    · obtain ⟨q, h1, h2⟩ := Option.bind_eq_some_iff.mp h; exact Option.bind_eq_some_iff.mpr ⟨q, h1, ih _ _ _ _ _ _ _ _ hl h2⟩
    · obtain ⟨q, h1, h2⟩ := Option.bind_eq_some_iff.mp h; exact Option.bind_eq_some_iff.mpr ⟨q, h1, ih _ _ _ _ _ _ _ _ hl h2⟩
    · exact h
    · obtain ⟨q, h1, h2⟩ := Option.bind_eq_some_iff.mp h
      refine Option.bind_eq_some_iff.mpr ⟨q, h1, ?_⟩
      split at h2
      · cases h2
      · rename_i hc
        rw [if_neg hc]
        cases d with
        | zero => cases h2
        | succ d' =>
          dsimp only at h2 ⊢
          obtain ⟨N, h3, h4⟩ := Option.bind_eq_some_iff.mp h2
          refine Option.bind_eq_some_iff.mpr ⟨N, h3, ?_⟩
          split at h4
          · rename_i hrc
            rw [if_pos hrc]
            split at h4
            · rename_i hp
              rw [if_pos hp]
              split at h4
              · cases h4
              · rename_i hd
                rw [if_neg hd]
                obtain ⟨w, h5, h6⟩ := Option.bind_eq_some_iff.mp h4
                exact Option.bind_eq_some_iff.mpr ⟨w, h5, ih _ _ _ _ _ _ _ _ hl h6⟩
            · rename_i hp
              rw [if_neg hp]
              obtain ⟨w, h5, h6⟩ := Option.bind_eq_some_iff.mp h4
              exact Option.bind_eq_some_iff.mpr ⟨w, h5, ih _ _ _ _ _ _ _ _ hl h6⟩
          · cases h4
    · exact ih _ _ _ _ _ _ _ _ hl h
    · cases h
abbrev cf_C : Type := Nat × am_L × List Value × cf_S
def cf_R (d k : Nat) (c : cf_C) (Q : Option Value → cf_S → Prop) : Prop := ∃ f v s', cf_run f d k c.1 c.2.1 c.2.2.1 c.2.2.2 = some (v, s') ∧ Q v s'
/-- what a method of the class does on its picture, it does -/
theorem cf_R_am {sL : Nat} {sx : Nat → Int32} {d k pc : Nat} {lv : am_L} {st : List Value} {s : cf_S} {A : am_A} {Q : Option Value → cf_S → Prop} (h : cf_R d k (pc, lv, st, s) Q) (hH : cf_H s A) : am_R sL sx d k (pc, lv, st, A) (fun v A' => ∃ s', Q v s' ∧ cf_H s' A' ∧ cf_F A A') := by
  obtain ⟨f, v, s', hf, hq⟩ := h
  exact am_R_imp (cf_sound _ _ _ _ _ _ _ _ _ _ hf hH) (fun v' A' e => by obtain ⟨rfl, e2⟩ := e; exact ⟨s', hq, e2⟩)
theorem cf_R_le {d k pc : Nat} {l m : am_L} {st : List Value} {s : cf_S} {Q : Option Value → cf_S → Prop} (h1 : rf_nd l = true) (h2 : rf_nd m = true) (h3 : rf_sub l m) (h : cf_R d k (pc, l, st, s) Q) : cf_R d k (pc, m, st, s) Q := by
  obtain ⟨f, v, s', hf, hq⟩ := h
  exact ⟨f, v, s', cf_run_lv _ _ _ _ _ _ _ _ _ ⟨h1, h2, rf_sub_mem h3⟩ hf, hq⟩
def cf_hw (ins : Instr) (a b : Nat) (st : List Value) (s : cf_S) (K : List Value → cf_S → Prop) : Prop := match ins with
  | .getfield _ => (match st with
    | .ref o :: r => if cf_cls o = some a ∧ b < (am_nf a).length then K (cf_fv s o a b :: r) s else False
    | _ => False)
  | .putfield _ => (match st with
    | .int x :: .ref o :: r => if cf_cls o = some a ∧ b < (am_nf a).length ∧ a ≠ 3 ∧ a ≠ 10 ∧ a ≠ 11 then am_fit ((am_nf a).getD b .int) (.int x) = true ∧ K r (cf_si s o b x) else False
    | .long x :: .ref o :: r => if cf_cls o = some a ∧ b < (am_nf a).length ∧ a ≠ 3 ∧ a ≠ 10 ∧ a ≠ 11 then am_fit ((am_nf a).getD b .int) (.long x) = true ∧ K r (cf_sj s o b x) else False
    | _ => False)
  | _ => False
theorem cf_hw_ok {ins : Instr} {a b : Nat} {st : List Value} {s : cf_S} {K : List Value → cf_S → Prop} (h : cf_hw ins a b st s K) : ∃ q, cf_hp ins a b st s = some q ∧ K q.1 q.2 := by
  unfold cf_hw at h
  split at h
  · split at h
    · split at h
      · rename_i hc; exact ⟨_, by simp only [cf_hp, cf_gf]; rw [if_pos hc], h⟩
      · exact h.elim
    · exact h.elim
  · split at h
    · split at h
      · rename_i hc; exact ⟨_, by simp only [cf_hp, cf_pf]; rw [if_pos ⟨hc, h.1⟩], h.2⟩
      · exact h.elim
    · split at h
      · rename_i hc; exact ⟨_, by simp only [cf_hp, cf_pf]; rw [if_pos ⟨hc, h.1⟩], h.2⟩
      · exact h.elim
    · exact h.elim
  · exact h.elim
def cf_w (nL : Nat) : List am_I → cf_C → (cf_C → Prop) → Prop
  | [], c, K => K c
  | I :: is, c, K => match am_kd I.1 I.2.2.2.2.2 with
    | 0 => (match am_sk I.1 I.2.2.1 c.2.2.1 with
      | some st' => cf_w nL is (c.1 + I.2.1, c.2.1, st', c.2.2.2) K
      | none => False)
    | 1 => (match am_lo I.1 c.2.1 with
      | some v => cf_w nL is (c.1 + I.2.1, c.2.1, v :: c.2.2.1, c.2.2.2) K
      | none => False)
    | 2 => (match am_so I.1 nL c.2.1 c.2.2.1 with
      | some q => cf_w nL is (c.1 + I.2.1, q.1, q.2, c.2.2.2) K
      | none => False)
    | 3 => (match am_br I.1 c.2.2.1 with
      | some q => cf_w nL is (if q.1 = true then I.2.2.1 else c.1 + I.2.1, c.2.1, q.2, c.2.2.2) K
      | none => False)
    | 4 => (match am_st1 c.2.2.1 with
      | some q => cf_w nL is (am_sw q.1 I.2.2.2.2.2 I.2.2.1, c.2.1, q.2, c.2.2.2) K
      | none => False)
    | 5 => cf_hw I.1 I.2.2.1 I.2.2.2.1 c.2.2.1 c.2.2.2 (fun st' s' => cf_w nL is (c.1 + I.2.1, c.2.1, st', s') K)
    | 8 => cf_w nL is (c.1 + I.2.1, c.2.1, .ref 1000000001 :: c.2.2.1, c.2.2.2) K
    | _ => False
theorem cf_R_w {d k : Nat} {M : am_T} {t : List (Nat × am_I)} {Q : Option Value → cf_S → Prop} (hk : am_prog[k]? = some (M, t)) : ∀ (is : List am_I) (pc : Nat) (lv : am_L) (st : List Value) (s : cf_S), rf_is_at t pc is → (∀ J ∈ is.dropLast, am_kd J.1 J.2.2.2.2.2 ≠ 3 ∧ am_kd J.1 J.2.2.2.2.2 ≠ 4) → cf_w M.2.2.1 is (pc, lv, st, s) (fun c' => cf_R d k c' Q) → cf_R d k (pc, lv, st, s) Q := by
  have hM : am_mth k = some M := by unfold am_mth; rw [hk]; rfl
  intro is
  induction is with
  | nil => intro pc lv st s _ _ h; exact h
  | cons I is ih =>
    intro pc lv st s h1 h2 h
    obtain ⟨hI, h1⟩ := h1
    have hT : am_tbl k pc = some I := by unfold am_tbl; rw [hk]; exact hI
    have step : ∀ c' : cf_C, cf_R d k c' Q → (∀ f, cf_run (f + 1) d k pc lv st s = cf_run f d k c'.1 c'.2.1 c'.2.2.1 c'.2.2.2) → cf_R d k (pc, lv, st, s) Q := by
      intro c' hR he
      obtain ⟨f, v, s', hf, hq⟩ := hR
      exact ⟨f + 1, v, s', (he f).trans hf, hq⟩
    have hd : is = [] ∨ (am_kd I.1 I.2.2.2.2.2 ≠ 3 ∧ am_kd I.1 I.2.2.2.2.2 ≠ 4) := by
      cases is with
      | nil => exact Or.inl rfl
      | cons J js => exact Or.inr (h2 I (by simp [List.dropLast]))
    have hj : ∀ J ∈ is.dropLast, am_kd J.1 J.2.2.2.2.2 ≠ 3 ∧ am_kd J.1 J.2.2.2.2.2 ≠ 4 := by
      cases is with
      | nil => intro J hJ; cases hJ
      | cons J js => intro J' hJ'; exact h2 J' (by simp only [List.dropLast]; exact List.mem_cons_of_mem _ hJ')
    rw [cf_w] at h
    split at h
    · rename_i hkd
      split at h
      · rename_i q hq
        refine step _ (ih _ _ _ _ h1 hj h) (fun f => ?_)
        rw [cf_run, hM, hT]
        simp only [Option.bind_some, hkd]
        dsimp only at hq
        simp only [hq, Option.bind_some]
      · exact h.elim
    · rename_i hkd
      split at h
      · rename_i q hq
        refine step _ (ih _ _ _ _ h1 hj h) (fun f => ?_)
        rw [cf_run, hM, hT]
        simp only [Option.bind_some, hkd]
        dsimp only at hq
        simp only [hq, Option.bind_some]
      · exact h.elim
    · rename_i hkd
      split at h
      · rename_i q hq
        refine step _ (ih _ _ _ _ h1 hj h) (fun f => ?_)
        rw [cf_run, hM, hT]
        simp only [Option.bind_some, hkd]
        dsimp only at hq
        simp only [hq, Option.bind_some]
      · exact h.elim
    · rename_i hkd
      obtain rfl : is = [] := hd.elim id (fun z => absurd hkd z.1)
      split at h
      · rename_i q hq
        refine step _ h (fun f => ?_)
        rw [cf_run, hM, hT]
        simp only [Option.bind_some, hkd]
        dsimp only at hq
        simp only [hq, Option.bind_some]
      · exact h.elim
    · rename_i hkd
      obtain rfl : is = [] := hd.elim id (fun z => absurd hkd z.2)
      split at h
      · rename_i q hq
        refine step _ h (fun f => ?_)
        rw [cf_run, hM, hT]
        simp only [Option.bind_some, hkd]
        dsimp only at hq
        simp only [hq, Option.bind_some]
      · exact h.elim
    · rename_i hkd
      obtain ⟨q, hq, h⟩ := cf_hw_ok h
      refine step _ (ih _ _ _ _ h1 hj h) (fun f => ?_)
      rw [cf_run, hM, hT]
      simp only [Option.bind_some, hkd]
      dsimp only at hq
      simp only [hq, Option.bind_some]
    · rename_i hkd
      refine step _ (ih _ _ _ _ h1 hj h) (fun f => ?_)
      rw [cf_run, hM, hT]
      simp only [Option.bind_some, hkd]
    · exact h.elim
theorem cf_R_ret {d k pc : Nat} {lv : am_L} {st : List Value} {s : cf_S} {M : am_T} {t : List (Nat × am_I)} {Q : Option Value → cf_S → Prop} {I : am_I} {v : Option Value} (hk : am_prog[k]? = some (M, t)) (hI : am_look t pc = some I) (hkd : am_kd I.1 I.2.2.2.2.2 = 6) (hv : am_rt I.1 M.2.2.2.1 st = some v) (hQ : Q v s) : cf_R d k (pc, lv, st, s) Q := by
  refine ⟨1, v, s, ?_, hQ⟩
  have hM : am_mth k = some M := by unfold am_mth; rw [hk]; rfl
  have hT : am_tbl k pc = some I := by unfold am_tbl; rw [hk]; exact hI
  rw [cf_run, hM, hT]
  simp only [Option.bind_some, hkd, hv, Option.map_some]
theorem cf_R_retF {d k pc : Nat} {lv : am_L} {x : Int32} {s : cf_S} {M : am_T} {t : List (Nat × am_I)} {Q : Option Value → cf_S → Prop} {ty : FieldType} {a b cI l : Nat} {sw : List (Int32 × Nat)} (hk : am_prog[k]? = some (M, t)) (hI : am_look t pc = some (.ireturn, l, a, b, cI, sw)) (ht : M.2.2.2.1 = some ty) (hf : am_fit ty (.int x) = true) (hQ : Q (some (.int x)) s) : cf_R d k (pc, lv, [.int x], s) Q := by
  refine cf_R_ret hk hI rfl (v := some (.int x)) ?_ hQ
  rw [ht]
  simp only [am_rt, hf, if_pos]
theorem cf_R_call {d k a b pc : Nat} {lv : am_L} {st : List Value} {s : cf_S} {M N : am_T} {t t' : List (Nat × am_I)} {ins : Instr} {cI : Nat} {sw : List (Int32 × Nat)} {q : List Value × List Value} {Q Q' : Option Value → cf_S → Prop} (hk : am_prog[k]? = some (M, t)) (hI : am_look t pc = some (ins, 3, a, b, cI, sw)) (hkd : am_kd ins sw = 7) (ha : a < 10000) (hp : ¬ a ∈ cf_ps) (hN : am_prog[a]? = some (N, t')) (hca : am_ca ins b st = some q) (hcat : (q.2.map fun v => v.category).sum ≤ 8) (hrc : cf_rc ins q.1 N.2.2.2.2 = true ∧ (lg_sl q.1).length ≤ N.2.2.1)
    (hR : cf_R d a (0, lv_args 0 q.1, [], s) Q') (kk : ∀ v s', Q' v s' → cf_R (d + 1) k (pc + 3, lv, v.toList ++ q.2, s') Q) : cf_R (d + 1) k (pc, lv, st, s) Q := by
  obtain ⟨f, v, A1, hf, hq⟩ := hR
  obtain ⟨g, w, A2, hg, hQ⟩ := kk v A1 hq
  refine ⟨max f g + 1, w, A2, ?_, hQ⟩
  have hM : am_mth k = some M := by unfold am_mth; rw [hk]; rfl
  have hN' : am_mth a = some N := by unfold am_mth; rw [hN]; rfl
  have hT : am_tbl k pc = some (ins, 3, a, b, cI, sw) := by unfold am_tbl; rw [hk]; exact hI
  rw [cf_run, hM, hT]
  simp only [Option.bind_some, hkd, hca]
  rw [if_neg (fun z => z.elim (fun y => y hcat) (fun y => absurd y (by omega))), hN']
  simp only [Option.bind_some]
  rw [if_pos hrc, if_neg hp, cf_run_le hf (Nat.le_max_left f g)]
  exact cf_run_le hg (Nat.le_max_right f g)
theorem cf_R_prim {d k a b pc : Nat} {lv : am_L} {st : List Value} {s : cf_S} {M N : am_T} {t t' : List (Nat × am_I)} {ins : Instr} {cI : Nat} {sw : List (Int32 × Nat)} {q : List Value × List Value} {w : Option Value × cf_S} {Q : Option Value → cf_S → Prop} (hk : am_prog[k]? = some (M, t)) (hI : am_look t pc = some (ins, 3, a, b, cI, sw)) (hkd : am_kd ins sw = 7) (ha : a < 10000) (hp : a ∈ cf_ps) (hN : am_prog[a]? = some (N, t')) (hca : am_ca ins b st = some q) (hcat : (q.2.map fun v => v.category).sum ≤ 8) (hrc : cf_rc ins q.1 N.2.2.2.2 = true ∧ (lg_sl q.1).length ≤ N.2.2.1)
    (hv : cf_prim a q.1 s = some w) (kk : cf_R (d + 10) k (pc + 3, lv, w.1.toList ++ q.2, w.2) Q) : cf_R (d + 10) k (pc, lv, st, s) Q := by
  obtain ⟨g, v, A2, hg, hQ⟩ := kk
  refine ⟨g + 1, v, A2, ?_, hQ⟩
  have hM : am_mth k = some M := by unfold am_mth; rw [hk]; rfl
  have hN' : am_mth a = some N := by unfold am_mth; rw [hN]; rfl
  have hT : am_tbl k pc = some (ins, 3, a, b, cI, sw) := by unfold am_tbl; rw [hk]; exact hI
  rw [cf_run, hM, hT]
  simp only [Option.bind_some, hkd, hca]
  rw [if_neg (fun z => z.elim (fun y => y hcat) (fun y => absurd y (by omega))), hN']
  simp only [Option.bind_some]
  rw [if_pos hrc, if_pos hp, if_neg (by omega), hv]
  exact hg
theorem cf_R_imp {d k : Nat} {c : cf_C} {Q Q' : Option Value → cf_S → Prop} (h : cf_R d k c Q) (hq : ∀ v s, Q v s → Q' v s) : cf_R d k c Q' := by
  obtain ⟨f, v, s', hf, h1⟩ := h
  exact ⟨f, v, s', hf, hq v s' h1⟩
theorem cf_R_if {d k p q : Nat} {b : Bool} {lv : am_L} {st : List Value} {s : cf_S} {Q : Option Value → cf_S → Prop} (ht : b = true → cf_R d k (p, lv, st, s) Q) (hf : b = false → cf_R d k (q, lv, st, s) Q) : cf_R d k (if b = true then p else q, lv, st, s) Q := by
  cases b
  · exact hf rfl
  · exact ht rfl
theorem cf_R_sw {d k a p : Nat} {x v : Int32} {sw : List (Int32 × Nat)} {lv : am_L} {st : List Value} {s : cf_S} {Q : Option Value → cf_S → Prop} (h1 : x = v → cf_R d k (p, lv, st, s) Q) (h2 : ¬ x = v → cf_R d k (am_sw x sw a, lv, st, s) Q) : cf_R d k (am_sw x ((v, p) :: sw) a, lv, st, s) Q := by
  rw [am_sw_cons]
  by_cases h : x = v
  · rw [if_pos h.symm]; exact h1 h
  · rw [if_neg (fun z => h z.symm)]; exact h2 h
theorem cf_R_sk {d k pc a b cI l : Nat} {lv : am_L} {st st' : List Value} {s : cf_S} {M : am_T} {t : List (Nat × am_I)} {Q : Option Value → cf_S → Prop} {ins : Instr} {sw : List (Int32 × Nat)} (hk : am_prog[k]? = some (M, t)) (hI : am_look t pc = some (ins, l, a, b, cI, sw)) (hkd : am_kd ins sw = 0) (hv : am_sk ins a st = some st') (h : cf_R d k (pc + l, lv, st', s) Q) : cf_R d k (pc, lv, st, s) Q := by
  obtain ⟨f, v, s', hf, hq⟩ := h
  refine ⟨f + 1, v, s', ?_, hq⟩
  have hM : am_mth k = some M := by unfold am_mth; rw [hk]; rfl
  have hT : am_tbl k pc = some (ins, l, a, b, cI, sw) := by unfold am_tbl; rw [hk]; exact hI
  rw [cf_run, hM, hT]
  simp only [Option.bind_some, hkd, hv]
  exact hf
theorem cf_sk_idiv {a : Nat} {x y : Int32} {st : List Value} (hy : ¬ y = 0) : am_sk .idiv a (.int y :: .int x :: st) = some (.int (x / y) :: st) := by
  simp only [am_sk, am_ii, if_neg hy, Option.map_some]
theorem cf_sk_irem {a : Nat} {x y : Int32} {st : List Value} (hy : ¬ y = 0) : am_sk .irem a (.int y :: .int x :: st) = some (.int (x - x / y * y) :: st) := by
  simp only [am_sk, am_ii, if_neg hy, Option.map_some]
theorem cf_sk_ldiv {a : Nat} {x y : Int64} {st : List Value} (hy : ¬ y = 0) : am_sk .ldiv a (.long y :: .long x :: st) = some (.long (x / y) :: st) := by
  simp only [am_sk, am_ll, if_neg hy, Option.map_some]
theorem cf_sk_lrem {a : Nat} {x y : Int64} {st : List Value} (hy : ¬ y = 0) : am_sk .lrem a (.long y :: .long x :: st) = some (.long (x - x / y * y) :: st) := by
  simp only [am_sk, am_ll, if_neg hy, Option.map_some]
def cf_qI (Q : Int32 → cf_S → Prop) : Option Value → cf_S → Prop := fun v s => ∃ r, v = some (.int r) ∧ Q r s
def cf_qJ (Q : Int64 → cf_S → Prop) : Option Value → cf_S → Prop := fun v s => ∃ r, v = some (.long r) ∧ Q r s
def cf_qA (Q : Nat → cf_S → Prop) : Option Value → cf_S → Prop := fun v s => ∃ r, v = some (.ref r) ∧ Q r s
def cf_qV (Q : cf_S → Prop) : Option Value → cf_S → Prop := fun v s => v = none ∧ Q s
def cf_I (d k : Nat) (lv : am_L) (s : cf_S) (Q : Int32 → cf_S → Prop) : Prop := cf_R d k (0, lv, [], s) (cf_qI Q)
def cf_J (d k : Nat) (lv : am_L) (s : cf_S) (Q : Int64 → cf_S → Prop) : Prop := cf_R d k (0, lv, [], s) (cf_qJ Q)
def cf_A (d k : Nat) (lv : am_L) (s : cf_S) (Q : Nat → cf_S → Prop) : Prop := cf_R d k (0, lv, [], s) (cf_qA Q)
def cf_V (d k : Nat) (lv : am_L) (s : cf_S) (Q : cf_S → Prop) : Prop := cf_R d k (0, lv, [], s) (cf_qV Q)
theorem cf_I_imp {d k : Nat} {lv : am_L} {s : cf_S} {Q Q' : Int32 → cf_S → Prop} (h : cf_I d k lv s Q) (hq : ∀ r s', Q r s' → Q' r s') : cf_I d k lv s Q' := cf_R_imp h (fun _ _ ⟨r, e, q⟩ => ⟨r, e, hq _ _ q⟩)
theorem cf_J_imp {d k : Nat} {lv : am_L} {s : cf_S} {Q Q' : Int64 → cf_S → Prop} (h : cf_J d k lv s Q) (hq : ∀ r s', Q r s' → Q' r s') : cf_J d k lv s Q' := cf_R_imp h (fun _ _ ⟨r, e, q⟩ => ⟨r, e, hq _ _ q⟩)
theorem cf_A_imp {d k : Nat} {lv : am_L} {s : cf_S} {Q Q' : Nat → cf_S → Prop} (h : cf_A d k lv s Q) (hq : ∀ r s', Q r s' → Q' r s') : cf_A d k lv s Q' := cf_R_imp h (fun _ _ ⟨r, e, q⟩ => ⟨r, e, hq _ _ q⟩)
theorem cf_V_imp {d k : Nat} {lv : am_L} {s : cf_S} {Q Q' : cf_S → Prop} (h : cf_V d k lv s Q) (hq : ∀ s', Q s' → Q' s') : cf_V d k lv s Q' := cf_R_imp h (fun _ _ ⟨e, q⟩ => ⟨e, hq _ q⟩)
section CQ
variable {s : cf_S} {o : Nat}
theorem cq_length (h : cf_cls o = some 3) : cf_prim 118 [.ref o] s = some (some (.int (s.1 o 1)), s) := by unfold cf_prim; dsimp only; rw [if_pos ⟨rfl, h⟩]
theorem cq_isOver (h : cf_cls o = some 3) (h2 : s.1 o 2 = 0 ∨ s.1 o 2 = 1) : cf_prim 119 [.ref o] s = some (some (.int (s.1 o 2)), s) := by unfold cf_prim; dsimp only; rw [if_neg (fun z => absurd z.1 (by decide)), if_pos ⟨rfl, h, h2⟩]
theorem cq_rows (h : cf_cls o = some 10) : cf_prim 270 [.ref o] s = some (some (.int (s.1 o 2)), s) := by unfold cf_prim; dsimp only; rw [if_neg (fun z => absurd z.1 (by decide)), if_neg (fun z => absurd z.1 (by decide)), if_pos ⟨rfl, h⟩]
theorem cq_tadd (h : cf_cls o = some 10) (h2 : cf_N s + 1 < 1000000000) : cf_prim 272 [.ref o] s = some (some (.int (tb_new s o)), tb_add s o) := by unfold cf_prim; dsimp only; rw [if_neg (fun z => absurd z.1 (by decide)), if_neg (fun z => absurd z.1 (by decide)), if_neg (fun z => absurd z.1 (by decide)), if_pos ⟨rfl, h, h2⟩]
theorem cq_sw : cf_prim 143 [.ref 26] s = some (none, hp_sw s) := by unfold cf_prim; dsimp only; rw [if_neg (fun z => absurd z.1 (by decide)), if_neg (fun z => absurd z.1 (by decide)), if_neg (fun z => absurd z.1 (by decide)), if_neg (fun z => absurd z.1 (by decide)), if_pos ⟨rfl, rfl⟩]
theorem cq_at {i : Int32} (h : cf_cls o = some 3) : cf_prim 120 [.ref o, .int i] s = some (some (.int (by_g s o i)), s) := by unfold cf_prim; dsimp only; rw [if_pos ⟨rfl, h⟩]
theorem cq_cut {i : Int32} (h : cf_cls o = some 3) : cf_prim 121 [.ref o, .int i] s = some (none, by_c s o i) := by unfold cf_prim; dsimp only; rw [if_neg (fun z => absurd z.1 (by decide)), if_pos ⟨rfl, h⟩]
theorem cq_add {i : Int32} (h : cf_cls o = some 3) : cf_prim 122 [.ref o, .int i] s = some (none, by_a s o i) := by unfold cf_prim; dsimp only; rw [if_neg (fun z => absurd z.1 (by decide)), if_neg (fun z => absurd z.1 (by decide)), if_pos ⟨rfl, h⟩]
theorem cq_tcut {i : Int32} (h : cf_cls o = some 10) : cf_prim 271 [.ref o, .int i] s = some (none, tb_cut s o i) := by unfold cf_prim; dsimp only; rw [if_neg (fun z => absurd z.1 (by decide)), if_neg (fun z => absurd z.1 (by decide)), if_neg (fun z => absurd z.1 (by decide)), if_pos ⟨rfl, h⟩]
theorem cq_wget {i : Int32} (h : cf_cls o = some 11) : cf_prim 280 [.ref o, .int i] s = some (some (.long (wd_g s o i)), s) := by unfold cf_prim; dsimp only; rw [if_neg (fun z => absurd z.1 (by decide)), if_neg (fun z => absurd z.1 (by decide)), if_neg (fun z => absurd z.1 (by decide)), if_neg (fun z => absurd z.1 (by decide)), if_pos ⟨rfl, h⟩]
theorem cq_fit {i : Int32} (h : cf_cls o = some 11) (h2 : cf_N s + 1 < 1000000000) : cf_prim 279 [.ref o, .int i] s = some (none, wd_f s o i) := by unfold cf_prim; dsimp only; rw [if_neg (fun z => absurd z.1 (by decide)), if_neg (fun z => absurd z.1 (by decide)), if_neg (fun z => absurd z.1 (by decide)), if_neg (fun z => absurd z.1 (by decide)), if_neg (fun z => absurd z.1 (by decide)), if_pos ⟨rfl, h, h2⟩]
theorem cq_let (h : cf_cls o = some 3) : cf_prim 124 [.ref o, .ref 1000000001] s = some (none, by_L s o) := by unfold cf_prim; dsimp only; rw [if_pos ⟨rfl, h, rfl⟩]
theorem cq_get {r f : Int32} (h : cf_cls o = some 10) : cf_prim 273 [.ref o, .int r, .int f] s = some (some (.int (tb_get s o r f)), s) := by unfold cf_prim; dsimp only; rw [if_pos ⟨rfl, h⟩]
theorem cq_set {r f v : Int32} (h : cf_cls o = some 10) : cf_prim 274 [.ref o, .int r, .int f, .int v] s = some (none, tb_set s o r f v) := by unfold cf_prim; dsimp only; rw [if_pos ⟨rfl, h⟩]
theorem cq_wset {i : Int32} {v : Int64} (h : cf_cls o = some 11) : cf_prim 281 [.ref o, .int i, .long v] s = some (none, wd_s s o i v) := by unfold cf_prim; dsimp only; rw [if_pos ⟨rfl, h⟩]
theorem cq_of {t v : Int32} : cf_prim 275 [.int t, .int v] s = some (some (.long (rf_word t v)), s) := rfl
theorem cq_tag {w : Int64} : cf_prim 276 [.long w] s = some (some (.int (rf_isOf w)), s) := rfl
theorem cq_value {w : Int64} : cf_prim 277 [.long w] s = some (some (.int w.toInt32), s) := rfl
end CQ
