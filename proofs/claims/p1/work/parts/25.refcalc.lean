/-! PART 25: to run a method of the reference: blocks, branches, calls -/
theorem rf_run_more : ∀ (f d k pc : Nat) (lv : am_L) (st : List Value) (s : rf_S) (x : Option Value × rf_S), rf_run f d k pc lv st s = some x → rf_run (f + 1) d k pc lv st s = some x := by
  intro f
  induction f with
  | zero => intro d k pc lv st s x h; simp [rf_run] at h
  | succ f ih =>
    intro d k pc lv st s x h
    rw [rf_run] at h ⊢
    obtain ⟨M, hM, h⟩ := Option.bind_eq_some_iff.mp h
    obtain ⟨I, hI, h⟩ := Option.bind_eq_some_iff.mp h
    refine Option.bind_eq_some_iff.mpr ⟨M, hM, Option.bind_eq_some_iff.mpr ⟨I, hI, ?_⟩⟩
    split at h
    · obtain ⟨q, h1, h2⟩ := Option.bind_eq_some_iff.mp h; exact Option.bind_eq_some_iff.mpr ⟨q, h1, ih _ _ _ _ _ _ _ h2⟩
    · obtain ⟨q, h1, h2⟩ := Option.bind_eq_some_iff.mp h; exact Option.bind_eq_some_iff.mpr ⟨q, h1, ih _ _ _ _ _ _ _ h2⟩
    · obtain ⟨q, h1, h2⟩ := Option.bind_eq_some_iff.mp h; exact Option.bind_eq_some_iff.mpr ⟨q, h1, ih _ _ _ _ _ _ _ h2⟩
    · obtain ⟨q, h1, h2⟩ := Option.bind_eq_some_iff.mp h; exact Option.bind_eq_some_iff.mpr ⟨q, h1, ih _ _ _ _ _ _ _ h2⟩
    · obtain ⟨q, h1, h2⟩ := Option.bind_eq_some_iff.mp h; exact Option.bind_eq_some_iff.mpr ⟨q, h1, ih _ _ _ _ _ _ _ h2⟩
    · obtain ⟨q, h1, h2⟩ := Option.bind_eq_some_iff.mp h; exact Option.bind_eq_some_iff.mpr ⟨q, h1, ih _ _ _ _ _ _ _ h2⟩
    · exact h
    · obtain ⟨q, h1, h2⟩ := Option.bind_eq_some_iff.mp h
      refine Option.bind_eq_some_iff.mpr ⟨q, h1, ?_⟩
      split at h2
      · cases h2
      · rename_i hc
        rw [if_neg hc]
        cases d with
        | zero => cases h2
        | succ d' =>
          dsimp only at h2 ⊢
          obtain ⟨N, h3, h4⟩ := Option.bind_eq_some_iff.mp h2
          refine Option.bind_eq_some_iff.mpr ⟨N, h3, ?_⟩
          split at h4
          · rename_i hrc
            rw [if_pos hrc]
            obtain ⟨w, h5, h6⟩ := Option.bind_eq_some_iff.mp h4
            exact Option.bind_eq_some_iff.mpr ⟨w, ih _ _ _ _ _ _ _ h5, ih _ _ _ _ _ _ _ h6⟩
          · cases h4
    · cases h
theorem rf_run_le {f g d k pc : Nat} {lv : am_L} {st : List Value} {s : rf_S} {x : Option Value × rf_S} (h : rf_run f d k pc lv st s = some x) (hg : f ≤ g) : rf_run g d k pc lv st s = some x := by
  obtain ⟨n, rfl⟩ := Nat.exists_eq_add_of_le hg
  clear hg
  induction n with
  | zero => exact h
  | succ n ih => exact rf_run_more _ _ _ _ _ _ _ _ ih
abbrev rf_C : Type := Nat × am_L × List Value × rf_S
/-- the reference's method k, at depth d, from a state on, comes to its end, with Q of its answer and its rows -/
def rf_R (d k : Nat) (c : rf_C) (Q : Option Value → rf_S → Prop) : Prop := ∃ f v s', rf_run f d k c.1 c.2.1 c.2.2.1 c.2.2.2 = some (v, s') ∧ Q v s'
/-- a step on the rows: what must hold (the places are in their rows), and K of what is behind it -/
def rf_hw (ins : Instr) (a b : Nat) (st : List Value) (s : rf_S) (K : List Value → rf_S → Prop) : Prop := match ins with
  | .getfield _ => (match st with
    | .ref q :: r => if q = rf_o ∧ a = 0 ∧ b < 84 then K (rf_fv s b :: r) s else False
    | _ => False)
  | .putfield _ => (match st with
    | .int x :: .ref q :: r => if q = rf_o ∧ a = 0 ∧ b < 84 then am_fit (rf_ft b) (.int x) = true ∧ K r (upd s.1 b x, s.2) else False
    | .long x :: .ref q :: r => if q = rf_o ∧ a = 0 ∧ b < 84 then am_fit (rf_ft b) (.long x) = true ∧ K r (s.1, vp_updL s.2.1 b x, s.2.2) else False
    | _ => False)
  | .iaload => (match st with
    | .int i :: .ref q :: r => (match rf_of q with
      | some c => if rf_ft c = .array .int then ¬ (i < 0 ∨ rf_len c ≤ i.toNatClampNeg) ∧ K (.int (s.2.2.1 c i.toNatClampNeg) :: r) s else False
      | none => False)
    | _ => False)
  | .baload => (match st with
    | .int i :: .ref q :: r => (match rf_of q with
      | some c => if rf_ft c = .array .boolean then ¬ (i < 0 ∨ rf_len c ≤ i.toNatClampNeg) ∧ K (.int (s.2.2.1 c i.toNatClampNeg) :: r) s else False
      | none => False)
    | _ => False)
  | .laload => (match st with
    | .int i :: .ref q :: r => (match rf_of q with
      | some c => if rf_ft c = .array .long then ¬ (i < 0 ∨ rf_len c ≤ i.toNatClampNeg) ∧ K (.long (s.2.2.2 c i.toNatClampNeg) :: r) s else False
      | none => False)
    | _ => False)
  | .iastore => (match st with
    | .int x :: .int i :: .ref q :: r => (match rf_of q with
      | some c => if rf_ft c = .array .int then ¬ (i < 0 ∨ rf_len c ≤ i.toNatClampNeg) ∧ K r (s.1, s.2.1, rf_upB s.2.2.1 c i.toNatClampNeg x, s.2.2.2) else False
      | none => False)
    | _ => False)
  | .bastore => (match st with
    | .int x :: .int i :: .ref q :: r => (match rf_of q with
      | some c => if rf_ft c = .array .boolean then ¬ (i < 0 ∨ rf_len c ≤ i.toNatClampNeg) ∧ K r (s.1, s.2.1, rf_upB s.2.2.1 c i.toNatClampNeg (vp_nar .boolean x), s.2.2.2) else False
      | none => False)
    | _ => False)
  | .lastore => (match st with
    | .long x :: .int i :: .ref q :: r => (match rf_of q with
      | some c => if rf_ft c = .array .long then ¬ (i < 0 ∨ rf_len c ≤ i.toNatClampNeg) ∧ K r (s.1, s.2.1, s.2.2.1, rf_upL s.2.2.2 c i.toNatClampNeg x) else False
      | none => False)
    | _ => False)
  | _ => False
theorem rf_hw_ok {ins : Instr} {a b : Nat} {st : List Value} {s : rf_S} {K : List Value → rf_S → Prop} (h : rf_hw ins a b st s K) : ∃ q, rf_hp ins a b st s = some q ∧ K q.1 q.2 := by
  unfold rf_hw at h
  split at h
  · split at h
    · split at h
      · rename_i hc; exact ⟨_, by simp only [rf_hp, rf_gf]; rw [if_pos hc], h⟩
      · exact h.elim
    · exact h.elim
  · split at h
    · split at h
      · rename_i hc; exact ⟨_, by simp only [rf_hp, rf_pf]; rw [if_pos ⟨hc.1, hc.2.1, hc.2.2, h.1⟩], h.2⟩
      · exact h.elim
    · split at h
      · rename_i hc; exact ⟨_, by simp only [rf_hp, rf_pf]; rw [if_pos ⟨hc.1, hc.2.1, hc.2.2, h.1⟩], h.2⟩
      · exact h.elim
    · exact h.elim
  · split at h
    · split at h
      · split at h
        · rename_i hq hc; exact ⟨_, by simp only [rf_hp, rf_il, hq, Option.bind_some]; rw [if_pos ⟨hc, h.1⟩], h.2⟩
        · exact h.elim
      · exact h.elim
    · exact h.elim
  · split at h
    · split at h
      · split at h
        · rename_i hq hc; exact ⟨_, by simp only [rf_hp, rf_il, hq, Option.bind_some]; rw [if_pos ⟨hc, h.1⟩], h.2⟩
        · exact h.elim
      · exact h.elim
    · exact h.elim
  · split at h
    · split at h
      · split at h
        · rename_i hq hc; exact ⟨_, by simp only [rf_hp, rf_ll, hq, Option.bind_some]; rw [if_pos ⟨hc, h.1⟩], h.2⟩
        · exact h.elim
      · exact h.elim
    · exact h.elim
  · split at h
    · split at h
      · split at h
        · rename_i hq hc; exact ⟨_, by simp only [rf_hp, rf_is, hq, Option.bind_some]; rw [if_pos ⟨hc, h.1⟩], h.2⟩
        · exact h.elim
      · exact h.elim
    · exact h.elim
  · split at h
    · split at h
      · split at h
        · rename_i hq hc; exact ⟨_, by simp only [rf_hp, rf_is, hq, Option.bind_some]; rw [if_pos ⟨hc, h.1⟩], h.2⟩
        · exact h.elim
      · exact h.elim
    · exact h.elim
  · split at h
    · split at h
      · split at h
        · rename_i hq hc; exact ⟨_, by simp only [rf_hp, rf_ls, hq, Option.bind_some]; rw [if_pos ⟨hc, h.1⟩], h.2⟩
        · exact h.elim
      · exact h.elim
    · exact h.elim
  · exact h.elim
/-- a block: its instructions, executed one behind the other; K of the state behind it -/
def rf_w (nL : Nat) : List am_I → rf_C → (rf_C → Prop) → Prop
  | [], c, K => K c
  | I :: is, c, K => match am_kd I.1 I.2.2.2.2.2 with
    | 0 => (match am_sk I.1 I.2.2.1 c.2.2.1 with
      | some st' => rf_w nL is (c.1 + I.2.1, c.2.1, st', c.2.2.2) K
      | none => False)
    | 1 => (match am_lo I.1 c.2.1 with
      | some v => rf_w nL is (c.1 + I.2.1, c.2.1, v :: c.2.2.1, c.2.2.2) K
      | none => False)
    | 2 => (match am_so I.1 nL c.2.1 c.2.2.1 with
      | some q => rf_w nL is (c.1 + I.2.1, q.1, q.2, c.2.2.2) K
      | none => False)
    | 3 => (match am_br I.1 c.2.2.1 with
      | some q => rf_w nL is (if q.1 = true then I.2.2.1 else c.1 + I.2.1, c.2.1, q.2, c.2.2.2) K
      | none => False)
    | 4 => (match am_st1 c.2.2.1 with
      | some q => rf_w nL is (am_sw q.1 I.2.2.2.2.2 I.2.2.1, c.2.1, q.2, c.2.2.2) K
      | none => False)
    | 5 => rf_hw I.1 I.2.2.1 I.2.2.2.1 c.2.2.1 c.2.2.2 (fun st' s' => rf_w nL is (c.1 + I.2.1, c.2.1, st', s') K)
    | _ => False
/-- the instructions of a table from pc on -/
def rf_is_at (t : List (Nat × am_I)) : Nat → List am_I → Prop
  | _, [] => True
  | pc, I :: is => am_look t pc = some I ∧ rf_is_at t (pc + I.2.1) is
theorem rf_R_w {d k : Nat} {M : am_T} {t : List (Nat × am_I)} {Q : Option Value → rf_S → Prop} (hk : am_prog[k]? = some (M, t)) : ∀ (is : List am_I) (pc : Nat) (lv : am_L) (st : List Value) (s : rf_S), rf_is_at t pc is → (∀ J ∈ is.dropLast, am_kd J.1 J.2.2.2.2.2 ≠ 3 ∧ am_kd J.1 J.2.2.2.2.2 ≠ 4) → rf_w M.2.2.1 is (pc, lv, st, s) (fun c' => rf_R d k c' Q) → rf_R d k (pc, lv, st, s) Q := by
  have hM : am_mth k = some M := by unfold am_mth; rw [hk]; rfl
  intro is
  induction is with
  | nil => intro pc lv st s _ _ h; exact h
  | cons I is ih =>
    intro pc lv st s h1 h2 h
    obtain ⟨hI, h1⟩ := h1
    have hT : am_tbl k pc = some I := by unfold am_tbl; rw [hk]; exact hI
    have step : ∀ c' : rf_C, rf_R d k c' Q → (∀ f, rf_run (f + 1) d k pc lv st s = rf_run f d k c'.1 c'.2.1 c'.2.2.1 c'.2.2.2) → rf_R d k (pc, lv, st, s) Q := by
      intro c' hR he
      obtain ⟨f, v, s', hf, hq⟩ := hR
      exact ⟨f + 1, v, s', (he f).trans hf, hq⟩
    have hd : is = [] ∨ (am_kd I.1 I.2.2.2.2.2 ≠ 3 ∧ am_kd I.1 I.2.2.2.2.2 ≠ 4) := by
      cases is with
      | nil => exact Or.inl rfl
      | cons J js => exact Or.inr (h2 I (by simp [List.dropLast]))
    have hj : ∀ J ∈ is.dropLast, am_kd J.1 J.2.2.2.2.2 ≠ 3 ∧ am_kd J.1 J.2.2.2.2.2 ≠ 4 := by
      cases is with
      | nil => intro J hJ; cases hJ
      | cons J js => intro J' hJ'; exact h2 J' (by simp only [List.dropLast]; exact List.mem_cons_of_mem _ hJ')
    rw [rf_w] at h
    split at h
    · rename_i hkd
      split at h
      · rename_i q hq
        refine step _ (ih _ _ _ _ h1 hj h) (fun f => ?_)
        rw [rf_run, hM, hT]
        simp only [Option.bind_some, hkd]
        dsimp only at hq
        simp only [hq, Option.bind_some]
      · exact h.elim
    · rename_i hkd
      split at h
      · rename_i q hq
        refine step _ (ih _ _ _ _ h1 hj h) (fun f => ?_)
        rw [rf_run, hM, hT]
        simp only [Option.bind_some, hkd]
        dsimp only at hq
        simp only [hq, Option.bind_some]
      · exact h.elim
    · rename_i hkd
      split at h
      · rename_i q hq
        refine step _ (ih _ _ _ _ h1 hj h) (fun f => ?_)
        rw [rf_run, hM, hT]
        simp only [Option.bind_some, hkd]
        dsimp only at hq
        simp only [hq, Option.bind_some]
      · exact h.elim
    · rename_i hkd
      obtain rfl : is = [] := hd.elim id (fun z => absurd hkd z.1)
      split at h
      · rename_i q hq
        refine step _ h (fun f => ?_)
        rw [rf_run, hM, hT]
        simp only [Option.bind_some, hkd]
        dsimp only at hq
        simp only [hq, Option.bind_some]
      · exact h.elim
    · rename_i hkd
      obtain rfl : is = [] := hd.elim id (fun z => absurd hkd z.2)
      split at h
      · rename_i q hq
        refine step _ h (fun f => ?_)
        rw [rf_run, hM, hT]
        simp only [Option.bind_some, hkd]
        dsimp only at hq
        simp only [hq, Option.bind_some]
      · exact h.elim
    · rename_i hkd
      obtain ⟨q, hq, h⟩ := rf_hw_ok h
      refine step _ (ih _ _ _ _ h1 hj h) (fun f => ?_)
      rw [rf_run, hM, hT]
      simp only [Option.bind_some, hkd]
      dsimp only at hq
      simp only [hq, Option.bind_some]
    · exact h.elim
theorem rf_R_ret {d k pc : Nat} {lv : am_L} {st : List Value} {s : rf_S} {M : am_T} {t : List (Nat × am_I)} {Q : Option Value → rf_S → Prop} {I : am_I} {v : Option Value} (hk : am_prog[k]? = some (M, t)) (hI : am_look t pc = some I) (hkd : am_kd I.1 I.2.2.2.2.2 = 6) (hv : am_rt I.1 M.2.2.2.1 st = some v) (hQ : Q v s) : rf_R d k (pc, lv, st, s) Q := by
  refine ⟨1, v, s, ?_, hQ⟩
  have hM : am_mth k = some M := by unfold am_mth; rw [hk]; rfl
  have hT : am_tbl k pc = some I := by unfold am_tbl; rw [hk]; exact hI
  rw [rf_run, hM, hT]
  simp only [Option.bind_some, hkd, hv, Option.map_some]
theorem rf_R_call {d k a b pc : Nat} {lv : am_L} {st : List Value} {s : rf_S} {M N : am_T} {t t' : List (Nat × am_I)} {ins : Instr} {cI : Nat} {sw : List (Int32 × Nat)} {q : List Value × List Value} {Q Q' : Option Value → rf_S → Prop} (hk : am_prog[k]? = some (M, t)) (hI : am_look t pc = some (ins, 3, a, b, cI, sw)) (hkd : am_kd ins sw = 7) (ha : a < 10000) (hN : am_prog[a]? = some (N, t')) (hca : am_ca ins b st = some q) (hcat : (q.2.map fun v => v.category).sum ≤ 8) (hrc : rf_rc ins q.1 N.2.2.2.2 = true ∧ (lg_sl q.1).length ≤ N.2.2.1)
    (hR : rf_R d a (0, lv_args 0 q.1, [], s) Q') (kk : ∀ v s', Q' v s' → rf_R (d + 1) k (pc + 3, lv, v.toList ++ q.2, s') Q) : rf_R (d + 1) k (pc, lv, st, s) Q := by
  obtain ⟨f, v, A1, hf, hq⟩ := hR
  obtain ⟨g, w, A2, hg, hQ⟩ := kk v A1 hq
  refine ⟨max f g + 1, w, A2, ?_, hQ⟩
  have hM : am_mth k = some M := by unfold am_mth; rw [hk]; rfl
  have hN' : am_mth a = some N := by unfold am_mth; rw [hN]; rfl
  have hT : am_tbl k pc = some (ins, 3, a, b, cI, sw) := by unfold am_tbl; rw [hk]; exact hI
  rw [rf_run, hM, hT]
  simp only [Option.bind_some, hkd, hca]
  rw [if_neg (fun z => z.elim (fun y => y hcat) (fun y => absurd y (by omega))), hN']
  simp only [Option.bind_some]
  rw [if_pos hrc, rf_run_le hf (Nat.le_max_left f g)]
  exact rf_run_le hg (Nat.le_max_right f g)
theorem rf_R_imp {d k : Nat} {c : rf_C} {Q Q' : Option Value → rf_S → Prop} (h : rf_R d k c Q) (hq : ∀ v s, Q v s → Q' v s) : rf_R d k c Q' := by
  obtain ⟨f, v, s', hf, h1⟩ := h
  exact ⟨f, v, s', hf, hq v s' h1⟩
theorem rf_R_if {d k p q : Nat} {b : Bool} {lv : am_L} {st : List Value} {s : rf_S} {Q : Option Value → rf_S → Prop} (ht : b = true → rf_R d k (p, lv, st, s) Q) (hf : b = false → rf_R d k (q, lv, st, s) Q) : rf_R d k (if b = true then p else q, lv, st, s) Q := by
  cases b
  · exact hf rfl
  · exact ht rfl
theorem am_ld_c {j i : Nat} {v : Value} {lv : am_L} : am_ld ((j, v) :: lv) i = if j = i then some v else am_ld lv i := by
  unfold am_ld
  by_cases h : j = i
  · simp [h]
  · simp [h]
