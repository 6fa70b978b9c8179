/-! PART 40: the rules that the decompiled methods (parts 41 ..) rest on: locals may be fewer, switches, divisions, answers by kind -/
/-- no local stands twice -/
def rf_nd : am_L → Bool
  | [] => true
  | q :: l => !(l.any (fun p => p.1 == q.1)) && rf_nd l
/-- the locals of the first list stand so in the second -/
def rf_sub : am_L → am_L → Prop
  | [], _ => True
  | q :: l, m => am_ld m q.1 = some q.2 ∧ rf_sub l m
theorem rf_nd_c {q : Nat × Value} {l : am_L} (h : rf_nd (q :: l) = true) : (∀ p ∈ l, p.1 ≠ q.1) ∧ rf_nd l = true := by
  simp only [rf_nd, Bool.and_eq_true, Bool.not_eq_true', List.any_eq_false, beq_iff_eq] at h
  exact ⟨fun p hp => h.1 p hp, h.2⟩
theorem rf_nd_i {q : Nat × Value} {l : am_L} (h1 : ∀ p ∈ l, p.1 ≠ q.1) (h2 : rf_nd l = true) : rf_nd (q :: l) = true := by
  simp only [rf_nd, Bool.and_eq_true, Bool.not_eq_true', List.any_eq_false, beq_iff_eq]
  exact ⟨h1, h2⟩
theorem rf_ld_mem : ∀ {l : am_L} {i : Nat} {v : Value}, am_ld l i = some v → (i, v) ∈ l := by
  intro l
  induction l with
  | nil => intro i v h; simp [am_ld] at h
  | cons q l ih =>
    obtain ⟨j, w⟩ := q
    intro i v h
    rw [am_ld_c] at h
    split at h
    · rename_i hj
      cases h
      subst hj
      exact List.mem_cons_self
    · exact List.mem_cons_of_mem _ (ih h)
theorem rf_mem_ld : ∀ {l : am_L} {i : Nat} {v : Value}, rf_nd l = true → (i, v) ∈ l → am_ld l i = some v := by
  intro l
  induction l with
  | nil => intro i v _ h; cases h
  | cons q l ih =>
    obtain ⟨j, w⟩ := q
    intro i v hn h
    obtain ⟨h1, h2⟩ := rf_nd_c hn
    rw [am_ld_c]
    rcases List.mem_cons.mp h with e | e
    · cases e
      rw [if_pos rfl]
    · rw [if_neg (fun z => h1 _ e z.symm)]
      exact ih h2 e
theorem rf_nd_f {p : Nat × Value → Bool} : ∀ {l : am_L}, rf_nd l = true → rf_nd (l.filter p) = true := by
  intro l
  induction l with
  | nil => intro _; rfl
  | cons q l ih =>
    intro hn
    obtain ⟨h1, h2⟩ := rf_nd_c hn
    rw [List.filter_cons]
    split
    · exact rf_nd_i (fun x hx => h1 x (List.mem_filter.mp hx).1) (ih h2)
    · exact ih h2
theorem rf_sub_mem : ∀ {l m : am_L}, rf_sub l m → ∀ q ∈ l, q ∈ m := by
  intro l
  induction l with
  | nil => intro m _ q hq; cases hq
  | cons p l ih =>
    intro m h q hq
    rcases List.mem_cons.mp hq with e | e
    · subst e; exact rf_ld_mem h.1
    · exact ih h.2 q e
/-- fewer locals: both without doubles, the first's among the second's -/
abbrev rf_le (l m : am_L) : Prop := rf_nd l = true ∧ rf_nd m = true ∧ ∀ q ∈ l, q ∈ m
theorem rf_le_ld {l m : am_L} {i : Nat} {v : Value} (h : rf_le l m) (hl : am_ld l i = some v) : am_ld m i = some v := rf_mem_ld h.2.1 (h.2.2 _ (rf_ld_mem hl))
theorem rf_le_st {l m : am_L} {i : Nat} {v : Value} {p : Nat × Value → Bool} (h : rf_le l m) (hp : ∀ q, p q = true → q.1 ≠ i) : rf_le ((i, v) :: l.filter p) ((i, v) :: m.filter p) := by
  refine ⟨rf_nd_i (fun x hx => hp _ (List.mem_filter.mp hx).2) (rf_nd_f h.1), rf_nd_i (fun x hx => hp _ (List.mem_filter.mp hx).2) (rf_nd_f h.2.1), fun q hq => ?_⟩
  rcases List.mem_cons.mp hq with e | e
  · subst e; exact List.mem_cons_self
  · have := List.mem_filter.mp e
    exact List.mem_cons_of_mem _ (List.mem_filter.mpr ⟨h.2.2 _ this.1, this.2⟩)
theorem rf_le_s1 {nL i : Nat} {l m l' : am_L} {v : Value} (h : rf_le l m) (e : am_s1 nL l i v = some l') : ∃ m', am_s1 nL m i v = some m' ∧ rf_le l' m' := by
  unfold am_s1 at e ⊢
  split at e
  · rename_i hi
    cases e
    exact ⟨_, if_pos hi, rf_le_st h (fun q hq => by
      simp only [Bool.and_eq_true, Bool.not_eq_true', beq_eq_false_iff_ne] at hq
      exact hq.1)⟩
  · cases e
theorem rf_le_s2 {nL i : Nat} {l m l' : am_L} {v : Value} (h : rf_le l m) (e : am_s2 nL l i v = some l') : ∃ m', am_s2 nL m i v = some m' ∧ rf_le l' m' := by
  unfold am_s2 at e ⊢
  split at e
  · rename_i hi
    cases e
    exact ⟨_, if_pos hi, rf_le_st h (fun q hq => by
      simp only [Bool.and_eq_true, Bool.not_eq_true', beq_eq_false_iff_ne] at hq
      exact hq.1)⟩
  · cases e
theorem rf_le_lo {ins : Instr} {l m : am_L} {v : Value} (h : rf_le l m) (e : am_lo ins l = some v) : am_lo ins m = some v := by
  have gi : ∀ i, am_gi (am_ld l i) = some v → am_gi (am_ld m i) = some v := by
    intro i hi
    cases hl : am_ld l i with
    | none => rw [hl] at hi; simp [am_gi] at hi
    | some w => rw [rf_le_ld h hl, ← hl]; exact hi
  have gl : ∀ i, am_gl (am_ld l i) = some v → am_gl (am_ld m i) = some v := by
    intro i hi
    cases hl : am_ld l i with
    | none => rw [hl] at hi; simp [am_gl] at hi
    | some w => rw [rf_le_ld h hl, ← hl]; exact hi
  have ga : ∀ i, am_ga (am_ld l i) = some v → am_ga (am_ld m i) = some v := by
    intro i hi
    cases hl : am_ld l i with
    | none => rw [hl] at hi; simp [am_ga] at hi
    | some w => rw [rf_le_ld h hl, ← hl]; exact hi
  unfold am_lo at e ⊢
  split at e
  · exact gi _ e
  · exact gi _ e
  · exact gl _ e
  · exact gl _ e
  · exact ga _ e
  · exact ga _ e
  · cases e
theorem rf_le_so {ins : Instr} {nL : Nat} {l m : am_L} {st : List Value} {q : am_L × List Value} (h : rf_le l m) (e : am_so ins nL l st = some q) : ∃ m', am_so ins nL m st = some (m', q.2) ∧ rf_le q.1 m' := by
  have si : ∀ i, am_si nL l st i = some q → ∃ m', am_si nL m st i = some (m', q.2) ∧ rf_le q.1 m' := by
    intro i hi
    unfold am_si at hi ⊢
    split at hi
    · obtain ⟨l', h1, h2⟩ := Option.map_eq_some_iff.mp hi
      obtain ⟨m', h3, h4⟩ := rf_le_s1 h h1
      cases h2
      exact ⟨m', by rw [h3]; rfl, h4⟩
    · cases hi
  have sl : ∀ i, am_sl nL l st i = some q → ∃ m', am_sl nL m st i = some (m', q.2) ∧ rf_le q.1 m' := by
    intro i hi
    unfold am_sl at hi ⊢
    split at hi
    · obtain ⟨l', h1, h2⟩ := Option.map_eq_some_iff.mp hi
      obtain ⟨m', h3, h4⟩ := rf_le_s2 h h1
      cases h2
      exact ⟨m', by rw [h3]; rfl, h4⟩
    · cases hi
  have sa : ∀ i, am_sa nL l st i = some q → ∃ m', am_sa nL m st i = some (m', q.2) ∧ rf_le q.1 m' := by
    intro i hi
    unfold am_sa at hi ⊢
    split at hi
    · obtain ⟨l', h1, h2⟩ := Option.map_eq_some_iff.mp hi
      obtain ⟨m', h3, h4⟩ := rf_le_s1 h h1
      cases h2
      exact ⟨m', by rw [h3]; rfl, h4⟩
    · cases hi
  unfold am_so at e ⊢
  split at e
  · exact si _ e
  · exact si _ e
  · exact sl _ e
  · exact sl _ e
  · exact sa _ e
  · exact sa _ e
  · unfold am_inc at e ⊢
    split at e
    · rename_i hx
      obtain ⟨l', h1, h2⟩ := Option.map_eq_some_iff.mp e
      obtain ⟨m', h3, h4⟩ := rf_le_s1 h h1
      cases h2
      refine ⟨m', ?_, h4⟩
      rw [rf_le_ld h hx]
      simp only [h3, Option.map_some]
    · cases e
  · cases e
theorem rf_run_lv : ∀ (f d k pc : Nat) (l m : am_L) (st : List Value) (s : rf_S) (x : Option Value × rf_S), rf_le l m → rf_run f d k pc l st s = some x → rf_run f d k pc m st s = some x := by
  intro f
  induction f with
  | zero => intro d k pc l m st s x _ h; simp [rf_run] at h
  | succ f ih =>
    intro d k pc l m st s x hl h
    rw [rf_run] at h ⊢
    obtain ⟨M, hM, h⟩ := Option.bind_eq_some_iff.mp h
    obtain ⟨I, hI, h⟩ := Option.bind_eq_some_iff.mp h
    refine Option.bind_eq_some_iff.mpr ⟨M, hM, Option.bind_eq_some_iff.mpr ⟨I, hI, ?_⟩⟩
    split at h
    · obtain ⟨q, h1, h2⟩ := Option.bind_eq_some_iff.mp h; exact Option.bind_eq_some_iff.mpr ⟨q, h1, ih _ _ _ _ _ _ _ _ hl h2⟩
    · obtain ⟨q, h1, h2⟩ := Option.bind_eq_some_iff.mp h; exact Option.bind_eq_some_iff.mpr ⟨q, rf_le_lo hl h1, ih _ _ _ _ _ _ _ _ hl h2⟩
    · obtain ⟨q, h1, h2⟩ := Option.bind_eq_some_iff.mp h
      obtain ⟨m', h3, h4⟩ := rf_le_so hl h1
      exact Option.bind_eq_some_iff.mpr ⟨_, h3, ih _ _ _ _ _ _ _ _ h4 h2⟩
    · obtain ⟨q, h1, h2⟩ := Option.bind_eq_some_iff.mp h; exact Option.bind_eq_some_iff.mpr ⟨q, h1, ih _ _ _ _ _ _ _ _ hl h2⟩
    · obtain ⟨q, h1, h2⟩ := Option.bind_eq_some_iff.mp h; exact Option.bind_eq_some_iff.mpr ⟨q, h1, ih _ _ _ _ _ _ _ _ hl h2⟩
    · obtain ⟨q, h1, h2⟩ := Option.bind_eq_some_iff.mp h; exact Option.bind_eq_some_iff.mpr ⟨q, h1, ih _ _ _ _ _ _ _ _ hl h2⟩
    · exact h
    · obtain ⟨q, h1, h2⟩ := Option.bind_eq_some_iff.mp h
      refine Option.bind_eq_some_iff.mpr ⟨q, h1, ?_⟩
      split at h2
      · cases h2
      · rename_i hc
        rw [if_neg hc]
        cases d with
        | zero => cases h2
        | succ d' =>
          dsimp only at h2 ⊢
          obtain ⟨N, h3, h4⟩ := Option.bind_eq_some_iff.mp h2
          refine Option.bind_eq_some_iff.mpr ⟨N, h3, ?_⟩
          split at h4
          · rename_i hrc
            rw [if_pos hrc]
            obtain ⟨w, h5, h6⟩ := Option.bind_eq_some_iff.mp h4
            exact Option.bind_eq_some_iff.mpr ⟨w, h5, ih _ _ _ _ _ _ _ _ hl h6⟩
          · cases h4
    · cases h
theorem rf_R_le {d k pc : Nat} {l m : am_L} {st : List Value} {s : rf_S} {Q : Option Value → rf_S → Prop} (h1 : rf_nd l = true) (h2 : rf_nd m = true) (h3 : rf_sub l m) (h : rf_R d k (pc, l, st, s) Q) : rf_R d k (pc, m, st, s) Q := by
  obtain ⟨f, v, s', hf, hq⟩ := h
  exact ⟨f, v, s', rf_run_lv _ _ _ _ _ _ _ _ _ ⟨h1, h2, rf_sub_mem h3⟩ hf, hq⟩
/-- a switch, case by case -/
theorem rf_R_sw {d k a p : Nat} {x v : Int32} {sw : List (Int32 × Nat)} {lv : am_L} {st : List Value} {s : rf_S} {Q : Option Value → rf_S → Prop} (h1 : x = v → rf_R d k (p, lv, st, s) Q) (h2 : ¬ x = v → rf_R d k (am_sw x sw a, lv, st, s) Q) : rf_R d k (am_sw x ((v, p) :: sw) a, lv, st, s) Q := by
  rw [am_sw_cons]
  by_cases h : x = v
  · rw [if_pos h.symm]; exact h1 h
  · rw [if_neg (fun z => h z.symm)]; exact h2 h
/-- a division -/
theorem rf_R_div {d k pc : Nat} {lv : am_L} {st : List Value} {x y : Int32} {s : rf_S} {M : am_T} {t : List (Nat × am_I)} {Q : Option Value → rf_S → Prop} {a b cI : Nat} {sw : List (Int32 × Nat)} (hk : am_prog[k]? = some (M, t)) (hI : am_look t pc = some (.idiv, 1, a, b, cI, sw)) (hy : ¬ y = 0) (h : rf_R d k (pc + 1, lv, .int (x / y) :: st, s) Q) : rf_R d k (pc, lv, .int y :: .int x :: st, s) Q := by
  obtain ⟨f, v, s', hf, hq⟩ := h
  refine ⟨f + 1, v, s', ?_, hq⟩
  have hM : am_mth k = some M := by unfold am_mth; rw [hk]; rfl
  have hT : am_tbl k pc = some (.idiv, 1, a, b, cI, sw) := by unfold am_tbl; rw [hk]; exact hI
  rw [rf_run, hM, hT]
  simp only [Option.bind_some, am_kd, am_sk, am_ii, if_neg hy, Option.map_some]
  exact hf
theorem rf_R_rem {d k pc : Nat} {lv : am_L} {st : List Value} {x y : Int32} {s : rf_S} {M : am_T} {t : List (Nat × am_I)} {Q : Option Value → rf_S → Prop} {a b cI : Nat} {sw : List (Int32 × Nat)} (hk : am_prog[k]? = some (M, t)) (hI : am_look t pc = some (.irem, 1, a, b, cI, sw)) (hy : ¬ y = 0) (h : rf_R d k (pc + 1, lv, .int (x - x / y * y) :: st, s) Q) : rf_R d k (pc, lv, .int y :: .int x :: st, s) Q := by
  obtain ⟨f, v, s', hf, hq⟩ := h
  refine ⟨f + 1, v, s', ?_, hq⟩
  have hM : am_mth k = some M := by unfold am_mth; rw [hk]; rfl
  have hT : am_tbl k pc = some (.irem, 1, a, b, cI, sw) := by unfold am_tbl; rw [hk]; exact hI
  rw [rf_run, hM, hT]
  simp only [Option.bind_some, am_kd, am_sk, am_ii, if_neg hy, Option.map_some]
  exact hf
/-- an answer that may be given: of its type -/
theorem rf_R_retF {d k pc : Nat} {lv : am_L} {x : Int32} {s : rf_S} {M : am_T} {t : List (Nat × am_I)} {Q : Option Value → rf_S → Prop} {ty : FieldType} {a b cI l : Nat} {sw : List (Int32 × Nat)} (hk : am_prog[k]? = some (M, t)) (hI : am_look t pc = some (.ireturn, l, a, b, cI, sw)) (ht : M.2.2.2.1 = some ty) (hf : am_fit ty (.int x) = true) (hQ : Q (some (.int x)) s) : rf_R d k (pc, lv, [.int x], s) Q := by
  refine rf_R_ret hk hI rfl (v := some (.int x)) ?_ hQ
  rw [ht]
  simp only [am_rt, hf, if_pos]
/-- rf_hw, rf_w with their updates by name: the states stay small -/
def rf_hv (ins : Instr) (a b : Nat) (st : List Value) (s : rf_S) (K : List Value → rf_S → Prop) : Prop := match ins with
  | .getfield _ => (match st with
    | .ref q :: r => if q = rf_o ∧ a = 0 ∧ b < 84 then K (rf_fv s b :: r) s else False
    | _ => False)
  | .putfield _ => (match st with
    | .int x :: .ref q :: r => if q = rf_o ∧ a = 0 ∧ b < 84 then am_fit (rf_ft b) (.int x) = true ∧ K r (rf_si s b x) else False
    | .long x :: .ref q :: r => if q = rf_o ∧ a = 0 ∧ b < 84 then am_fit (rf_ft b) (.long x) = true ∧ K r (rf_sj s b x) else False
    | _ => False)
  | .iaload => (match st with
    | .int i :: .ref q :: r => (match rf_of q with
      | some c => if rf_ft c = .array .int then ¬ (i < 0 ∨ rf_len c ≤ i.toNatClampNeg) ∧ K (.int (s.2.2.1 c i.toNatClampNeg) :: r) s else False
      | none => False)
    | _ => False)
  | .baload => (match st with
    | .int i :: .ref q :: r => (match rf_of q with
      | some c => if rf_ft c = .array .boolean then ¬ (i < 0 ∨ rf_len c ≤ i.toNatClampNeg) ∧ K (.int (s.2.2.1 c i.toNatClampNeg) :: r) s else False
      | none => False)
    | _ => False)
  | .laload => (match st with
    | .int i :: .ref q :: r => (match rf_of q with
      | some c => if rf_ft c = .array .long then ¬ (i < 0 ∨ rf_len c ≤ i.toNatClampNeg) ∧ K (.long (s.2.2.2 c i.toNatClampNeg) :: r) s else False
      | none => False)
    | _ => False)
  | .iastore => (match st with
    | .int x :: .int i :: .ref q :: r => (match rf_of q with
      | some c => if rf_ft c = .array .int then ¬ (i < 0 ∨ rf_len c ≤ i.toNatClampNeg) ∧ K r (rf_sb s c i.toNatClampNeg x) else False
      | none => False)
    | _ => False)
  | .bastore => (match st with
    | .int x :: .int i :: .ref q :: r => (match rf_of q with
      | some c => if rf_ft c = .array .boolean then ¬ (i < 0 ∨ rf_len c ≤ i.toNatClampNeg) ∧ K r (rf_sb s c i.toNatClampNeg (vp_nar .boolean x)) else False
      | none => False)
    | _ => False)
  | .lastore => (match st with
    | .long x :: .int i :: .ref q :: r => (match rf_of q with
      | some c => if rf_ft c = .array .long then ¬ (i < 0 ∨ rf_len c ≤ i.toNatClampNeg) ∧ K r (rf_sL s c i.toNatClampNeg x) else False
      | none => False)
    | _ => False)
  | _ => False
theorem rf_hv_eq : @rf_hv = @rf_hw := rfl
def rf_wv (nL : Nat) : List am_I → rf_C → (rf_C → Prop) → Prop
  | [], c, K => K c
  | I :: is, c, K => match am_kd I.1 I.2.2.2.2.2 with
    | 0 => (match am_sk I.1 I.2.2.1 c.2.2.1 with
      | some st' => rf_wv nL is (c.1 + I.2.1, c.2.1, st', c.2.2.2) K
      | none => False)
    | 1 => (match am_lo I.1 c.2.1 with
      | some v => rf_wv nL is (c.1 + I.2.1, c.2.1, v :: c.2.2.1, c.2.2.2) K
      | none => False)
    | 2 => (match am_so I.1 nL c.2.1 c.2.2.1 with
      | some q => rf_wv nL is (c.1 + I.2.1, q.1, q.2, c.2.2.2) K
      | none => False)
    | 3 => (match am_br I.1 c.2.2.1 with
      | some q => rf_wv nL is (if q.1 = true then I.2.2.1 else c.1 + I.2.1, c.2.1, q.2, c.2.2.2) K
      | none => False)
    | 4 => (match am_st1 c.2.2.1 with
      | some q => rf_wv nL is (am_sw q.1 I.2.2.2.2.2 I.2.2.1, c.2.1, q.2, c.2.2.2) K
      | none => False)
    | 5 => rf_hv I.1 I.2.2.1 I.2.2.2.1 c.2.2.1 c.2.2.2 (fun st' s' => rf_wv nL is (c.1 + I.2.1, c.2.1, st', s') K)
    | _ => False
theorem rf_wv_eq {nL : Nat} {K : rf_C → Prop} : ∀ (is : List am_I) (c : rf_C), rf_wv nL is c K = rf_w nL is c K := by
  intro is
  induction is with
  | nil => intro c; rfl
  | cons I is ih =>
    intro c
    rw [rf_wv, rf_w, rf_hv_eq]
    simp only [ih]
    rfl
theorem rf_R_wv {d k : Nat} {M : am_T} {t : List (Nat × am_I)} {Q : Option Value → rf_S → Prop} (hk : am_prog[k]? = some (M, t)) (is : List am_I) (pc : Nat) (lv : am_L) (st : List Value) (s : rf_S) (h1 : rf_is_at t pc is) (h2 : ∀ J ∈ is.dropLast, am_kd J.1 J.2.2.2.2.2 ≠ 3 ∧ am_kd J.1 J.2.2.2.2.2 ≠ 4) (h : rf_wv M.2.2.1 is (pc, lv, st, s) (fun c' => rf_R d k c' Q)) : rf_R d k (pc, lv, st, s) Q := rf_R_w hk is pc lv st s h1 h2 ((rf_wv_eq is _) ▸ h)
/-- answers by kind -/
def rf_qI (Q : Int32 → rf_S → Prop) : Option Value → rf_S → Prop := fun v s => ∃ r, v = some (.int r) ∧ Q r s
def rf_qJ (Q : Int64 → rf_S → Prop) : Option Value → rf_S → Prop := fun v s => ∃ r, v = some (.long r) ∧ Q r s
def rf_qV (Q : rf_S → Prop) : Option Value → rf_S → Prop := fun v s => v = none ∧ Q s
/-- method k, called with these locals, comes to its end with an int, a long, nothing -/
def rf_I (d k : Nat) (lv : am_L) (s : rf_S) (Q : Int32 → rf_S → Prop) : Prop := rf_R d k (0, lv, [], s) (rf_qI Q)
def rf_J (d k : Nat) (lv : am_L) (s : rf_S) (Q : Int64 → rf_S → Prop) : Prop := rf_R d k (0, lv, [], s) (rf_qJ Q)
def rf_V (d k : Nat) (lv : am_L) (s : rf_S) (Q : rf_S → Prop) : Prop := rf_R d k (0, lv, [], s) (rf_qV Q)
theorem rf_I_imp {d k : Nat} {lv : am_L} {s : rf_S} {Q Q' : Int32 → rf_S → Prop} (h : rf_I d k lv s Q) (hq : ∀ r s', Q r s' → Q' r s') : rf_I d k lv s Q' := rf_R_imp h (fun _ _ ⟨r, e, q⟩ => ⟨r, e, hq _ _ q⟩)
theorem rf_J_imp {d k : Nat} {lv : am_L} {s : rf_S} {Q Q' : Int64 → rf_S → Prop} (h : rf_J d k lv s Q) (hq : ∀ r s', Q r s' → Q' r s') : rf_J d k lv s Q' := rf_R_imp h (fun _ _ ⟨r, e, q⟩ => ⟨r, e, hq _ _ q⟩)
theorem rf_V_imp {d k : Nat} {lv : am_L} {s : rf_S} {Q Q' : rf_S → Prop} (h : rf_V d k lv s Q) (hq : ∀ s', Q s' → Q' s') : rf_V d k lv s Q' := rf_R_imp h (fun _ _ ⟨e, q⟩ => ⟨e, hq _ q⟩)
/-- the reference's methods, all of them -/
theorem rp_1 : am_prog[1]? = some (am_m1, am_t1) := rfl
theorem rp_2 : am_prog[2]? = some (am_m2, am_t2) := rfl
theorem rp_7 : am_prog[7]? = some (am_m7, am_t7) := rfl
theorem rp_8 : am_prog[8]? = some (am_m8, am_t8) := rfl
theorem rp_9 : am_prog[9]? = some (am_m9, am_t9) := rfl
theorem rp_12 : am_prog[12]? = some (am_m12, am_t12) := rfl
theorem rp_13 : am_prog[13]? = some (am_m13, am_t13) := rfl
theorem rp_19 : am_prog[19]? = some (am_m19, am_t19) := rfl
theorem rp_20 : am_prog[20]? = some (am_m20, am_t20) := rfl
theorem rp_21 : am_prog[21]? = some (am_m21, am_t21) := rfl
theorem rp_22 : am_prog[22]? = some (am_m22, am_t22) := rfl
theorem rp_23 : am_prog[23]? = some (am_m23, am_t23) := rfl
theorem rp_24 : am_prog[24]? = some (am_m24, am_t24) := rfl
theorem rp_25 : am_prog[25]? = some (am_m25, am_t25) := rfl
theorem rp_26 : am_prog[26]? = some (am_m26, am_t26) := rfl
theorem rp_27 : am_prog[27]? = some (am_m27, am_t27) := rfl
theorem rp_28 : am_prog[28]? = some (am_m28, am_t28) := rfl
theorem rp_29 : am_prog[29]? = some (am_m29, am_t29) := rfl
theorem rp_30 : am_prog[30]? = some (am_m30, am_t30) := rfl
theorem rp_31 : am_prog[31]? = some (am_m31, am_t31) := rfl
theorem rp_32 : am_prog[32]? = some (am_m32, am_t32) := rfl
theorem rp_33 : am_prog[33]? = some (am_m33, am_t33) := rfl
theorem rp_34 : am_prog[34]? = some (am_m34, am_t34) := rfl
theorem rp_35 : am_prog[35]? = some (am_m35, am_t35) := rfl
theorem rp_36 : am_prog[36]? = some (am_m36, am_t36) := rfl
theorem rp_37 : am_prog[37]? = some (am_m37, am_t37) := rfl
theorem rp_38 : am_prog[38]? = some (am_m38, am_t38) := rfl
theorem rp_39 : am_prog[39]? = some (am_m39, am_t39) := rfl
theorem rp_40 : am_prog[40]? = some (am_m40, am_t40) := rfl
theorem rp_41 : am_prog[41]? = some (am_m41, am_t41) := rfl
theorem rp_42 : am_prog[42]? = some (am_m42, am_t42) := rfl
theorem rp_46 : am_prog[46]? = some (am_m46, am_t46) := rfl
theorem rp_47 : am_prog[47]? = some (am_m47, am_t47) := rfl
theorem rp_48 : am_prog[48]? = some (am_m48, am_t48) := rfl
theorem rp_49 : am_prog[49]? = some (am_m49, am_t49) := rfl
theorem rp_50 : am_prog[50]? = some (am_m50, am_t50) := rfl
theorem rp_51 : am_prog[51]? = some (am_m51, am_t51) := rfl
theorem rp_56 : am_prog[56]? = some (am_m56, am_t56) := rfl
theorem rp_59 : am_prog[59]? = some (am_m59, am_t59) := rfl
theorem rp_61 : am_prog[61]? = some (am_m61, am_t61) := rfl
theorem rp_62 : am_prog[62]? = some (am_m62, am_t62) := rfl
theorem rp_63 : am_prog[63]? = some (am_m63, am_t63) := rfl
theorem rp_64 : am_prog[64]? = some (am_m64, am_t64) := rfl
theorem rp_65 : am_prog[65]? = some (am_m65, am_t65) := rfl
theorem rp_66 : am_prog[66]? = some (am_m66, am_t66) := rfl
theorem rp_67 : am_prog[67]? = some (am_m67, am_t67) := rfl
theorem rp_70 : am_prog[70]? = some (am_m70, am_t70) := rfl
theorem rp_71 : am_prog[71]? = some (am_m71, am_t71) := rfl
theorem rp_72 : am_prog[72]? = some (am_m72, am_t72) := rfl
theorem rp_73 : am_prog[73]? = some (am_m73, am_t73) := rfl
theorem rp_74 : am_prog[74]? = some (am_m74, am_t74) := rfl
theorem rp_75 : am_prog[75]? = some (am_m75, am_t75) := rfl
theorem rp_76 : am_prog[76]? = some (am_m76, am_t76) := rfl
theorem rp_77 : am_prog[77]? = some (am_m77, am_t77) := rfl
theorem rp_78 : am_prog[78]? = some (am_m78, am_t78) := rfl
theorem rp_79 : am_prog[79]? = some (am_m79, am_t79) := rfl
theorem rp_80 : am_prog[80]? = some (am_m80, am_t80) := rfl
theorem rp_81 : am_prog[81]? = some (am_m81, am_t81) := rfl
theorem rp_83 : am_prog[83]? = some (am_m83, am_t83) := rfl
theorem rp_84 : am_prog[84]? = some (am_m84, am_t84) := rfl
theorem rp_85 : am_prog[85]? = some (am_m85, am_t85) := rfl
theorem rp_86 : am_prog[86]? = some (am_m86, am_t86) := rfl
theorem rp_87 : am_prog[87]? = some (am_m87, am_t87) := rfl
theorem rp_88 : am_prog[88]? = some (am_m88, am_t88) := rfl
theorem rp_91 : am_prog[91]? = some (am_m91, am_t91) := rfl
theorem rp_92 : am_prog[92]? = some (am_m92, am_t92) := rfl
theorem rp_94 : am_prog[94]? = some (am_m94, am_t94) := rfl
theorem rp_95 : am_prog[95]? = some (am_m95, am_t95) := rfl
theorem rc_s1500 : (Int16.ofInt 1500).toInt32 = (1500 : Int32) := by decide
theorem rc_s2000 : (Int16.ofInt 2000).toInt32 = (2000 : Int32) := by decide
theorem rc_s20000 : (Int16.ofInt 20000).toInt32 = (20000 : Int32) := by decide
theorem rc_s255 : (Int16.ofInt 255).toInt32 = (255 : Int32) := by decide
theorem rc_s3000 : (Int16.ofInt 3000).toInt32 = (3000 : Int32) := by decide
theorem rc_bm2 : (Int8.ofInt (-2)).toInt32 = ((-2) : Int32) := by decide
theorem rc_b10 : (Int8.ofInt 10).toInt32 = (10 : Int32) := by decide
theorem rc_b101 : (Int8.ofInt 101).toInt32 = (101 : Int32) := by decide
theorem rc_b102 : (Int8.ofInt 102).toInt32 = (102 : Int32) := by decide
theorem rc_b105 : (Int8.ofInt 105).toInt32 = (105 : Int32) := by decide
theorem rc_b108 : (Int8.ofInt 108).toInt32 = (108 : Int32) := by decide
theorem rc_b109 : (Int8.ofInt 109).toInt32 = (109 : Int32) := by decide
theorem rc_b11 : (Int8.ofInt 11).toInt32 = (11 : Int32) := by decide
theorem rc_b110 : (Int8.ofInt 110).toInt32 = (110 : Int32) := by decide
theorem rc_b111 : (Int8.ofInt 111).toInt32 = (111 : Int32) := by decide
theorem rc_b115 : (Int8.ofInt 115).toInt32 = (115 : Int32) := by decide
theorem rc_b116 : (Int8.ofInt 116).toInt32 = (116 : Int32) := by decide
theorem rc_b12 : (Int8.ofInt 12).toInt32 = (12 : Int32) := by decide
theorem rc_b122 : (Int8.ofInt 122).toInt32 = (122 : Int32) := by decide
theorem rc_b123 : (Int8.ofInt 123).toInt32 = (123 : Int32) := by decide
theorem rc_b125 : (Int8.ofInt 125).toInt32 = (125 : Int32) := by decide
theorem rc_b16 : (Int8.ofInt 16).toInt32 = (16 : Int32) := by decide
theorem rc_b20 : (Int8.ofInt 20).toInt32 = (20 : Int32) := by decide
theorem rc_b24 : (Int8.ofInt 24).toInt32 = (24 : Int32) := by decide
theorem rc_b32 : (Int8.ofInt 32).toInt32 = (32 : Int32) := by decide
theorem rc_b37 : (Int8.ofInt 37).toInt32 = (37 : Int32) := by decide
theorem rc_b40 : (Int8.ofInt 40).toInt32 = (40 : Int32) := by decide
theorem rc_b41 : (Int8.ofInt 41).toInt32 = (41 : Int32) := by decide
theorem rc_b42 : (Int8.ofInt 42).toInt32 = (42 : Int32) := by decide
theorem rc_b43 : (Int8.ofInt 43).toInt32 = (43 : Int32) := by decide
theorem rc_b45 : (Int8.ofInt 45).toInt32 = (45 : Int32) := by decide
theorem rc_b47 : (Int8.ofInt 47).toInt32 = (47 : Int32) := by decide
theorem rc_b48 : (Int8.ofInt 48).toInt32 = (48 : Int32) := by decide
theorem rc_b57 : (Int8.ofInt 57).toInt32 = (57 : Int32) := by decide
theorem rc_b59 : (Int8.ofInt 59).toInt32 = (59 : Int32) := by decide
theorem rc_b6 : (Int8.ofInt 6).toInt32 = (6 : Int32) := by decide
theorem rc_b60 : (Int8.ofInt 60).toInt32 = (60 : Int32) := by decide
theorem rc_b61 : (Int8.ofInt 61).toInt32 = (61 : Int32) := by decide
theorem rc_b62 : (Int8.ofInt 62).toInt32 = (62 : Int32) := by decide
theorem rc_b63 : (Int8.ofInt 63).toInt32 = (63 : Int32) := by decide
theorem rc_b65 : (Int8.ofInt 65).toInt32 = (65 : Int32) := by decide
theorem rc_b69 : (Int8.ofInt 69).toInt32 = (69 : Int32) := by decide
theorem rc_b7 : (Int8.ofInt 7).toInt32 = (7 : Int32) := by decide
theorem rc_b8 : (Int8.ofInt 8).toInt32 = (8 : Int32) := by decide
theorem rc_b9 : (Int8.ofInt 9).toInt32 = (9 : Int32) := by decide
theorem rc_b90 : (Int8.ofInt 90).toInt32 = (90 : Int32) := by decide
theorem rc_b92 : (Int8.ofInt 92).toInt32 = (92 : Int32) := by decide
theorem rc_b97 : (Int8.ofInt 97).toInt32 = (97 : Int32) := by decide
theorem rc_b99 : (Int8.ofInt 99).toInt32 = (99 : Int32) := by decide
theorem rc_im1 : Int32.ofInt (-1) = ((-1) : Int32) := by decide
theorem rc_i0 : Int32.ofInt 0 = (0 : Int32) := by decide
theorem rc_i1 : Int32.ofInt 1 = (1 : Int32) := by decide
theorem rc_i2 : Int32.ofInt 2 = (2 : Int32) := by decide
theorem rc_i3 : Int32.ofInt 3 = (3 : Int32) := by decide
theorem rc_i4 : Int32.ofInt 4 = (4 : Int32) := by decide
theorem rc_i5 : Int32.ofInt 5 = (5 : Int32) := by decide
theorem rc_n1000000000 : Int32.ofNat 1000000000 = (1000000000 : Int32) := by decide
theorem rc_l4294967295 : Int64.ofNat 4294967295 = (4294967295 : Int64) := by decide
