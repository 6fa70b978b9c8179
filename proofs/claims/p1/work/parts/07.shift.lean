/-! PART 11: the abstract machine may begin at address 0: what it runs there, it runs at every base (the script's place is 1000000000, the text's 1000000001) -/
def am_tr1 (bs sb sa o : Nat) : Nat := if o = 1000000000 then sb else if o = 1000000001 then sa else bs + o
def am_tv (t : Nat → Nat) (v : Value) : Value := match v with
  | .ref o => .ref (t o)
  | v => v
def am_te (t : Nat → Nat) (e : am_E) : am_E := match e with
  | .inl q => .inl q
  | .inr o => .inr (o.1, o.2.map (am_tv t))
abbrev am_tl (t : Nat → Nat) (lv : am_L) : am_L := lv.map (fun q => (q.1, am_tv t q.2))
abbrev am_tA (t : Nat → Nat) (A : am_A) : am_A := (A.1.map (am_te t), A.2)
theorem am_tv_cat {t : Nat → Nat} {v : Value} : (am_tv t v).category = v.category := by cases v <;> rfl
theorem am_tv_fit {t : Nat → Nat} {ty : FieldType} {v : Value} : am_fit ty (am_tv t v) = am_fit ty v := by cases v <;> rfl
theorem am_tv_def {t : Nat → Nat} {ty : FieldType} : am_tv t (defaultValue ty) = defaultValue ty := by cases ty <;> rfl
theorem am_tl_ld {t : Nat → Nat} {lv : am_L} {i : Nat} {v : Value} (h : am_ld lv i = some v) : am_ld (am_tl t lv) i = some (am_tv t v) := by
  unfold am_ld at h ⊢
  obtain ⟨q, hq, rfl⟩ := Option.map_eq_some_iff.mp h
  rw [List.find?_map, Option.map_map]
  have e : ((fun q : Nat × Value => q.1 == i) ∘ fun q : Nat × Value => (q.1, am_tv t q.2)) = fun q => q.1 == i := rfl
  rw [e, hq]
  rfl
theorem am_tl_s1 {t : Nat → Nat} {nL i : Nat} {lv lv' : am_L} {v : Value} (h : am_s1 nL lv i v = some lv') : am_s1 nL (am_tl t lv) i (am_tv t v) = some (am_tl t lv') := by
  obtain ⟨h1, rfl⟩ := am_s1_inv h
  unfold am_s1
  rw [if_pos h1]
  simp only [am_tl, List.map_cons, List.filter_map, Function.comp_def, am_tv_cat]
theorem am_tl_s2 {t : Nat → Nat} {nL i : Nat} {lv lv' : am_L} {v : Value} (h : am_s2 nL lv i v = some lv') : am_s2 nL (am_tl t lv) i (am_tv t v) = some (am_tl t lv') := by
  obtain ⟨h1, rfl⟩ := am_s2_inv h
  unfold am_s2
  rw [if_pos h1]
  simp only [am_tl, List.map_cons, List.filter_map, Function.comp_def, am_tv_cat]
theorem am_t_sk {t : Nat → Nat} {ins : Instr} {a : Nat} {st r : List Value} (h : am_sk ins a st = some r) : am_sk ins a (st.map (am_tv t)) = some (r.map (am_tv t)) := by
  unfold am_sk at h
  split at h
  case h_30 =>
    unfold am_dup at h
    split at h
    · split at h
      · rename_i hc; cases h; simp [am_sk, am_dup, am_tv_cat, hc]
      · cases h
    · cases h
  case h_31 =>
    unfold am_pop at h
    split at h
    · split at h
      · rename_i hc; cases h; simp [am_sk, am_pop, am_tv_cat, hc]
      · cases h
    · cases h
  case h_32 =>
    unfold am_dup2 at h
    split at h
    · split at h
      · rename_i hc; cases h; simp [am_sk, am_dup2, am_tv_cat, hc]
      · cases h
    · cases h
  all_goals first
    | (cases h; done)
    | (cases h; rfl)
    | (obtain ⟨x, y, u, v, rfl, hv, rfl⟩ := am_ii_inv h; cases hv; rfl)
    | (obtain ⟨x, y, u, v, rfl, hv, rfl⟩ := am_ii_inv h; by_cases hy : y = 0 <;> simp [hy] at hv <;> (subst hv; simp [am_sk, am_ii, am_tv, hy]; done))
    | (obtain ⟨x, u, v, rfl, hv, rfl⟩ := am_i1_inv h; cases hv; rfl)
    | (obtain ⟨x, u, v, rfl, hv, rfl⟩ := am_l1_inv h; cases hv; rfl)
    | (obtain ⟨x, y, u, v, rfl, hv, rfl⟩ := am_ll_inv h; cases hv; rfl)
    | (obtain ⟨x, y, u, v, rfl, hv, rfl⟩ := am_ll_inv h; by_cases hy : y = 0 <;> simp [hy] at hv <;> (subst hv; simp [am_sk, am_ll, am_tv, hy]; done))
    | (obtain ⟨x, y, u, v, rfl, hv, rfl⟩ := am_li_inv h; cases hv; rfl)
theorem am_t_gi {t : Nat → Nat} {o : Option Value} {v : Value} (h : am_gi o = some v) : am_gi (o.map (am_tv t)) = some (am_tv t v) := by obtain ⟨x, rfl, rfl⟩ := am_gi_inv h; rfl
theorem am_t_gl {t : Nat → Nat} {o : Option Value} {v : Value} (h : am_gl o = some v) : am_gl (o.map (am_tv t)) = some (am_tv t v) := by obtain ⟨x, rfl, rfl⟩ := am_gl_inv h; rfl
theorem am_t_ga {t : Nat → Nat} {o : Option Value} {v : Value} (h : am_ga o = some v) : am_ga (o.map (am_tv t)) = some (am_tv t v) := by obtain ⟨x, rfl, rfl⟩ := am_ga_inv h; rfl
theorem am_t_lo {t : Nat → Nat} {ins : Instr} {lv : am_L} {v : Value} (h : am_lo ins lv = some v) : am_lo ins (am_tl t lv) = some (am_tv t v) := by
  unfold am_lo at h
  split at h
  · obtain ⟨x, h1, rfl⟩ := am_gi_inv h; simp only [am_lo, am_tl_ld h1, am_gi, am_tv]
  · obtain ⟨x, h1, rfl⟩ := am_gi_inv h; simp only [am_lo, am_tl_ld h1, am_gi, am_tv]
  · obtain ⟨x, h1, rfl⟩ := am_gl_inv h; simp only [am_lo, am_tl_ld h1, am_gl, am_tv]
  · obtain ⟨x, h1, rfl⟩ := am_gl_inv h; simp only [am_lo, am_tl_ld h1, am_gl, am_tv]
  · obtain ⟨x, h1, rfl⟩ := am_ga_inv h; simp only [am_lo, am_tl_ld h1, am_ga, am_tv]
  · obtain ⟨x, h1, rfl⟩ := am_ga_inv h; simp only [am_lo, am_tl_ld h1, am_ga, am_tv]
  · cases h
theorem am_t_so {t : Nat → Nat} {ins : Instr} {nL : Nat} {lv : am_L} {st : List Value} {q : am_L × List Value} (h : am_so ins nL lv st = some q) : am_so ins nL (am_tl t lv) (st.map (am_tv t)) = some (am_tl t q.1, q.2.map (am_tv t)) := by
  unfold am_so at h
  split at h
  · obtain ⟨x, rfl, h2⟩ := am_si_inv h; have h3 := am_tl_s1 (t := t) h2; simp only [am_tv] at h3; simp only [am_so, am_si, List.map_cons, am_tv, h3, Option.map_some]
  · obtain ⟨x, rfl, h2⟩ := am_si_inv h; have h3 := am_tl_s1 (t := t) h2; simp only [am_tv] at h3; simp only [am_so, am_si, List.map_cons, am_tv, h3, Option.map_some]
  · obtain ⟨x, rfl, h2⟩ := am_sl_inv h; have h3 := am_tl_s2 (t := t) h2; simp only [am_tv] at h3; simp only [am_so, am_sl, List.map_cons, am_tv, h3, Option.map_some]
  · obtain ⟨x, rfl, h2⟩ := am_sl_inv h; have h3 := am_tl_s2 (t := t) h2; simp only [am_tv] at h3; simp only [am_so, am_sl, List.map_cons, am_tv, h3, Option.map_some]
  · obtain ⟨x, rfl, h2⟩ := am_sa_inv h; have h3 := am_tl_s1 (t := t) h2; simp only [am_tv] at h3; simp only [am_so, am_sa, List.map_cons, am_tv, h3, Option.map_some]
  · obtain ⟨x, rfl, h2⟩ := am_sa_inv h; have h3 := am_tl_s1 (t := t) h2; simp only [am_tv] at h3; simp only [am_so, am_sa, List.map_cons, am_tv, h3, Option.map_some]
  · obtain ⟨x, h1, rfl, h2⟩ := am_inc_inv h; have h3 := am_tl_s1 (t := t) h2; simp only [am_tv] at h3; have h4 := am_tl_ld (t := t) h1; simp only [am_tv] at h4; simp only [am_so, am_inc, h4, h3, Option.map_some]
  · cases h
theorem am_t_br {t : Nat → Nat} {ins : Instr} {st : List Value} {q : Bool × List Value} (h : am_br ins st = some q) : am_br ins (st.map (am_tv t)) = some (q.1, q.2.map (am_tv t)) := by
  unfold am_br at h
  split at h
  · cases h; rfl
  · unfold am_b1 at h
    split at h
    · cases h; rfl
    · cases h
  · unfold am_b2 at h
    split at h
    · cases h; rfl
    · cases h
  · cases h
theorem am_t_st1 {t : Nat → Nat} {st : List Value} {q : Int32 × List Value} (h : am_st1 st = some q) : am_st1 (st.map (am_tv t)) = some (q.1, q.2.map (am_tv t)) := by
  unfold am_st1 at h
  split at h
  · cases h; rfl
  · cases h
theorem am_t_rt {t : Nat → Nat} {ins : Instr} {ret : Option FieldType} {st : List Value} {v : Option Value} (h : am_rt ins ret st = some v) : am_rt ins ret (st.map (am_tv t)) = some (v.map (am_tv t)) := by
  unfold am_rt at h
  split at h
  · split at h
    · split at h
      · rename_i hf; cases h; simp only [am_rt, List.map_cons, List.map_nil, am_tv, hf]; rfl
      · cases h
    · cases h
  · split at h
    · split at h
      · rename_i hf; cases h; simp only [am_rt, List.map_cons, List.map_nil, am_tv, hf]; rfl
      · cases h
    · cases h
  · split at h
    · split at h
      · rename_i x ty hf
        cases h
        have hf2 : am_fit ty (am_tv t (.ref x)) = true := by rw [am_tv_fit]; exact hf
        simp only [am_tv] at hf2
        simp only [am_rt, List.map_cons, List.map_nil, am_tv, hf2]; rfl
      · cases h
    · cases h
  · split at h
    · cases h; rfl
    · cases h
  · cases h
section AMS
variable {bs sb sa sL : Nat} {sx : Nat → Int32} {nf : Nat → List FieldType}
theorem am_t_at {A : am_A} {o : Nat} {e : am_E} (hl : A.1.length ≤ 1000000000) (h : am_at 0 A o = some e) : am_tr1 bs sb sa o = bs + o ∧ o < 1000000000 ∧ am_at bs (am_tA (am_tr1 bs sb sa) A) (am_tr1 bs sb sa o) = some (am_te (am_tr1 bs sb sa) e) := by
  unfold am_at at h
  rw [if_pos (Nat.zero_le _)] at h
  simp only [Nat.sub_zero] at h
  have hlt : o < A.1.length := (List.getElem?_eq_some_iff.mp h).1
  have e1 : am_tr1 bs sb sa o = bs + o := by
    unfold am_tr1
    rw [if_neg (by omega), if_neg (by omega)]
  refine ⟨e1, by omega, ?_⟩
  rw [e1]
  unfold am_at
  rw [if_pos (Nat.le_add_right _ _)]
  have e2 : bs + o - bs = o := by omega
  simp only [e2, List.getElem?_map, h, Option.map_some]
theorem am_t_up {A : am_A} {o : Nat} {e e' : am_E} (hl : A.1.length ≤ 1000000000) (h : am_at 0 A o = some e) : am_up bs (am_tA (am_tr1 bs sb sa) A) (am_tr1 bs sb sa o) (am_te (am_tr1 bs sb sa) e') = am_tA (am_tr1 bs sb sa) (am_up 0 A o e') := by
  obtain ⟨e1, -, -⟩ := am_t_at (bs := bs) (sb := sb) (sa := sa) hl h
  rw [e1]
  unfold am_up
  have e2 : bs + o - bs = o := by omega
  simp only [e2, Nat.sub_zero, am_tA, List.map_set]
theorem am_t_ob {A : am_A} {o ci : Nat} {fs : List Value} (hl : A.1.length ≤ 1000000000) (h : am_ob 0 A o ci = some fs) : am_ob bs (am_tA (am_tr1 bs sb sa) A) (am_tr1 bs sb sa o) ci = some (fs.map (am_tv (am_tr1 bs sb sa))) := by
  have h1 := am_ob_inv h
  obtain ⟨-, -, h2⟩ := am_t_at (bs := bs) (sb := sb) (sa := sa) hl h1
  unfold am_ob
  rw [h2]
  simp [am_te]
theorem am_t_ia {A : am_A} {o : Nat} {ty : FieldType} {q : Nat × (Nat → Int32)} (hl : A.1.length ≤ 1000000000) (h : am_ia 0 A o ty = some q) : am_ia bs (am_tA (am_tr1 bs sb sa) A) (am_tr1 bs sb sa o) ty = some q := by
  have h1 := am_ia_inv h
  obtain ⟨-, -, h2⟩ := am_t_at (bs := bs) (sb := sb) (sa := sa) hl h1
  unfold am_ia
  rw [h2]
  simp [am_te]
theorem am_t_la {A : am_A} {o : Nat} {q : Nat × (Nat → Int64)} (hl : A.1.length ≤ 1000000000) (h : am_la 0 A o = some q) : am_la bs (am_tA (am_tr1 bs sb sa) A) (am_tr1 bs sb sa o) = some q := by
  have h1 := am_la_inv h
  obtain ⟨-, -, h2⟩ := am_t_at (bs := bs) (sb := sb) (sa := sa) hl h1
  unfold am_la
  rw [h2]
  simp [am_te]
theorem am_t_al {A : am_A} {o n : Nat} (hl : A.1.length ≤ 1000000000) (h : am_al 0 A o = some n) : am_al bs (am_tA (am_tr1 bs sb sa) A) (am_tr1 bs sb sa o) = some n := by
  obtain ⟨t, x, h1, hc⟩ := am_al_inv h
  obtain ⟨-, -, h2⟩ := am_t_at (bs := bs) (sb := sb) (sa := sa) hl h1
  unfold am_al
  rw [h2]
  simp only [am_te]
  rw [if_pos hc]
theorem am_t_iaN {A : am_A} {o : Nat} {ty ty' : FieldType} {q : Nat × (Nat → Int32)} (hl : A.1.length ≤ 1000000000) (h : am_ia 0 A o ty = some q) (hn : ty ≠ ty') : am_ia bs (am_tA (am_tr1 bs sb sa) A) (am_tr1 bs sb sa o) ty' = none := by
  have h1 := am_ia_inv h
  obtain ⟨-, -, h2⟩ := am_t_at (bs := bs) (sb := sb) (sa := sa) hl h1
  unfold am_ia
  rw [h2]
  simp [am_te, hn]
theorem am_t_sb {A : am_A} {o : Nat} {e : am_E} (hsb : sb < bs) (hl : A.1.length ≤ 1000000000) (h : am_at 0 A o = some e) : ¬ am_tr1 bs sb sa o = sb := by
  obtain ⟨e1, -, -⟩ := am_t_at (bs := bs) (sb := sb) (sa := sa) hl h
  omega
set_option maxHeartbeats 2000000 in
theorem am_t_hp {ins : Instr} {a b : Nat} {st st' : List Value} {A A' : am_A} (hsb : sb < bs) (hl : A'.1.length ≤ 1000000000) (h : am_hp 0 nf 1000000000 sL sx ins a b st A = some (st', A')) : am_hp bs nf sb sL sx ins a b (st.map (am_tv (am_tr1 bs sb sa))) (am_tA (am_tr1 bs sb sa) A) = some (st'.map (am_tv (am_tr1 bs sb sa)), am_tA (am_tr1 bs sb sa) A') := by
  have hm := (am_hp_mono h).1
  have hA : A.1.length ≤ 1000000000 := Nat.le_trans hm hl
  unfold am_hp at h
  split at h
  · unfold am_get at h
    split at h
    · obtain ⟨fs, h1, h2⟩ := Option.bind_eq_some_iff.mp h
      obtain ⟨v, h3, h4⟩ := Option.map_eq_some_iff.mp h2
      cases h4
      simp only [am_hp, am_get, List.map_cons, am_tv, am_t_ob hA h1, Option.bind_some, List.getElem?_map, h3, Option.map_some]
    · cases h
  · unfold am_put at h
    split at h
    · obtain ⟨fs, h1, h2⟩ := Option.bind_eq_some_iff.mp h
      split at h2
      · rename_i v o r hf
        cases h2
        have hu := am_t_up (bs := bs) (sb := sb) (sa := sa) (e' := .inr (a, fs.set b v)) hA (am_ob_inv h1)
        simp only [am_te] at hu
        simp only [am_hp, am_put, List.map_cons, am_tv, am_t_ob hA h1, Option.bind_some, List.length_map]
        have hf2 : am_fit ((nf a).getD b .int) (am_tv (am_tr1 bs sb sa) v) = true := by rw [am_tv_fit]; exact hf.2
        simp only [am_tv] at hf2
        rw [if_pos ⟨hf.1, hf2⟩, ← hu, List.map_set]
        rfl
      · cases h2
    · cases h
  · unfold am_new at h
    cases h
    simp only [List.length_append, List.length_cons, List.length_nil] at hl
    have e1 : am_tr1 bs sb sa A.1.length = bs + A.1.length := by
      unfold am_tr1
      rw [if_neg (by omega), if_neg (by omega)]
    have e3 : List.map (am_tv (am_tr1 bs sb sa) ∘ defaultValue) (nf a) = List.map defaultValue (nf a) := List.map_congr_left (fun x _ => am_tv_def)
    simp only [am_hp, am_new, List.map_cons, am_tv, Nat.zero_add, e1, am_tA, List.length_map, List.map_append, am_te, List.map_map, List.map_nil, e3]
  · unfold am_nwa at h
    split at h
    · split at h
      · cases h
      · rename_i n r hc
        obtain ⟨x, h1, h2⟩ := Option.map_eq_some_iff.mp h
        cases h2
        simp only [List.length_append, List.length_cons, List.length_nil] at hl
        have e1 : am_tr1 bs sb sa A.1.length = bs + A.1.length := by
          unfold am_tr1
          rw [if_neg (by omega), if_neg (by omega)]
        simp only [am_hp, am_nwa, List.map_cons, am_tv, if_neg hc, h1, Option.map_some, Nat.zero_add, e1, am_tA, List.length_map, List.map_append, am_te, List.map_nil]
    · cases h
  · unfold am_len at h
    split at h
    · split at h
      · rename_i o r ho
        cases h
        have e1 : am_tr1 bs sb sa o = sb := by unfold am_tr1; rw [if_pos ho]
        simp only [am_hp, am_len, List.map_cons, am_tv, e1, if_true]
      · obtain ⟨n, h1, h2⟩ := Option.map_eq_some_iff.mp h
        cases h2
        obtain ⟨t, x, h3, -⟩ := am_al_inv h1
        simp only [am_hp, am_len, List.map_cons, am_tv, if_neg (am_t_sb hsb hA h3), am_t_al hA h1, Option.map_some]
    · cases h
  · unfold am_ial at h
    split at h
    · split at h
      · split at h
        · cases h
        · rename_i i o r ho hi
          cases h
          have e1 : am_tr1 bs sb sa o = sb := by unfold am_tr1; rw [if_pos ho]
          simp only [am_hp, am_ial, List.map_cons, am_tv, e1, if_true, if_neg hi]
      · obtain ⟨q, h1, h2⟩ := Option.bind_eq_some_iff.mp h
        split at h2
        · cases h2
        · rename_i hi
          cases h2
          simp only [am_hp, am_ial, List.map_cons, am_tv, if_neg (am_t_sb hsb hA (am_ia_inv h1)), am_t_ia hA h1, Option.bind_some, if_neg hi]
    · cases h
  · unfold am_lal at h
    split at h
    · obtain ⟨q, h1, h2⟩ := Option.bind_eq_some_iff.mp h
      split at h2
      · cases h2
      · rename_i hi
        cases h2
        simp only [am_hp, am_lal, List.map_cons, am_tv, am_t_la hA h1, Option.bind_some, if_neg hi]
    · cases h
  · unfold am_bal at h
    split at h
    · split at h
      · rename_i q h1
        split at h
        · cases h
        · rename_i hi
          cases h
          simp only [am_hp, am_bal, List.map_cons, am_tv, am_t_ia hA h1, if_neg hi]
      · obtain ⟨q, h1, h2⟩ := Option.bind_eq_some_iff.mp h
        split at h2
        · cases h2
        · rename_i hi
          cases h2
          simp only [am_hp, am_bal, List.map_cons, am_tv, am_t_iaN (ty' := .byte) hA h1 (by decide), am_t_ia hA h1, Option.bind_some, if_neg hi]
    · cases h
  · unfold am_ias at h
    split at h
    · obtain ⟨q, h1, h2⟩ := Option.bind_eq_some_iff.mp h
      split at h2
      · cases h2
      · rename_i x i o r hi
        cases h2
        have hu := am_t_up (bs := bs) (sb := sb) (sa := sa) (e' := .inl (.int, q.1, .inl (upd q.2 i.toNatClampNeg x))) hA (am_ia_inv h1)
        simp only [am_te] at hu
        simp only [am_hp, am_ias, List.map_cons, am_tv, am_t_ia hA h1, Option.bind_some, if_neg hi, hu]
    · cases h
  · unfold am_las at h
    split at h
    · obtain ⟨q, h1, h2⟩ := Option.bind_eq_some_iff.mp h
      split at h2
      · cases h2
      · rename_i x i o r hi
        cases h2
        have hu := am_t_up (bs := bs) (sb := sb) (sa := sa) (e' := .inl (.long, q.1, .inr (.inl (vp_updL q.2 i.toNatClampNeg x)))) hA (am_la_inv h1)
        simp only [am_te] at hu
        simp only [am_hp, am_las, List.map_cons, am_tv, am_t_la hA h1, Option.bind_some, if_neg hi, hu]
    · cases h
  · unfold am_bas at h
    split at h
    · rename_i x i o r
      split at h
      · rename_i q h1
        split at h
        · cases h
        · rename_i hi
          cases h
          have hu := am_t_up (bs := bs) (sb := sb) (sa := sa) (e' := .inl (.byte, q.1, .inl (upd q.2 i.toNatClampNeg (vp_nar .byte x)))) hA (am_ia_inv h1)
          simp only [am_te] at hu
          simp only [am_hp, am_bas, List.map_cons, am_tv, am_t_ia hA h1, if_neg hi, hu]
      · obtain ⟨q, h1, h2⟩ := Option.bind_eq_some_iff.mp h
        split at h2
        · cases h2
        · rename_i hi
          cases h2
          have hu := am_t_up (bs := bs) (sb := sb) (sa := sa) (e' := .inl (.boolean, q.1, .inl (upd q.2 i.toNatClampNeg (vp_nar .boolean x)))) hA (am_ia_inv h1)
          simp only [am_te] at hu
          simp only [am_hp, am_bas, List.map_cons, am_tv, am_t_iaN (ty' := .byte) hA h1 (by decide), am_t_ia hA h1, Option.bind_some, if_neg hi, hu]
    · cases h
  · cases h
theorem am_t_sum {t : Nat → Nat} {r : List Value} : ((r.map (am_tv t)).map fun v => v.category) = r.map fun v => v.category := by
  rw [List.map_map]
  apply List.map_congr_left
  intro x _
  exact am_tv_cat
theorem am_t_ca {t : Nat → Nat} {ins : Instr} {b : Nat} {st : List Value} {q : List Value × List Value} (h : am_ca ins b st = some q) : am_ca ins b (st.map (am_tv t)) = some (q.1.map (am_tv t), q.2.map (am_tv t)) := by
  unfold am_ca at h
  split at h
  · split at h
    · rename_i hb
      cases h
      simp only [am_ca, List.length_map, if_pos hb, List.map_take, List.map_drop, List.map_reverse]
    · cases h
  · rename_i hne
    split at h
    · rename_i o r hdr
      cases h
      unfold am_ca
      split
      · exact absurd rfl (hne _)
      · rw [← List.map_drop, hdr]
        simp only [List.map_cons, am_tv, List.map_take, List.map_reverse]
    · cases h
theorem am_t_rc {ins : Instr} {A : am_A} {vs : List Value} {ci : Nat} (hl : A.1.length ≤ 1000000000) (h : am_rc 0 ins A vs ci = true) : am_rc bs ins (am_tA (am_tr1 bs sb sa) A) (vs.map (am_tv (am_tr1 bs sb sa))) ci = true := by
  unfold am_rc at h ⊢
  split at h
  · split at h
    · obtain ⟨fs, hfs⟩ := Option.isSome_iff_exists.mp h
      simp only [List.map_cons, am_tv, am_t_ob hl hfs, Option.isSome_some]
    · cases h
  · rfl
theorem am_t_sl {t : Nat → Nat} {vs : List Value} : (lg_sl (vs.map (am_tv t))).length = (lg_sl vs).length := by
  unfold lg_sl
  induction vs with
  | nil => rfl
  | cons v vs ih =>
    simp only [List.map_cons, List.flatMap_cons, List.length_append, am_tv_cat, ih]
    split <;> rfl
theorem am_t_args {t : Nat → Nat} {vs : List Value} : ∀ i, lv_args i (vs.map (am_tv t)) = am_tl t (lv_args i vs) := by
  induction vs with
  | nil => intro i; rfl
  | cons v vs ih =>
    intro i
    simp only [List.map_cons, lv_args, am_tv_cat, ih, am_tl]
theorem am_t_opt {t : Nat → Nat} {w : Option Value} {r : List Value} : (w.map (am_tv t)).toList ++ r.map (am_tv t) = (w.toList ++ r).map (am_tv t) := by cases w <;> rfl
set_option maxHeartbeats 2000000 in
/-- the machine at any base does what it does at 0 -/
theorem am_shift {mth : Nat → Option am_T} {tbl : Nat → Nat → Option am_I} {sp sp' : Nat → List Value → Option (Option Value)} (hsb : sb < bs) (hsp : ∀ j vs w, sp j vs = some w → sp' j (vs.map (am_tv (am_tr1 bs sb sa))) = some (w.map (am_tv (am_tr1 bs sb sa)))) :
    ∀ (f d k pc : Nat) (lv : am_L) (st : List Value) (A A' : am_A) (v : Option Value), am_run 0 nf 1000000000 sL sx mth tbl 1000000001 sp f d k pc lv st A = some (v, A') → A'.1.length ≤ 1000000000 →
      am_run bs nf sb sL sx mth tbl sa sp' f d k pc (am_tl (am_tr1 bs sb sa) lv) (st.map (am_tv (am_tr1 bs sb sa))) (am_tA (am_tr1 bs sb sa) A) = some (v.map (am_tv (am_tr1 bs sb sa)), am_tA (am_tr1 bs sb sa) A') := by
  intro f
  induction f with
  | zero => intro d k pc lv st A A' v h; simp [am_run] at h
  | succ f ih =>
    intro d k pc lv st A A' v h hl
    rw [am_run] at h ⊢
    obtain ⟨M, hM, h⟩ := Option.bind_eq_some_iff.mp h
    obtain ⟨I, hI, h⟩ := Option.bind_eq_some_iff.mp h
    simp only [hM, hI, Option.bind_some]
    obtain ⟨ins, len, a, b, cI, sw⟩ := I
    dsimp only at h ⊢
    split at h
    · rename_i hk
      try simp only [hk]
      obtain ⟨q, h1, h2⟩ := Option.bind_eq_some_iff.mp h
      rw [am_t_sk h1]
      exact ih _ _ _ _ _ _ _ _ h2 hl
    · rename_i hk
      try simp only [hk]
      obtain ⟨q, h1, h2⟩ := Option.bind_eq_some_iff.mp h
      rw [am_t_lo h1]
      exact ih _ _ _ _ _ _ _ _ h2 hl
    · rename_i hk
      try simp only [hk]
      obtain ⟨q, h1, h2⟩ := Option.bind_eq_some_iff.mp h
      rw [am_t_so h1]
      exact ih _ _ _ _ _ _ _ _ h2 hl
    · rename_i hk
      try simp only [hk]
      obtain ⟨q, h1, h2⟩ := Option.bind_eq_some_iff.mp h
      rw [am_t_br h1]
      exact ih _ _ _ _ _ _ _ _ h2 hl
    · rename_i hk
      try simp only [hk]
      obtain ⟨q, h1, h2⟩ := Option.bind_eq_some_iff.mp h
      rw [am_t_st1 h1]
      exact ih _ _ _ _ _ _ _ _ h2 hl
    · rename_i hk
      try simp only [hk]
      obtain ⟨q, h1, h2⟩ := Option.bind_eq_some_iff.mp h
      have hm := am_run_mono _ _ _ _ _ _ _ _ _ h2
      rw [am_t_hp (st' := q.1) (A' := q.2) hsb (Nat.le_trans hm.1 hl) h1]
      exact ih _ _ _ _ _ _ _ _ h2 hl
    · rename_i hk
      try simp only [hk]
      obtain ⟨q, h1, h2⟩ := Option.map_eq_some_iff.mp h
      cases h2
      rw [am_t_rt h1]
      rfl
    · rename_i hk
      try simp only [hk]
      obtain ⟨q, h1, h2⟩ := Option.bind_eq_some_iff.mp h
      rw [am_t_ca h1]
      simp only [Option.bind_some, am_t_sum]
      split at h2
      · cases h2
      · rename_i hc
        rw [if_neg hc]
        cases d with
        | zero => cases h2
        | succ d' =>
          dsimp only at h2 ⊢
          split at h2
          · rename_i ha
            rw [if_pos ha]
            exact ih _ _ _ _ _ _ _ _ h2 hl
          · rename_i ha
            rw [if_neg ha]
            split at h2
            · rename_i ha2
              rw [if_pos ha2]
              split at h2
              · cases h2
              · rename_i h8
                rw [if_neg h8]
                obtain ⟨w, h3, h4⟩ := Option.bind_eq_some_iff.mp h2
                rw [hsp _ _ _ h3]
                simp only [Option.bind_some, am_t_opt]
                exact ih _ _ _ _ _ _ _ _ h4 hl
            · rename_i ha2
              rw [if_neg ha2]
              obtain ⟨N, h3, h4⟩ := Option.bind_eq_some_iff.mp h2
              simp only [h3, Option.bind_some]
              split at h4
              · rename_i hrc
                obtain ⟨w, h5, h6⟩ := Option.bind_eq_some_iff.mp h4
                have m1 := am_run_mono _ _ _ _ _ _ _ _ _ h5
                have m2 := am_run_mono _ _ _ _ _ _ _ _ _ h6
                rw [if_pos ⟨am_t_rc (by omega) hrc.1, by rw [am_t_sl]; exact hrc.2⟩]
                have i1 := ih _ _ _ _ _ _ _ _ h5 (by omega)
                simp only [am_t_args, List.map_nil] at i1 ⊢
                rw [i1]
                simp only [Option.bind_some, am_t_opt]
                exact ih _ _ _ _ _ _ _ _ h6 hl
              · cases h4
    · rename_i hk
      try simp only [hk]
      have i1 := ih _ _ _ _ _ _ _ _ h hl
      simp only [List.map_cons, am_tv] at i1
      have e1 : am_tr1 bs sb sa 1000000001 = sa := by unfold am_tr1; rw [if_neg (by omega), if_pos rfl]
      rw [e1] at i1
      exact i1
    · cases h
end AMS
