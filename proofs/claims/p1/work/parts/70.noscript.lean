/-! PART 70: a run that never holds the script's place doesn't depend on the script -/
def ns_v (v : Value) : Prop := v ≠ .ref 1000000000
def ns_e (e : am_E) : Prop := match e with
  | .inr q => ∀ v ∈ q.2, ns_v v
  | .inl _ => True
def ns_A (A : am_A) : Prop := ∀ e ∈ A.1, ns_e e
def ns_L (lv : am_L) : Prop := ∀ q ∈ lv, ns_v q.2
def ns_S (st : List Value) : Prop := ∀ v ∈ st, ns_v v
theorem ns_c {v : Value} {r : List Value} : ns_S (v :: r) ↔ ns_v v ∧ ns_S r := by
  unfold ns_S
  simp
theorem ns_i {x : Int32} : ns_v (.int x) := by unfold ns_v; intro h; cases h
theorem ns_l {x : Int64} : ns_v (.long x) := by unfold ns_v; intro h; cases h
theorem ns_sk {ins : Instr} {a : Nat} {st st' : List Value} (h : am_sk ins a st = some st') (hs : ns_S st) : ns_S st' := by
  have ii : ∀ f : Int32 → Int32 → Option Value, (∀ x y v, f x y = some v → ns_v v) → am_ii st f = some st' → ns_S st' := by
    intro f hf h
    unfold am_ii at h
    split at h
    · obtain ⟨v, h1, h2⟩ := Option.map_eq_some_iff.mp h
      cases h2
      exact ns_c.mpr ⟨hf _ _ _ h1, (ns_c.mp (ns_c.mp hs).2).2⟩
    · cases h
  have ll : ∀ f : Int64 → Int64 → Option Value, (∀ x y v, f x y = some v → ns_v v) → am_ll st f = some st' → ns_S st' := by
    intro f hf h
    unfold am_ll at h
    split at h
    · obtain ⟨v, h1, h2⟩ := Option.map_eq_some_iff.mp h
      cases h2
      exact ns_c.mpr ⟨hf _ _ _ h1, (ns_c.mp (ns_c.mp hs).2).2⟩
    · cases h
  have li : ∀ f : Int64 → Int32 → Option Value, (∀ x y v, f x y = some v → ns_v v) → am_li st f = some st' → ns_S st' := by
    intro f hf h
    unfold am_li at h
    split at h
    · obtain ⟨v, h1, h2⟩ := Option.map_eq_some_iff.mp h
      cases h2
      exact ns_c.mpr ⟨hf _ _ _ h1, (ns_c.mp (ns_c.mp hs).2).2⟩
    · cases h
  have i1 : ∀ f : Int32 → Option Value, (∀ x v, f x = some v → ns_v v) → am_i1 st f = some st' → ns_S st' := by
    intro f hf h
    unfold am_i1 at h
    split at h
    · obtain ⟨v, h1, h2⟩ := Option.map_eq_some_iff.mp h
      cases h2
      exact ns_c.mpr ⟨hf _ _ h1, (ns_c.mp hs).2⟩
    · cases h
  have l1 : ∀ f : Int64 → Option Value, (∀ x v, f x = some v → ns_v v) → am_l1 st f = some st' → ns_S st' := by
    intro f hf h
    unfold am_l1 at h
    split at h
    · obtain ⟨v, h1, h2⟩ := Option.map_eq_some_iff.mp h
      cases h2
      exact ns_c.mpr ⟨hf _ _ h1, (ns_c.mp hs).2⟩
    · cases h
  have oi : ∀ {x : Int32} {v : Value}, some (Value.int x) = some v → ns_v v := by intro x v h; cases h; exact ns_i
  have ol : ∀ {x : Int64} {v : Value}, some (Value.long x) = some v → ns_v v := by intro x v h; cases h; exact ns_l
  have pi : ∀ {x : Int32}, some (Value.int x :: st) = some st' → ns_S st' := by intro x h; cases h; exact ns_c.mpr ⟨ns_i, hs⟩
  have pl : ∀ {x : Int64}, some (Value.long x :: st) = some st' → ns_S st' := by intro x h; cases h; exact ns_c.mpr ⟨ns_l, hs⟩
  unfold am_sk at h
  split at h
  · exact pi h
  · exact pi h
  · exact pi h
  · exact pl h
  · exact pi h
  · exact pi h
  · exact pl h
  · exact ii _ (fun _ _ _ => oi) h
  · exact ii _ (fun _ _ _ => oi) h
  · exact ii _ (fun _ _ _ => oi) h
  · exact ii _ (fun _ _ _ => oi) h
  · exact ii _ (fun _ _ _ => oi) h
  · exact ii _ (fun _ _ _ => oi) h
  · exact ii _ (fun _ _ _ => oi) h
  · refine ii _ (fun x y v e => ?_) h
    split at e
    · cases e
    · exact oi e
  · refine ii _ (fun x y v e => ?_) h
    split at e
    · cases e
    · exact oi e
  · exact i1 _ (fun _ _ => oi) h
  · exact i1 _ (fun _ _ => ol) h
  · exact i1 _ (fun _ _ => oi) h
  · exact l1 _ (fun _ _ => oi) h
  · exact l1 _ (fun _ _ => ol) h
  · exact ll _ (fun _ _ _ => ol) h
  · exact ll _ (fun _ _ _ => ol) h
  · exact ll _ (fun _ _ _ => ol) h
  · refine ll _ (fun x y v e => ?_) h
    split at e
    · cases e
    · exact ol e
  · refine ll _ (fun x y v e => ?_) h
    split at e
    · cases e
    · exact ol e
  · exact ll _ (fun _ _ _ => oi) h
  · exact li _ (fun _ _ _ => ol) h
  · exact li _ (fun _ _ _ => ol) h
  · unfold am_dup at h
    split at h
    · split at h
      · cases h; exact ns_c.mpr ⟨(ns_c.mp hs).1, hs⟩
      · cases h
    · cases h
  · unfold am_pop at h
    split at h
    · split at h
      · cases h; exact (ns_c.mp hs).2
      · cases h
    · cases h
  · unfold am_dup2 at h
    split at h
    · split at h
      · cases h
        exact ns_c.mpr ⟨(ns_c.mp hs).1, ns_c.mpr ⟨(ns_c.mp (ns_c.mp hs).2).1, hs⟩⟩
      · cases h
    · cases h
  · cases h
theorem ns_ld {lv : am_L} {i : Nat} {v : Value} (h : am_ld lv i = some v) (hl : ns_L lv) : ns_v v := hl _ (rf_ld_mem h)
theorem ns_lo {ins : Instr} {lv : am_L} {v : Value} (h : am_lo ins lv = some v) (hl : ns_L lv) : ns_v v := by
  have gi : ∀ i, am_gi (am_ld lv i) = some v → ns_v v := by
    intro i hi
    unfold am_gi at hi
    split at hi
    · cases hi; exact ns_i
    · cases hi
  have gl : ∀ i, am_gl (am_ld lv i) = some v → ns_v v := by
    intro i hi
    unfold am_gl at hi
    split at hi
    · cases hi; exact ns_l
    · cases hi
  have ga : ∀ i, am_ga (am_ld lv i) = some v → ns_v v := by
    intro i hi
    unfold am_ga at hi
    split at hi
    · rename_i x hx
      cases hi
      exact ns_ld hx hl
    · cases hi
  unfold am_lo at h
  split at h
  · exact gi _ h
  · exact gi _ h
  · exact gl _ h
  · exact gl _ h
  · exact ga _ h
  · exact ga _ h
  · cases h
theorem ns_so {ins : Instr} {nL : Nat} {lv : am_L} {st : List Value} {q : am_L × List Value} (h : am_so ins nL lv st = some q) (hl : ns_L lv) (hs : ns_S st) : ns_L q.1 ∧ ns_S q.2 := by
  have s1 : ∀ i v l', ns_v v → am_s1 nL lv i v = some l' → ns_L l' := by
    intro i v l' hv h
    unfold am_s1 at h
    split at h
    · cases h
      intro p hp
      rcases List.mem_cons.mp hp with e | e
      · subst e; exact hv
      · exact hl p (List.mem_filter.mp e).1
    · cases h
  have s2 : ∀ i v l', ns_v v → am_s2 nL lv i v = some l' → ns_L l' := by
    intro i v l' hv h
    unfold am_s2 at h
    split at h
    · cases h
      intro p hp
      rcases List.mem_cons.mp hp with e | e
      · subst e; exact hv
      · exact hl p (List.mem_filter.mp e).1
    · cases h
  have si : ∀ i, am_si nL lv st i = some q → ns_L q.1 ∧ ns_S q.2 := by
    intro i h
    unfold am_si at h
    split at h
    · obtain ⟨l', h1, h2⟩ := Option.map_eq_some_iff.mp h
      cases h2
      exact ⟨s1 _ _ _ ns_i h1, (ns_c.mp hs).2⟩
    · cases h
  have sl : ∀ i, am_sl nL lv st i = some q → ns_L q.1 ∧ ns_S q.2 := by
    intro i h
    unfold am_sl at h
    split at h
    · obtain ⟨l', h1, h2⟩ := Option.map_eq_some_iff.mp h
      cases h2
      exact ⟨s2 _ _ _ ns_l h1, (ns_c.mp hs).2⟩
    · cases h
  have sa : ∀ i, am_sa nL lv st i = some q → ns_L q.1 ∧ ns_S q.2 := by
    intro i h
    unfold am_sa at h
    split at h
    · obtain ⟨l', h1, h2⟩ := Option.map_eq_some_iff.mp h
      cases h2
      exact ⟨s1 _ _ _ (ns_c.mp hs).1 h1, (ns_c.mp hs).2⟩
    · cases h
  unfold am_so at h
  split at h
  · exact si _ h
  · exact si _ h
  · exact sl _ h
  · exact sl _ h
  · exact sa _ h
  · exact sa _ h
  · unfold am_inc at h
    split at h
    · obtain ⟨l', h1, h2⟩ := Option.map_eq_some_iff.mp h
      cases h2
      exact ⟨s1 _ _ _ ns_i h1, hs⟩
    · cases h
  · cases h
theorem ns_br {ins : Instr} {st : List Value} {q : Bool × List Value} (h : am_br ins st = some q) (hs : ns_S st) : ns_S q.2 := by
  unfold am_br at h
  split at h
  · cases h; exact hs
  · unfold am_b1 at h
    split at h
    · cases h; exact (ns_c.mp hs).2
    · cases h
  · unfold am_b2 at h
    split at h
    · cases h; exact (ns_c.mp (ns_c.mp hs).2).2
    · cases h
  · cases h
theorem ns_st1 {st : List Value} {q : Int32 × List Value} (h : am_st1 st = some q) (hs : ns_S st) : ns_S q.2 := by
  unfold am_st1 at h
  split at h
  · cases h; exact (ns_c.mp hs).2
  · cases h
theorem ns_ca {ins : Instr} {b : Nat} {st : List Value} {q : List Value × List Value} (h : am_ca ins b st = some q) (hs : ns_S st) : ns_S q.1 ∧ ns_S q.2 := by
  unfold am_ca at h
  split at h
  · split at h
    · cases h
      exact ⟨fun v hv => hs v (List.mem_of_mem_take (List.mem_reverse.mp hv)), fun v hv => hs v (List.mem_of_mem_drop hv)⟩
    · cases h
  · split at h
    · rename_i o r hd
      cases h
      have hr : ns_S (.ref o :: r) := by rw [← hd]; exact fun v hv => hs v (List.mem_of_mem_drop hv)
      refine ⟨?_, (ns_c.mp hr).2⟩
      intro v hv
      rcases List.mem_cons.mp hv with e | e
      · subst e; exact (ns_c.mp hr).1
      · exact hs v (List.mem_of_mem_take (List.mem_reverse.mp e))
    · cases h
theorem ns_up {A : am_A} {o : Nat} {e : am_E} (hA : ns_A A) (he : ns_e e) : ns_A (am_up 0 A o e) := by
  intro x hx
  unfold am_up at hx
  rcases List.mem_or_eq_of_mem_set hx with h | h
  · exact hA x h
  · rw [h]; exact he
theorem ns_app {A : am_A} {e : am_E} {n : Nat} (hA : ns_A A) (he : ns_e e) : ns_A (A.1 ++ [e], n) := by
  intro x hx
  rcases List.mem_append.mp hx with h | h
  · exact hA x h
  · rw [List.mem_singleton.mp h]; exact he
theorem ns_at {A : am_A} {o ci : Nat} {fs : List Value} (h : am_ob 0 A o ci = some fs) (hA : ns_A A) : ∀ v ∈ fs, ns_v v := by
  have := am_ob_inv h
  unfold am_at at this
  rw [if_pos (Nat.zero_le _)] at this
  exact hA _ (List.mem_of_getElem? this)
