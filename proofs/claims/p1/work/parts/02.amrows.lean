/-! PART 02: each step of the abstract machine is the JVM's -/
theorem am_i1_inv {st r : List Value} {f : Int32 → Option Value} (h : am_i1 st f = some r) : ∃ x t v, st = .int x :: t ∧ f x = some v ∧ r = v :: t := by
  unfold am_i1 at h
  split at h
  · obtain ⟨v, hv, rfl⟩ := Option.map_eq_some_iff.mp h
    exact ⟨_, _, v, rfl, hv, rfl⟩
  · cases h
theorem am_l1_inv {st r : List Value} {f : Int64 → Option Value} (h : am_l1 st f = some r) : ∃ x t v, st = .long x :: t ∧ f x = some v ∧ r = v :: t := by
  unfold am_l1 at h
  split at h
  · obtain ⟨v, hv, rfl⟩ := Option.map_eq_some_iff.mp h
    exact ⟨_, _, v, rfl, hv, rfl⟩
  · cases h
theorem am_ii_inv {st r : List Value} {f : Int32 → Int32 → Option Value} (h : am_ii st f = some r) : ∃ x y t v, st = .int y :: .int x :: t ∧ f x y = some v ∧ r = v :: t := by
  unfold am_ii at h
  split at h
  · obtain ⟨v, hv, rfl⟩ := Option.map_eq_some_iff.mp h
    exact ⟨_, _, _, v, rfl, hv, rfl⟩
  · cases h
theorem am_ll_inv {st r : List Value} {f : Int64 → Int64 → Option Value} (h : am_ll st f = some r) : ∃ x y t v, st = .long y :: .long x :: t ∧ f x y = some v ∧ r = v :: t := by
  unfold am_ll at h
  split at h
  · obtain ⟨v, hv, rfl⟩ := Option.map_eq_some_iff.mp h
    exact ⟨_, _, _, v, rfl, hv, rfl⟩
  · cases h
theorem am_li_inv {st r : List Value} {f : Int64 → Int32 → Option Value} (h : am_li st f = some r) : ∃ x y t v, st = .int y :: .long x :: t ∧ f x y = some v ∧ r = v :: t := by
  unfold am_li at h
  split at h
  · obtain ⟨v, hv, rfl⟩ := Option.map_eq_some_iff.mp h
    exact ⟨_, _, _, v, rfl, hv, rfl⟩
  · cases h
theorem am_ld_ok {ls : Array Slot} {nL i : Nat} {lv : am_L} {v : Value} (h : lv_has ls nL lv) (hv : am_ld lv i = some v) : ls[i]? = some (.val v) ∧ ∃ k : Nat, lv[k]? = some (i, v) := by
  unfold am_ld at hv
  obtain ⟨q, hq, rfl⟩ := Option.map_eq_some_iff.mp hv
  have hm := List.mem_of_find?_eq_some hq
  have hp := List.find?_some hq
  have e : q.1 = i := by simpa using hp
  subst e
  exact ⟨h.2.2 q hm, List.getElem?_of_mem hm⟩
theorem am_gi_inv {o : Option Value} {v : Value} (h : am_gi o = some v) : ∃ x, o = some (.int x) ∧ v = .int x := by
  unfold am_gi at h
  split at h
  · cases h; exact ⟨_, rfl, rfl⟩
  · cases h
theorem am_gl_inv {o : Option Value} {v : Value} (h : am_gl o = some v) : ∃ x, o = some (.long x) ∧ v = .long x := by
  unfold am_gl at h
  split at h
  · cases h; exact ⟨_, rfl, rfl⟩
  · cases h
theorem am_ga_inv {o : Option Value} {v : Value} (h : am_ga o = some v) : ∃ x, o = some (.ref x) ∧ v = .ref x := by
  unfold am_ga at h
  split at h
  · cases h; exact ⟨_, rfl, rfl⟩
  · cases h
theorem am_s1_inv {nL i : Nat} {lv lv' : am_L} {v : Value} (h : am_s1 nL lv i v = some lv') : i < nL ∧ (i, v) :: lv.filter (fun q => !(q.1 == i) && !(q.1 + 1 == i && q.2.category == 2)) = lv' := by
  unfold am_s1 at h
  split at h
  · cases h; exact ⟨by assumption, rfl⟩
  · cases h
theorem am_s2_inv {nL i : Nat} {lv lv' : am_L} {v : Value} (h : am_s2 nL lv i v = some lv') : i + 1 < nL ∧ (i, v) :: lv.filter (fun q => !(q.1 == i) && (!(q.1 == i + 1) && !(q.1 + 1 == i && q.2.category == 2))) = lv' := by
  unfold am_s2 at h
  split at h
  · cases h; exact ⟨by assumption, rfl⟩
  · cases h
theorem am_si_inv {nL i : Nat} {lv : am_L} {st : List Value} {q : am_L × List Value} (h : am_si nL lv st i = some q) : ∃ x, st = .int x :: q.2 ∧ am_s1 nL lv i (.int x) = some q.1 := by
  unfold am_si at h
  split at h
  · obtain ⟨v, hv, rfl⟩ := Option.map_eq_some_iff.mp h
    exact ⟨_, rfl, hv⟩
  · cases h
theorem am_sl_inv {nL i : Nat} {lv : am_L} {st : List Value} {q : am_L × List Value} (h : am_sl nL lv st i = some q) : ∃ x, st = .long x :: q.2 ∧ am_s2 nL lv i (.long x) = some q.1 := by
  unfold am_sl at h
  split at h
  · obtain ⟨v, hv, rfl⟩ := Option.map_eq_some_iff.mp h
    exact ⟨_, rfl, hv⟩
  · cases h
theorem am_sa_inv {nL i : Nat} {lv : am_L} {st : List Value} {q : am_L × List Value} (h : am_sa nL lv st i = some q) : ∃ x, st = .ref x :: q.2 ∧ am_s1 nL lv i (.ref x) = some q.1 := by
  unfold am_sa at h
  split at h
  · obtain ⟨v, hv, rfl⟩ := Option.map_eq_some_iff.mp h
    exact ⟨_, rfl, hv⟩
  · cases h
theorem am_inc_inv {nL i : Nat} {n : Int} {lv : am_L} {st : List Value} {q : am_L × List Value} (h : am_inc nL lv st i n = some q) : ∃ x, am_ld lv i = some (.int x) ∧ st = q.2 ∧ am_s1 nL lv i (.int (x + Int32.ofInt n)) = some q.1 := by
  unfold am_inc at h
  split at h
  · obtain ⟨v, hv, rfl⟩ := Option.map_eq_some_iff.mp h
    exact ⟨_, by assumption, rfl, hv⟩
  · cases h
theorem am_fit_ok {ty : FieldType} {v : Value} (h : am_fit ty v = true) : narrow ty v = v ∧ fits ty v = true := by
  unfold am_fit at h
  split at h
  · split at h
    · exact ⟨rfl, rfl⟩
    · rcases (show _ = (0 : Int32) ∨ _ = (1 : Int32) by simpa using h) with hz | hz
      · rw [hz]; exact ⟨by decide +kernel, rfl⟩
      · rw [hz]; exact ⟨by decide +kernel, rfl⟩
    · cases h
  · split at h
    · exact ⟨rfl, rfl⟩
    · cases h
  · split at h
    · exact ⟨rfl, rfl⟩
    · exact ⟨rfl, rfl⟩
    · cases h
  · cases h
section AMR
variable {p : Program} {l : Launch} {e : Env} {R : Room} {s : State} {m : MethodId} {args : Array Value} {below : List Frame} {meth : Method} {c : Code} {H : Heap} {locs : List Loc} {cells slots : Nat} {Q : State → Prop}
variable {cc : ByteArray} {pc : Nat} {ls : Array Slot} {st st' : List Value} {ins : Instr} {a nL : Nat} {lv : am_L} {own : String}
/-- the constants that an instruction reads are what the tables say -/
def am_kc (args : Array Value) (s : State) (own : String) (ins : Instr) (a : Nat) : Prop := match ins with
  | .ldc i => (Jvm.Cond.constant own i (Int32.ofNat a)).before args s = true
  | .ldc_w i => (Jvm.Cond.constant own i (Int32.ofNat a)).before args s = true
  | .ldc2_w i => (Jvm.Cond.constantLong own i (Int64.ofNat a)).before args s = true
  | _ => True
set_option maxHeartbeats 4000000 in
theorem am_sk_ok (hx : p.tables.exec = Jvm.exec) (hb : c.code = cc) (hown : s.vm.findClass own = some m.cls) (hk : am_kc args s own ins a) (h : am_sk ins a st = some st') (hd : decode cc pc = .ok (ins, am_ln ins))
    (kk : W p l e R s m args below meth c H locs cells slots Q (F0 m (pc + am_ln ins) ls st')) : W p l e R s m args below meth c H locs cells slots Q (F0 m pc ls st) := by
  unfold am_sk at h
  split at h
  · cases h; exact lv_iconst hx hb hd rfl kk
  · cases h; exact lv_bipush hx hb hd rfl kk
  · cases h; exact lv_sipush hx hb hd rfl kk
  · cases h; exact lv_lconst hx hb hd rfl kk
  · cases h; exact lv_ldc hx hb hown hk hd kk
  · cases h; exact lv_ldcw hx hb hown hk hd kk
  · cases h; exact lv_ldc2 hx hb hown hk hd kk
  · obtain ⟨x, y, t, v, rfl, hv, rfl⟩ := am_ii_inv h; cases hv; exact lv_iadd hx hb hd kk
  · obtain ⟨x, y, t, v, rfl, hv, rfl⟩ := am_ii_inv h; cases hv; exact lv_isub hx hb hd kk
  · obtain ⟨x, y, t, v, rfl, hv, rfl⟩ := am_ii_inv h; cases hv; exact lv_imul hx hb hd kk
  · obtain ⟨x, y, t, v, rfl, hv, rfl⟩ := am_ii_inv h; cases hv; exact lv_iand hx hb hd kk
  · obtain ⟨x, y, t, v, rfl, hv, rfl⟩ := am_ii_inv h; cases hv; exact lv_ior hx hb hd kk
  · obtain ⟨x, y, t, v, rfl, hv, rfl⟩ := am_ii_inv h; cases hv; exact lv_ishl hx hb hd kk
  · obtain ⟨x, y, t, v, rfl, hv, rfl⟩ := am_ii_inv h; cases hv; exact lv_ishr hx hb hd kk
  · obtain ⟨x, y, t, v, rfl, hv, rfl⟩ := am_ii_inv h
    by_cases hy : y = 0
    · simp [hy] at hv
    · simp only [if_neg hy] at hv; cases hv; exact lv_idiv hx hb hd hy kk
  · obtain ⟨x, y, t, v, rfl, hv, rfl⟩ := am_ii_inv h
    by_cases hy : y = 0
    · simp [hy] at hv
    · simp only [if_neg hy] at hv; cases hv; exact lv_irem hx hb hd hy kk
  · obtain ⟨x, t, v, rfl, hv, rfl⟩ := am_i1_inv h; cases hv; exact lv_ineg hx hb hd kk
  · obtain ⟨x, t, v, rfl, hv, rfl⟩ := am_i1_inv h; cases hv; exact lv_i2l hx hb hd rfl kk
  · obtain ⟨x, t, v, rfl, hv, rfl⟩ := am_i1_inv h; cases hv; exact lv_i2b hx hb hd rfl kk
  · obtain ⟨x, t, v, rfl, hv, rfl⟩ := am_l1_inv h; cases hv; exact lv_l2i hx hb hd rfl kk
  · obtain ⟨x, t, v, rfl, hv, rfl⟩ := am_l1_inv h; cases hv; exact lv_lneg hx hb hd kk
  · obtain ⟨x, y, t, v, rfl, hv, rfl⟩ := am_ll_inv h; cases hv; exact lv_lmul hx hb hd kk
  · obtain ⟨x, y, t, v, rfl, hv, rfl⟩ := am_ll_inv h; cases hv; exact lv_land hx hb hd kk
  · obtain ⟨x, y, t, v, rfl, hv, rfl⟩ := am_ll_inv h; cases hv; exact lv_lor hx hb hd kk
  · obtain ⟨x, y, t, v, rfl, hv, rfl⟩ := am_ll_inv h
    by_cases hy : y = 0
    · simp [hy] at hv
    · simp only [if_neg hy] at hv; cases hv; exact lv_ldiv hx hb hd hy kk
  · obtain ⟨x, y, t, v, rfl, hv, rfl⟩ := am_ll_inv h
    by_cases hy : y = 0
    · simp [hy] at hv
    · simp only [if_neg hy] at hv; cases hv; exact lv_lrem hx hb hd hy kk
  · obtain ⟨x, y, t, v, rfl, hv, rfl⟩ := am_ll_inv h; cases hv; exact W.lcmp hx hb hd kk
  · obtain ⟨x, y, t, v, rfl, hv, rfl⟩ := am_li_inv h; cases hv; exact lv_lshl hx hb hd rfl kk
  · obtain ⟨x, y, t, v, rfl, hv, rfl⟩ := am_li_inv h; cases hv; exact lv_lshr hx hb hd rfl kk
  · unfold am_dup at h
    split at h
    · rename_i v r
      by_cases hc : v.category = 1
      · rw [if_pos hc] at h; cases h; exact lv_dup hx hb hd hc kk
      · rw [if_neg hc] at h; cases h
    · cases h
  · unfold am_pop at h
    split at h
    · rename_i v r
      by_cases hc : v.category = 1
      · rw [if_pos hc] at h; cases h; exact lv_pop hx hb hd hc kk
      · rw [if_neg hc] at h; cases h
    · cases h
  · unfold am_dup2 at h
    split at h
    · rename_i v w r
      by_cases hc : v.category = 1 ∧ w.category = 1
      · rw [if_pos hc] at h; cases h; exact lv_dup2_11 hx hb hd hc.1 hc.2 kk
      · rw [if_neg hc] at h; cases h
    · cases h
  · cases h
set_option maxHeartbeats 4000000 in
theorem am_lo_ok {v : Value} (hx : p.tables.exec = Jvm.exec) (hb : c.code = cc) (hl : lv_has ls nL lv) (h : am_lo ins lv = some v) (hd : decode cc pc = .ok (ins, am_ln ins))
    (kk : W p l e R s m args below meth c H locs cells slots Q (F0 m (pc + am_ln ins) ls (v :: st))) : W p l e R s m args below meth c H locs cells slots Q (F0 m pc ls st) := by
  unfold am_lo at h
  split at h
  · obtain ⟨x, h1, rfl⟩ := am_gi_inv h; exact lv_iload hx hb hd (am_ld_ok hl h1).1 kk
  · obtain ⟨x, h1, rfl⟩ := am_gi_inv h; exact lv_iload_n hx hb hd rfl (am_ld_ok hl h1).1 kk
  · obtain ⟨x, h1, rfl⟩ := am_gl_inv h; exact lv_lload hx hb hd (am_ld_ok hl h1).1 kk
  · obtain ⟨x, h1, rfl⟩ := am_gl_inv h; exact lv_lload_n hx hb hd rfl (am_ld_ok hl h1).1 kk
  · obtain ⟨x, h1, rfl⟩ := am_ga_inv h; exact lv_aload hx hb hd (am_ld_ok hl h1).1 kk
  · obtain ⟨x, h1, rfl⟩ := am_ga_inv h; exact lv_aload_n hx hb hd rfl (am_ld_ok hl h1).1 kk
  · cases h
set_option maxHeartbeats 4000000 in
theorem am_so_ok {q : am_L × List Value} (hx : p.tables.exec = Jvm.exec) (hb : c.code = cc) (hl : lv_has ls nL lv) (h : am_so ins nL lv st = some q) (hd : decode cc pc = .ok (ins, am_ln ins))
    (kk : ∀ ls' : Array Slot, lv_has ls' nL q.1 → W p l e R s m args below meth c H locs cells slots Q (F0 m (pc + am_ln ins) ls' q.2)) : W p l e R s m args below meth c H locs cells slots Q (F0 m pc ls st) := by
  unfold am_so at h
  split at h
  · obtain ⟨x, rfl, h2⟩ := am_si_inv h; obtain ⟨h3, h4⟩ := am_s1_inv h2; exact lv_istore hx hb hd hl h3 h4 kk
  · obtain ⟨x, rfl, h2⟩ := am_si_inv h; obtain ⟨h3, h4⟩ := am_s1_inv h2; exact lv_istore_n hx hb hd rfl hl h3 h4 kk
  · obtain ⟨x, rfl, h2⟩ := am_sl_inv h; obtain ⟨h3, h4⟩ := am_s2_inv h2; exact lv_lstore hx hb hd hl h3 h4 kk
  · obtain ⟨x, rfl, h2⟩ := am_sl_inv h; obtain ⟨h3, h4⟩ := am_s2_inv h2; exact lv_lstore_n hx hb hd rfl hl h3 h4 kk
  · obtain ⟨x, rfl, h2⟩ := am_sa_inv h; obtain ⟨h3, h4⟩ := am_s1_inv h2; exact lv_astore hx hb hd hl h3 h4 kk
  · obtain ⟨x, rfl, h2⟩ := am_sa_inv h; obtain ⟨h3, h4⟩ := am_s1_inv h2; exact lv_astore_n hx hb hd rfl hl h3 h4 kk
  · obtain ⟨x, h1, rfl, h2⟩ := am_inc_inv h
    obtain ⟨h3, h4⟩ := am_s1_inv h2
    obtain ⟨k, hk⟩ := (am_ld_ok hl h1).2
    exact lv_iinc hx hb hd hl hk rfl h3 h4 kk
  · cases h
/-- a branch's target is where the table says -/
def am_tg (ins : Instr) (pc a : Nat) : Prop := match ins with
  | .goto o => (pc : Int) + o = (a : Int)
  | .ifCond _ o => (pc : Int) + o = (a : Int)
  | .if_icmp _ o => (pc : Int) + o = (a : Int)
  | _ => True
theorem am_ift {b : Bool} {x y : Nat} {P : Nat → Prop} (h : b = true) (k : P (if b = true then x else y)) : P x := by rw [if_pos h] at k; exact k
theorem am_iff {b : Bool} {x y : Nat} {P : Nat → Prop} (h : b = false) (k : P (if b = true then x else y)) : P y := by rw [h] at k; exact k
set_option maxHeartbeats 4000000 in
theorem am_br_ok {q : Bool × List Value} (hx : p.tables.exec = Jvm.exec) (hb : c.code = cc) (ht : am_tg ins pc a) (h : am_br ins st = some q) (hd : decode cc pc = .ok (ins, am_ln ins))
    (kk : W p l e R s m args below meth c H locs cells slots Q (F0 m (if q.1 = true then a else pc + am_ln ins) ls q.2)) : W p l e R s m args below meth c H locs cells slots Q (F0 m pc ls st) := by
  unfold am_br at h
  split at h
  · cases h; exact lv_goto hx hb hd ht kk
  · rename_i cd o
    unfold am_b1 at h
    split at h
    · cases h
      cases cd
      · exact lv_if_eq hx hb hd ht (fun z => am_ift (P := fun n => W p l e R s m args below meth c H locs cells slots Q (F0 m n ls _)) (decide_eq_true z) kk) (fun z => am_iff (P := fun n => W p l e R s m args below meth c H locs cells slots Q (F0 m n ls _)) (decide_eq_false z) kk)
      · exact lv_if_ne hx hb hd ht (fun z => am_ift (P := fun n => W p l e R s m args below meth c H locs cells slots Q (F0 m n ls _)) (decide_eq_true z) kk) (fun z => am_iff (P := fun n => W p l e R s m args below meth c H locs cells slots Q (F0 m n ls _)) (decide_eq_false (fun h => h z)) kk)
      · exact lv_if_lt hx hb hd ht (fun z => am_ift (P := fun n => W p l e R s m args below meth c H locs cells slots Q (F0 m n ls _)) (decide_eq_true z) kk) (fun z => am_iff (P := fun n => W p l e R s m args below meth c H locs cells slots Q (F0 m n ls _)) (decide_eq_false z) kk)
      · exact lv_if_ge hx hb hd ht (fun z => am_ift (P := fun n => W p l e R s m args below meth c H locs cells slots Q (F0 m n ls _)) (decide_eq_true z) kk) (fun z => am_iff (P := fun n => W p l e R s m args below meth c H locs cells slots Q (F0 m n ls _)) (decide_eq_false z) kk)
      · exact lv_if_gt hx hb hd ht (fun z => am_ift (P := fun n => W p l e R s m args below meth c H locs cells slots Q (F0 m n ls _)) (decide_eq_true z) kk) (fun z => am_iff (P := fun n => W p l e R s m args below meth c H locs cells slots Q (F0 m n ls _)) (decide_eq_false z) kk)
      · exact lv_if_le hx hb hd ht (fun z => am_ift (P := fun n => W p l e R s m args below meth c H locs cells slots Q (F0 m n ls _)) (decide_eq_true z) kk) (fun z => am_iff (P := fun n => W p l e R s m args below meth c H locs cells slots Q (F0 m n ls _)) (decide_eq_false z) kk)
    · cases h
  · rename_i cd o
    unfold am_b2 at h
    split at h
    · cases h
      cases cd
      · exact lv_icmp_eq hx hb hd ht (fun z => am_ift (P := fun n => W p l e R s m args below meth c H locs cells slots Q (F0 m n ls _)) (decide_eq_true z) kk) (fun z => am_iff (P := fun n => W p l e R s m args below meth c H locs cells slots Q (F0 m n ls _)) (decide_eq_false z) kk)
      · exact lv_icmp_ne hx hb hd ht (fun z => am_ift (P := fun n => W p l e R s m args below meth c H locs cells slots Q (F0 m n ls _)) (decide_eq_true z) kk) (fun z => am_iff (P := fun n => W p l e R s m args below meth c H locs cells slots Q (F0 m n ls _)) (decide_eq_false (fun h => h z)) kk)
      · exact lv_icmp_lt hx hb hd ht (fun z => am_ift (P := fun n => W p l e R s m args below meth c H locs cells slots Q (F0 m n ls _)) (decide_eq_true z) kk) (fun z => am_iff (P := fun n => W p l e R s m args below meth c H locs cells slots Q (F0 m n ls _)) (decide_eq_false z) kk)
      · exact lv_icmp_ge hx hb hd ht (fun z => am_ift (P := fun n => W p l e R s m args below meth c H locs cells slots Q (F0 m n ls _)) (decide_eq_true z) kk) (fun z => am_iff (P := fun n => W p l e R s m args below meth c H locs cells slots Q (F0 m n ls _)) (decide_eq_false z) kk)
      · exact lv_icmp_gt hx hb hd ht (fun z => am_ift (P := fun n => W p l e R s m args below meth c H locs cells slots Q (F0 m n ls _)) (decide_eq_true z) kk) (fun z => am_iff (P := fun n => W p l e R s m args below meth c H locs cells slots Q (F0 m n ls _)) (decide_eq_false z) kk)
      · exact lv_icmp_le hx hb hd ht (fun z => am_ift (P := fun n => W p l e R s m args below meth c H locs cells slots Q (F0 m n ls _)) (decide_eq_true z) kk) (fun z => am_iff (P := fun n => W p l e R s m args below meth c H locs cells slots Q (F0 m n ls _)) (decide_eq_false z) kk)
    · cases h
  · cases h
end AMR
