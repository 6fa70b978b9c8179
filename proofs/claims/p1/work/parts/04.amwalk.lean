/-! PART 04: what the abstract machine runs, the JVM runs (the walk), and a contract of each method out of its run -/
theorem am_hp_mono {bs : Nat} {nf : Nat → List FieldType} {sb sL : Nat} {sx : Nat → Int32} {ins : Instr} {a b : Nat} {st : List Value} {A : am_A} {q : List Value × am_A} (h : am_hp bs nf sb sL sx ins a b st A = some q) : A.1.length ≤ q.2.1.length ∧ A.2 ≤ q.2.2 := by
  unfold am_hp at h
  split at h
  · unfold am_get at h
    split at h
    · obtain ⟨fs, h1, h2⟩ := Option.bind_eq_some_iff.mp h
      obtain ⟨v, h3, h4⟩ := Option.map_eq_some_iff.mp h2
      cases h4
      exact ⟨Nat.le_refl _, Nat.le_refl _⟩
    · cases h
  · unfold am_put at h
    split at h
    · obtain ⟨fs, h1, h2⟩ := Option.bind_eq_some_iff.mp h
      split at h2
      · cases h2; simp [am_up]
      · cases h2
    · cases h
  · unfold am_new at h
    cases h
    simp
  · unfold am_nwa at h
    split at h
    · split at h
      · cases h
      · obtain ⟨v, h3, h4⟩ := Option.map_eq_some_iff.mp h
        cases h4
        simp
    · cases h
  · unfold am_len at h
    split at h
    · split at h
      · cases h; exact ⟨Nat.le_refl _, Nat.le_refl _⟩
      · obtain ⟨v, h3, h4⟩ := Option.map_eq_some_iff.mp h
        cases h4
        exact ⟨Nat.le_refl _, Nat.le_refl _⟩
    · cases h
  · unfold am_ial at h
    split at h
    · split at h
      · split at h
        · cases h
        · cases h; exact ⟨Nat.le_refl _, Nat.le_refl _⟩
      · obtain ⟨fs, h1, h2⟩ := Option.bind_eq_some_iff.mp h
        split at h2
        · cases h2
        · cases h2; exact ⟨Nat.le_refl _, Nat.le_refl _⟩
    · cases h
  · unfold am_lal at h
    split at h
    · obtain ⟨fs, h1, h2⟩ := Option.bind_eq_some_iff.mp h
      split at h2
      · cases h2
      · cases h2; exact ⟨Nat.le_refl _, Nat.le_refl _⟩
    · cases h
  · unfold am_bal at h
    split at h
    · split at h
      · split at h
        · cases h
        · cases h; exact ⟨Nat.le_refl _, Nat.le_refl _⟩
      · obtain ⟨fs, h1, h2⟩ := Option.bind_eq_some_iff.mp h
        split at h2
        · cases h2
        · cases h2; exact ⟨Nat.le_refl _, Nat.le_refl _⟩
    · cases h
  · unfold am_ias at h
    split at h
    · obtain ⟨fs, h1, h2⟩ := Option.bind_eq_some_iff.mp h
      split at h2
      · cases h2
      · cases h2; simp [am_up]
    · cases h
  · unfold am_las at h
    split at h
    · obtain ⟨fs, h1, h2⟩ := Option.bind_eq_some_iff.mp h
      split at h2
      · cases h2
      · cases h2; simp [am_up]
    · cases h
  · unfold am_bas at h
    split at h
    · split at h
      · split at h
        · cases h
        · cases h; simp [am_up]
      · obtain ⟨fs, h1, h2⟩ := Option.bind_eq_some_iff.mp h
        split at h2
        · cases h2
        · cases h2; simp [am_up]
    · cases h
  · cases h
theorem am_run_mono {bs : Nat} {nf : Nat → List FieldType} {sb sL : Nat} {sx : Nat → Int32} {mth : Nat → Option am_T} {tbl : Nat → Nat → Option am_I} {sa : Nat} {sp : Nat → List Value → Option (Option Value)} :
    ∀ (f d k pc : Nat) (lv : am_L) (st : List Value) (A A' : am_A) (v : Option Value), am_run bs nf sb sL sx mth tbl sa sp f d k pc lv st A = some (v, A') → A.1.length ≤ A'.1.length ∧ A.2 ≤ A'.2 := by
  intro f
  induction f with
  | zero => intro d k pc lv st A A' v h; simp [am_run] at h
  | succ f ih =>
    intro d k pc lv st A A' v h
    rw [am_run] at h
    obtain ⟨M, hM, h⟩ := Option.bind_eq_some_iff.mp h
    obtain ⟨I, hI, h⟩ := Option.bind_eq_some_iff.mp h
    split at h
    · obtain ⟨q, h1, h2⟩ := Option.bind_eq_some_iff.mp h; exact ih _ _ _ _ _ _ _ _ h2
    · obtain ⟨q, h1, h2⟩ := Option.bind_eq_some_iff.mp h; exact ih _ _ _ _ _ _ _ _ h2
    · obtain ⟨q, h1, h2⟩ := Option.bind_eq_some_iff.mp h; exact ih _ _ _ _ _ _ _ _ h2
    · obtain ⟨q, h1, h2⟩ := Option.bind_eq_some_iff.mp h; exact ih _ _ _ _ _ _ _ _ h2
    · obtain ⟨q, h1, h2⟩ := Option.bind_eq_some_iff.mp h; exact ih _ _ _ _ _ _ _ _ h2
    · obtain ⟨q, h1, h2⟩ := Option.bind_eq_some_iff.mp h
      have a1 := am_hp_mono h1
      have a2 := ih _ _ _ _ _ _ _ _ h2
      omega
    · obtain ⟨q, h1, h2⟩ := Option.map_eq_some_iff.mp h
      cases h2
      exact ⟨Nat.le_refl _, Nat.le_refl _⟩
    · obtain ⟨q, h1, h2⟩ := Option.bind_eq_some_iff.mp h
      split at h2
      · cases h2
      · split at h2
        · cases h2
        · split at h2
          · exact ih _ _ _ _ _ _ _ _ h2
          · split at h2
            · split at h2
              · cases h2
              · obtain ⟨w, h3, h4⟩ := Option.bind_eq_some_iff.mp h2; exact ih _ _ _ _ _ _ _ _ h4
            · obtain ⟨N, h3, h4⟩ := Option.bind_eq_some_iff.mp h2
              split at h4
              · obtain ⟨w, h5, h6⟩ := Option.bind_eq_some_iff.mp h4
                have a1 := ih _ _ _ _ _ _ _ _ h5
                have a2 := ih _ _ _ _ _ _ _ _ h6
                omega
              · cases h4
    · exact ih _ _ _ _ _ _ _ _ h
    · cases h
/-- a switch's cases are where the table says -/
def am_swl (pc : Nat) : List (Int × Int) → List (Int32 × Nat) → Bool
  | [], [] => true
  | (k, o) :: ps, (x, t) :: sw => decide (x.toInt = k) && decide ((pc : Int) + o = (t : Int)) && am_swl pc ps sw
  | _, _ => false
def am_swr (pc : Nat) : Int → List Int → List (Int32 × Nat) → Bool
  | _, [], [] => true
  | lo, o :: os, (x, t) :: sw => decide (x.toInt = lo) && decide ((pc : Int) + o = (t : Int)) && am_swr pc (lo + 1) os sw
  | _, _, _ => false
theorem am_sw_cons {x k : Int32} {t a : Nat} {sw : List (Int32 × Nat)} : am_sw x ((k, t) :: sw) a = if k = x then t else am_sw x sw a := by
  unfold am_sw
  by_cases h : k = x
  · simp [h]
  · simp [h]
theorem am_i32 {x k : Int32} (h : x.toInt = k.toInt) : x = k := Int32.toInt_inj.mp h
theorem am_swl_ok {pc a : Nat} {d : Int} (hd : (pc : Int) + d = (a : Int)) (x : Int32) : ∀ (ps : List (Int × Int)) (sw : List (Int32 × Nat)), am_swl pc ps sw = true → (pc : Int) + Op.lookupswitch.offset ps d x.toInt = (am_sw x sw a : Int) := by
  intro ps
  induction ps with
  | nil =>
    intro sw h
    cases sw with
    | nil => exact hd
    | cons _ _ => simp [am_swl] at h
  | cons q ps ih =>
    intro sw h
    obtain ⟨k, o⟩ := q
    cases sw with
    | nil => simp [am_swl] at h
    | cons r sw =>
      obtain ⟨y, t⟩ := r
      simp only [am_swl, Bool.and_eq_true, decide_eq_true_eq] at h
      obtain ⟨⟨h1, h2⟩, h3⟩ := h
      rw [am_sw_cons, Op.lookupswitch.offset_cons]
      by_cases hk : y = x
      · rw [if_pos (by rw [← h1, hk]), if_pos hk]; exact h2
      · rw [if_neg (fun z => hk (am_i32 (by rw [h1, z]))), if_neg hk]; exact ih sw h3
theorem am_swr_ok {pc a : Nat} (x : Int32) : ∀ (os : List Int) (lo : Int) (sw : List (Int32 × Nat)), am_swr pc lo os sw = true → ((x.toInt < lo ∨ lo + os.length ≤ x.toInt) → am_sw x sw a = a) ∧ (∀ (i : Nat) (o : Int), x.toInt = lo + i → os[i]? = some o → (pc : Int) + o = (am_sw x sw a : Int)) := by
  intro os
  induction os with
  | nil =>
    intro lo sw h
    cases sw with
    | nil => exact ⟨fun _ => rfl, fun i o _ h2 => by simp at h2⟩
    | cons _ _ => simp [am_swr] at h
  | cons q os ih =>
    intro lo sw h
    cases sw with
    | nil => simp [am_swr] at h
    | cons r sw =>
      obtain ⟨y, t⟩ := r
      simp only [am_swr, Bool.and_eq_true, decide_eq_true_eq] at h
      obtain ⟨⟨h1, h2⟩, h3⟩ := h
      obtain ⟨i1, i2⟩ := ih (lo + 1) sw h3
      rw [am_sw_cons]
      refine ⟨fun hx => ?_, fun i o hi ho => ?_⟩
      · have hne : ¬ y = x := fun z => by
          rw [z] at h1
          simp only [List.length_cons] at hx
          omega
        rw [if_neg hne]
        refine i1 ?_
        simp only [List.length_cons] at hx
        omega
      · cases i with
        | zero =>
          have hy : y = x := am_i32 (by rw [h1, hi]; simp)
          rw [if_pos hy]
          simp at ho
          rw [← ho]; exact h2
        | succ i =>
          have hy : ¬ y = x := fun z => by
            rw [z] at h1
            omega
          rw [if_neg hy]
          exact i2 i o (by omega) (by simpa using ho)
def am_swk (ins : Instr) (len pc a : Nat) (sw : List (Int32 × Nat)) : Prop := match ins with
  | .lookupswitch d ps => (ps.toList.zip (ps.toList.drop 1)).all (fun (x, y) => x.1 < y.1) = true ∧ (pc : Int) + d = (a : Int) ∧ am_swl pc ps.toList sw = true
  | .tableswitch d lo hi os => (pc : Int) + d = (a : Int) ∧ am_swr pc lo os.toList sw = true ∧ lo + os.toList.length = hi + 1
  | _ => True
/-- the constants of the tables -/
def am_kct (Ts : List Jvm.Cond) (own : String) (ins : Instr) (a : Nat) (sw : List (Int32 × Nat)) (stx : Nat → String → Prop) : Prop := match ins with
  | .ldc i => if sw.isEmpty = true then Jvm.Cond.constant own i (Int32.ofNat a) ∈ Ts else stx i own
  | .ldc_w i => Jvm.Cond.constant own i (Int32.ofNat a) ∈ Ts
  | .ldc2_w i => Jvm.Cond.constantLong own i (Int64.ofNat a) ∈ Ts
  | _ => True
def am_okM (Ts : List Jvm.Cond) (M : am_T) : Prop := plainName M.1.cls = true ∧ (M.1.cls ≠ "java/lang/invoke/MethodHandle" ∧ M.1.cls ≠ "java/lang/invoke/VarHandle") ∧ Jvm.Cond.code M.1 M.2.1 M.2.2.1 M.2.2.2.1 ∈ Ts ∧ Jvm.Cond.initialized M.1.cls ∈ Ts ∧ M.2.2.1 ≤ 61
/-- what a call links is what the tables say -/
def am_lc (mth : Nat → Option am_T) (cl : List vw_C) (Ts : List Jvm.Cond) (slk : Nat → String → Instr → Nat → Prop) (own : String) (ins : Instr) (a b : Nat) : Prop :=
  if am_kd ins [] = 7 then (if a = 10000 then b = 0 ∧ ∃ i, ins = .invokespecial i ∧ Jvm.Cond.methodLink own i Lib.objectInit ∈ Ts ∧ Jvm.Cond.instanceMethod Lib.objectInit ∈ Ts ∧ Jvm.Cond.code Lib.objectInit ⟨#[0xb1]⟩ 1 none ∈ Ts
    else if 10000 < a then slk a own ins b
    else ∀ N, mth a = some N → am_okM Ts N ∧ (parseMethodDescriptor N.1.desc).map (fun d => d.parameters.length) = some b ∧ (match ins with
      | .invokevirtual i => Jvm.Cond.methodLink own i N.1 ∈ Ts ∧ Jvm.Cond.instanceMethod N.1 ∈ Ts ∧ Jvm.Cond.selects N.1.cls N.1 N.1 ∈ Ts ∧ ∃ (T : u_T) (n : Nat), cl[N.2.2.2.2]? = some (N.1.cls, T, n)
      | .invokespecial i => Jvm.Cond.methodLink own i N.1 ∈ Ts ∧ Jvm.Cond.instanceMethod N.1 ∈ Ts ∧ N.1.name = "<init>" ∧ N.2.2.2.1 = none
      | .invokestatic i => Jvm.Cond.methodLink own i N.1 ∈ Ts ∧ Jvm.Cond.static N.1 ∈ Ts
      | _ => False)) else True
def am_okI (mth : Nat → Option am_T) (cl : List vw_C) (Ts : List Jvm.Cond) (stx : Nat → String → Prop) (slk : Nat → String → Instr → Nat → Prop) (M : am_T) (pc : Nat) (I : am_I) : Prop :=
  decode M.2.1 pc = .ok (I.1, I.2.1) ∧ (am_kd I.1 I.2.2.2.2.2 = 4 ∨ I.2.1 = am_ln I.1) ∧ am_kct Ts M.1.cls I.1 I.2.2.1 I.2.2.2.2.2 stx ∧ am_tg I.1 pc I.2.2.1 ∧ am_swk I.1 I.2.1 pc I.2.2.1 I.2.2.2.2.2 ∧ am_lk cl Ts M.1.cls M.1.name I.1 I.2.2.1 I.2.2.2.1 ∧ am_lc mth cl Ts slk M.1.cls I.1 I.2.2.1 I.2.2.2.1
/-- a word on a nest mate's field: it isn't carried by contracts' words, but by what is known of the state -/
def am_nst (w : Jvm.Cond) : Bool := match w with
  | .fieldLinkNest _ _ _ _ _ _ => true
  | _ => false
theorem am_nst_inv {w : Jvm.Cond} (h : am_nst w = true) : ∃ a i b n d o, w = .fieldLinkNest a i b n d o := by
  unfold am_nst at h
  split at h
  · exact ⟨_, _, _, _, _, _, rfl⟩
  · cases h
theorem am_nst_tab {w : Jvm.Cond} (h : am_nst w = true) : w.onTables = true := by
  obtain ⟨a, i, b, n, d, o, rfl⟩ := am_nst_inv h
  rfl
def am_good (Ts : List Jvm.Cond) : Prop := ∀ w ∈ Ts, goodWord w = true ∨ am_nst w = true
section AMX
variable (l : Launch) (mth : Nat → Option am_T) (tbl : Nat → Nat → Option am_I) (cl : List vw_C) (nf : Nat → List FieldType) (Ts : List Jvm.Cond) (D : va_G) (ca : FieldType → ClassId) (bs sb sL : Nat) (sx : Nat → Int32) (sa : Nat) (sp : Nat → List Value → Option (Option Value)) (Xt : State → Heap → Prop) (stx : Nat → String → Prop) (slk : Nat → String → Instr → Nat → Prop)
/-- what is known of a state: its classes, the script, the texts -/
def am_Kn (U : State) : Prop := va_K D cl (am_tys ca) U ∧ va_X sb sL sx U U.heap ∧ Xt U U.heap ∧ ∀ w ∈ Ts, am_nst w = true → va_Nw w U
/-- what is known of texts goes along -/
def am_okX : Prop := ∀ (u U : State) (H H' : Heap), (u.vm = U.vm ∨ u.WarmedH U.vm) → (∀ q, q < bs → H'[q]? = H[q]?) → Xt u H → Xt U H'
/-- a text's place is loaded -/
def am_okT : Prop := ∀ (p : Program) (e : Env) (R : Room) (s : State) (m : MethodId) (args : Array Value) (below : List Frame) (meth : Method) (c : Code) (H : Heap) (locs : List Loc) (cells slots : Nat) (Q : State → Prop) (cc : ByteArray) (pc : Nat) (ls : Array Slot) (st : List Value) (own : String) (i : Nat),
  p.tables.exec = Jvm.exec → c.code = cc → s.vm.findClass own = some m.cls → Xt s s.heap → stx i own → decode cc pc = .ok (.ldc i, 2) → W p l e R s m args below meth c H locs cells slots Q (F0 m (pc + 2) ls (.ref sa :: st)) → W p l e R s m args below meth c H locs cells slots Q (F0 m pc ls st)
/-- a call of one of the JDK's own methods -/
def am_okS : Prop := ∀ (p : Program) (e : Env) (R : Room) (s : State) (m : MethodId) (args : Array Value) (below : List Frame) (meth : Method) (c : Code) (H : Heap) (locs : List Loc) (cells slots : Nat) (Q : State → Prop) (cc : ByteArray) (pc nL : Nat) (ls : Array Slot) (st : List Value) (own : String) (ins : Instr) (a b : Nat) (q : List Value × List Value) (w : Option Value),
  p.tables.exec = Jvm.exec → c.code = cc → c.maxLocals = nL → ls.size = nL → s.vm.findClass own = some m.cls → (∀ w ∈ Ts, w.before args s = true) → Xt s s.heap → slk a own ins b → am_ca ins b st = some q → (q.2.map fun v => v.category).sum ≤ 8 → sp a q.1 = some w → decode cc pc = .ok (ins, 3) → va_S (fun q => bs ≤ q) s.heap H locs → bs ≤ s.heap.size → 9 ≤ R.frames → 720 ≤ R.locals → cells ≤ R.cells → slots ≤ R.slots → W p l e R s m args below meth c H locs cells slots Q (F0 m (pc + 3) ls (w.toList ++ q.2)) → W p l e R s m args below meth c H locs cells slots Q (F0 m pc ls st)
def am_Walk (f : Nat) : Prop := ∀ (p : Program) (e : Env) (R : Room) (s : State) (m : MethodId) (args : Array Value) (below : List Frame) (meth : Method) (c : Code) (Q : State → Prop) (k d pc : Nat) (M : am_T) (lv : am_L) (st : List Value) (A A' : am_A) (v : Option Value) (ls : Array Slot) (H : Heap) (locs : List Loc) (cells slots n0 z0 : Nat),
  p.tables.exec = Jvm.exec → c.code = M.2.1 → c.maxLocals = M.2.2.1 → s.vm.findClass M.1.cls = some m.cls → (∀ w ∈ Ts, w.before args s = true) → meth.name = M.1.name → am_Kn cl Ts D ca sb sL sx Xt s → mth k = some M →
  am_run bs nf sb sL sx mth tbl sa sp f d k pc lv st A = some (v, A') → lv_has ls M.2.2.1 lv → va_P D cl (am_W bs ca A.1) H → va_S (fun q => bs ≤ q) s.heap H locs → s.heap.size = bs + n0 → n0 + cells = A.1.length → z0 + slots = A.2 → d ≤ R.frames → d * 80 ≤ R.locals → A'.1.length ≤ n0 + R.cells → A'.2 ≤ z0 + R.slots →
  (∀ (pc : Nat) (ls : Array Slot) (st : List Value) (H : Heap) (locs : List Loc) (cells slots : Nat) (ins : Instr), decode M.2.1 pc = .ok (ins, am_ln ins) → am_rt ins M.2.2.2.1 st = some v → va_P D cl (am_W bs ca A'.1) H → va_S (fun q => bs ≤ q) s.heap H locs → n0 + cells = A'.1.length → z0 + slots = A'.2 → W p l e R s m args below meth c H locs cells slots Q (F0 m pc ls st)) →
  W p l e R s m args below meth c H locs cells slots Q (F0 m pc ls st)
def am_Pre (A : am_A) (vs : List Value) : Array Value → State → Prop := va_Pc vs (fun U => am_Kn cl Ts D ca sb sL sx Xt U ∧ U.heap.size = bs + A.1.length ∧ va_P D cl (am_W bs ca A.1) U.heap)
def am_Post (v : Option Value) (A' : am_A) : Array Value → State → Outcome → State → Prop := fun _ st o t => o = .returned v ∧ va_P D cl (am_W bs ca A'.1) t.heap ∧ va_F (fun q => bs ≤ q) st t
abbrev am_rm (d mc ms : Nat) : Room := { frames := d, cells := mc, slots := ms, locals := d * 80 }
end AMX
section AMY
variable {l : Launch} {mth : Nat → Option am_T} {tbl : Nat → Nat → Option am_I} {cl : List vw_C} {nf : Nat → List FieldType} {Ts : List Jvm.Cond} {D : va_G} {ca : FieldType → ClassId} {bs sb sL : Nat} {sx : Nat → Int32} {sa : Nat} {sp : Nat → List Value → Option (Option Value)} {Xt : State → Heap → Prop} {stx : Nat → String → Prop} {slk : Nat → String → Instr → Nat → Prop}
theorem am_Kn_call (hX : am_okX bs Xt) {U : State} {g : JFrame} {mk : MethodId} {a : Array Value} (h : am_Kn cl Ts D ca sb sL sx Xt U) : am_Kn cl Ts D ca sb sL sx Xt (U.calling g mk a) :=
  ⟨va_K.moved (u := U) (U := U.calling g mk a) (Vm.Alike.refl U.vm) h.1, va_X.moved (u := U) (U := U.calling g mk a) (Vm.Alike.refl U.vm) h.2.1, hX U (U.calling g mk a) U.heap _ (Or.inl rfl) (fun _ _ => rfl) h.2.2.1, fun w hw hn => va_Nw.same (am_nst_tab hn) (u := U) (U := U.calling g mk a) rfl (h.2.2.2 w hw hn)⟩
theorem am_Kn_warm (hX : am_okX bs Xt) (hsb : sb < bs) {s U : State} (hW : s.WarmedH U.vm) (hq : ∀ q, q < bs → U.heap[q]? = s.heap[q]?) (h : am_Kn cl Ts D ca sb sL sx Xt s) : am_Kn cl Ts D ca sb sL sx Xt U :=
  ⟨va_K.moved hW.alike h.1, (va_X.moved hW.alike h.2.1).kept (hq sb hsb), hX s U s.heap U.heap (Or.inr hW) hq h.2.2.1, fun w hw hn => by
    have hz := h.2.2.2 w hw hn
    obtain ⟨a, i, b, n, d, o, rfl⟩ := am_nst_inv hn
    exact va_Nw.warmF hW hz⟩
set_option maxHeartbeats 4000000 in
/-- a contract of a method out of its run -/
theorem am_met_of (hg : am_good Ts) (hX : am_okX bs Xt) {f : Nat} (hw : am_Walk l mth tbl cl nf Ts D ca bs sb sL sx sa sp Xt f) {k d : Nat} {M : am_T} {vs : List Value} {A A' : am_A} {v : Option Value} (hM : mth k = some M) (okM : am_okM Ts M) (hv : (lg_sl vs).length ≤ M.2.2.1)
    (h : am_run bs nf sb sL sx mth tbl sa sp f d k 0 (lv_args 0 vs) [] A = some (v, A')) : Met l M.1 (Jvm.Cond.code M.1 M.2.1 M.2.2.1 M.2.2.2.1 :: Ts.filter goodWord) (am_rm d (A'.1.length - A.1.length) (A'.2 - A.2)) (am_Pre cl Ts D ca bs sb sL sx Xt A vs) (am_Post cl D ca bs v A') (A'.1.length - A.1.length) (A'.2 - A.2) (fun q => bs ≤ q) := by
  have hmono := am_run_mono _ _ _ _ _ _ _ _ _ h
  refine Met.ofW (cc := M.2.1) (maxL := M.2.2.1) (ret := M.2.2.2.1) okM.1 rfl ?_
  intro p e s m args below meth c s₁ B hml hpre
  obtain ⟨rfl, hK, hsz, hP⟩ := hpre
  have hts0 := atoms_spec (ws := Jvm.Cond.code M.1 M.2.1 M.2.2.1 M.2.2.2.1 :: Ts.filter goodWord) B.pre
  have hts : ∀ w ∈ Ts, w.before vs.toArray s = true := fun w hw => (hg w hw).elim (fun z => hts0 w (List.mem_cons_of_mem _ (List.mem_filter.mpr ⟨hw, z⟩))) (fun z => va_Nw.use (am_nst_tab z) (hK.2.2.2 w hw z))
  have hown : s.vm.findClass M.1.cls = some m.cls := findClass_of_methodNamed B.named
  have hlocks := B.notSynchronized
  have hr := B.returns
  have hx := B.exec
  have hb := B.bytes
  have hl := lv_entry vs (n := M.2.2.1) hv
  rw [lg_entry_eq]
  refine hw p e _ s m vs.toArray below meth c _ k d 0 M (lv_args 0 vs) [] A A' v _ s.heap [] 0 0 A.1.length A.2 hx hb hml hown hts (name_of_methodNamed B.named B.method).1 hK hM h hl hP va_S.rf hsz rfl rfl (Nat.le_refl _) (Nat.le_refl _) (by show A'.1.length ≤ A.1.length + (A'.1.length - A.1.length); omega) (by show A'.2 ≤ A.2 + (A'.2 - A.2); omega) ?_
  intro pc ls st H locs cells slots ins hd hrt hP1 hS hc1 hc2
  have e1 : cells = A'.1.length - A.1.length := by omega
  have e2 : slots = A'.2 - A.2 := by omega
  subst e1
  subst e2
  unfold am_rt at hrt
  split at hrt
  · split at hrt
    · split at hrt
      · rename_i x ty hret hf
        cases hrt
        exact W.zret hx hb (by rw [hr, hret]) (am_fit_ok hf).1 (fun t ht _ => ⟨rfl, by rw [ht]; exact hP1, hS.F ht⟩) hS.2.2 hd
      · cases hrt
    · cases hrt
  · split at hrt
    · split at hrt
      · rename_i x ty hret hf
        cases hrt
        have hty : ty = .long := by
          cases ty <;> first | rfl | (exact absurd hf (by simp [am_fit]))
        subst hty
        exact W.lret hx hb (by rw [hr, hret]) (fun t ht _ => ⟨rfl, by rw [ht]; exact hP1, hS.F ht⟩) hS.2.2 hd
      · cases hrt
    · cases hrt
  · split at hrt
    · split at hrt
      · rename_i x ty hret hf
        cases hrt
        have hty : (∃ n, ty = .object n) ∨ ∃ t, ty = .array t := by
          cases ty <;> first | exact Or.inl ⟨_, rfl⟩ | exact Or.inr ⟨_, rfl⟩ | (exact absurd hf (by simp [am_fit]))
        exact W.aret hx hb (by rw [hr, hret]) hty (Or.inr ⟨_, rfl⟩) (fun t ht _ => ⟨rfl, by rw [ht]; exact hP1, hS.F ht⟩) hS.2.2 hd
      · cases hrt
    · cases hrt
  · split at hrt
    · rename_i hret
      cases hrt
      exact W.vret hx hb (by rw [hr, hret]) (fun t ht _ => ⟨rfl, by rw [ht]; exact hP1, hS.F ht⟩) hS.2.2 hd
    · cases hrt
  · cases hrt
/-- behind a call -/
theorem am_callg {p : Program} {e : Env} {R : Room} {s : State} {m : MethodId} {args : Array Value} {below : List Frame} {meth : Method} {c : Code} {H : Heap} {locs : List Loc} {cells slots mc ms : Nat} {Q : State → Prop} {pc : Nat} {ls : Array Slot} {st0 rest : List Value} {av : Array Value} {v : Option Value} {A' : am_A}
    (hr : va_Run p l e R s m args below meth c H locs cells slots mc ms (F0 m pc ls st0) rest (am_Post cl D ca bs v A' av) (fun q => bs ≤ q)) (hS : va_S (fun q => bs ≤ q) s.heap H locs)
    (kk : ∀ (H1 : Heap) (locs1 : List Loc), va_P D cl (am_W bs ca A'.1) H1 → va_S (fun q => bs ≤ q) s.heap H1 locs1 → W p l e R s m args below meth c H1 locs1 (cells + mc) (slots + ms) Q (F0 m (pc + 3) ls (v.toList ++ rest))) : W p l e R s m args below meth c H locs cells slots Q (F0 m pc ls st0) := by
  intro T hT X
  obtain ⟨v', st₀, t, T', L, h0, X', hL, e1, e2, ⟨hv, hP, hz, hk⟩, st⟩ := hr T hT X
  cases hv
  rw [h0] at hz hk
  obtain ⟨t2, a1, b1⟩ := kk T'.heap (locs ++ L) (by rw [e1]; exact hP)
    ⟨Nat.le_trans hS.1 (by rw [e1]; exact hz), fun q h1 h2 => by rw [e1, hk q (Nat.lt_of_lt_of_le h1 hS.1) h2]; exact hS.2.1 q h1 h2, fun q hq => by
      rcases List.mem_append.mp hq with h | h
      · exact hS.2.2 q h
      · exact hL q h⟩ T' rfl X'
  exact ⟨t2, st t2 a1, b1⟩
theorem am_ca_inv {ins : Instr} {b : Nat} {st : List Value} {q : List Value × List Value} (h : am_ca ins b st = some q) : ((∃ i, ins = .invokestatic i) ∧ ∃ As, As.length = b ∧ q.1 = As ∧ st = As.reverse ++ q.2) ∨ ((∀ i, ins ≠ .invokestatic i) ∧ ∃ o As, As.length = b ∧ q.1 = .ref o :: As ∧ st = As.reverse ++ .ref o :: q.2) := by
  unfold am_ca at h
  split at h
  · split at h
    · rename_i hb
      cases h
      exact Or.inl ⟨⟨_, rfl⟩, _, by simp; omega, rfl, by simp⟩
    · cases h
  · rename_i hne
    split at h
    · rename_i o r hdr
      cases h
      refine Or.inr ⟨fun i z => hne i z, o, _, ?_, rfl, ?_⟩
      · have h1 : (st.drop b).length = r.length + 1 := by rw [hdr]; rfl
        simp at h1 ⊢
        omega
      · have h2 := List.take_append_drop b st
        rw [hdr] at h2
        simp [h2]
    · cases h
end AMY
