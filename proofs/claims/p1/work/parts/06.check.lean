/-! PART 06: a program that checks the tables of a system: what it passes keeps the walk's premises. Texts are never compared here: a row of links is proved once, an instruction names its row by a number -/
/-- does an instruction link something -/
def am_lnk (ins : Instr) : Bool := match ins with
  | .ldc _ => true
  | .ldc_w _ => true
  | .ldc2_w _ => true
  | .getfield _ => true
  | .putfield _ => true
  | .new _ => true
  | .newarray _ => true
  | .invokevirtual _ => true
  | .invokespecial _ => true
  | .invokestatic _ => true
  | _ => false
/-- a row: in constructors alone, the instruction, its two numbers, its cases -/
abbrev am_Rw : Type := Bool × Instr × Nat × Nat × List (Int32 × Nat)
def am_ckT (ins : Instr) (pc a : Nat) : Bool := match ins with
  | .goto o => decide ((pc : Int) + o = (a : Int))
  | .ifCond _ o => decide ((pc : Int) + o = (a : Int))
  | .if_icmp _ o => decide ((pc : Int) + o = (a : Int))
  | _ => true
def am_ckS (ins : Instr) (pc a : Nat) (sw : List (Int32 × Nat)) : Bool := match ins with
  | .lookupswitch d ps => (ps.toList.zip (ps.toList.drop 1)).all (fun (x, y) => x.1 < y.1) && decide ((pc : Int) + d = (a : Int)) && am_swl pc ps.toList sw
  | .tableswitch d lo hi os => decide ((pc : Int) + d = (a : Int)) && am_swr pc lo os.toList sw && decide (lo + os.toList.length = hi + 1)
  | _ => true
def am_ckR (rw : List am_Rw) (ini : Bool) (I : am_I) : Bool := match rw[I.2.2.2.2.1]? with
  | some r => decide (r.2.1 = I.1) && decide (r.2.2.1 = I.2.2.1) && decide (r.2.2.2.1 = I.2.2.2.1) && decide (r.2.2.2.2 = I.2.2.2.2.2) && (!r.1 || ini)
  | none => false
def am_ckI (rw : List am_Rw) (ini : Bool) (bc : ByteArray) (pc : Nat) (I : am_I) : Bool :=
  decide (decode bc pc = .ok (I.1, I.2.1)) && (decide (am_kd I.1 I.2.2.2.2.2 = 4) || decide (I.2.1 = am_ln I.1)) && am_ckT I.1 pc I.2.2.1 && am_ckS I.1 pc I.2.2.1 I.2.2.2.2.2 && (if am_lnk I.1 = true then am_ckR rw ini I else true)
theorem am_ckT_ok {ins : Instr} {pc a : Nat} (h : am_ckT ins pc a = true) : am_tg ins pc a := by
  cases ins with
  | goto o => simp only [am_ckT, decide_eq_true_eq] at h; exact h
  | ifCond cd o => simp only [am_ckT, decide_eq_true_eq] at h; exact h
  | if_icmp cd o => simp only [am_ckT, decide_eq_true_eq] at h; exact h
  | _ => trivial
theorem am_ckS_ok {ins : Instr} {len pc a : Nat} {sw : List (Int32 × Nat)} (h : am_ckS ins pc a sw = true) : am_swk ins len pc a sw := by
  cases ins with
  | lookupswitch d ps =>
    simp only [am_ckS, Bool.and_eq_true, decide_eq_true_eq] at h
    exact ⟨h.1.1, h.1.2, h.2⟩
  | tableswitch d lo hi os =>
    simp only [am_ckS, Bool.and_eq_true, decide_eq_true_eq] at h
    exact ⟨h.1.1, h.1.2, h.2⟩
  | _ => trivial
/-- what a row says -/
def am_okR (mth : Nat → Option am_T) (cl : List vw_C) (Ts : List Jvm.Cond) (stx : Nat → String → Prop) (slk : Nat → String → Instr → Nat → Prop) (own : String) (r : am_Rw) : Prop := ∀ mn : String, (r.1 = true → mn = "<init>") → am_kct Ts own r.2.1 r.2.2.1 r.2.2.2.2 stx ∧ am_lk cl Ts own mn r.2.1 r.2.2.1 r.2.2.2.1 ∧ am_lc mth cl Ts slk own r.2.1 r.2.2.1 r.2.2.2.1
theorem am_lnk_no {mth : Nat → Option am_T} {cl : List vw_C} {Ts : List Jvm.Cond} {stx : Nat → String → Prop} {slk : Nat → String → Instr → Nat → Prop} {own mn : String} {ins : Instr} {a b : Nat} {sw : List (Int32 × Nat)} (h : am_lnk ins = false) : am_kct Ts own ins a sw stx ∧ am_lk cl Ts own mn ins a b ∧ am_lc mth cl Ts slk own ins a b := by
  unfold am_lc
  cases ins <;> first | (cases h; done) | exact ⟨trivial, trivial, by rw [if_neg (by simp [am_kd])]; trivial⟩
theorem am_ckI_ok {mth : Nat → Option am_T} {cl : List vw_C} {Ts : List Jvm.Cond} {stx : Nat → String → Prop} {slk : Nat → String → Instr → Nat → Prop} {rw : List am_Rw} {ini : Bool} {M : am_T} {pc : Nat} {I : am_I} (hr : ∀ r ∈ rw, am_okR mth cl Ts stx slk M.1.cls r) (hi : ini = true → M.1.name = "<init>") (h : am_ckI rw ini M.2.1 pc I = true) : am_okI mth cl Ts stx slk M pc I := by
  unfold am_ckI at h
  simp only [Bool.and_eq_true, decide_eq_true_eq, Bool.or_eq_true] at h
  obtain ⟨⟨⟨⟨h1, h2⟩, h4⟩, h5⟩, h6⟩ := h
  suffices H : am_kct Ts M.1.cls I.1 I.2.2.1 I.2.2.2.2.2 stx ∧ am_lk cl Ts M.1.cls M.1.name I.1 I.2.2.1 I.2.2.2.1 ∧ am_lc mth cl Ts slk M.1.cls I.1 I.2.2.1 I.2.2.2.1 from ⟨h1, h2, H.1, am_ckT_ok h4, am_ckS_ok h5, H.2.1, H.2.2⟩
  by_cases hl : am_lnk I.1 = true
  · rw [if_pos hl] at h6
    unfold am_ckR at h6
    split at h6
    · rename_i r hq
      simp only [Bool.and_eq_true, decide_eq_true_eq, Bool.or_eq_true, Bool.not_eq_true'] at h6
      obtain ⟨⟨⟨⟨e1, e2⟩, e3⟩, e4⟩, e5⟩ := h6
      have := hr r (List.mem_of_getElem? hq) M.1.name (fun z => e5.elim (fun y => by rw [z] at y; cases y) hi)
      rw [e1, e2, e3, e4] at this
      exact this
    · cases h6
  · exact am_lnk_no (by simpa using hl)
/-- the words that the numbers name are words of the tables -/
def am_okTf (Tf : Nat → Option Jvm.Cond) (Ts : List Jvm.Cond) : Prop := ∀ c w, Tf c = some w → w ∈ Ts
def am_okN (cl : List vw_C) (Ts : List Jvm.Cond) (M : am_T) (np kd : Nat) : Prop := am_okM Ts M ∧ (parseMethodDescriptor M.1.desc).map (fun d => d.parameters.length) = some np ∧ (kd = 0 → Jvm.Cond.instanceMethod M.1 ∈ Ts ∧ Jvm.Cond.selects M.1.cls M.1 M.1 ∈ Ts ∧ ∃ (T : u_T) (n : Nat), cl[M.2.2.2.2]? = some (M.1.cls, T, n)) ∧ (kd = 1 → Jvm.Cond.instanceMethod M.1 ∈ Ts ∧ M.1.name = "<init>" ∧ M.2.2.2.1 = none) ∧ (kd = 2 → Jvm.Cond.static M.1 ∈ Ts)
theorem am_N0 {cl : List vw_C} {Ts : List Jvm.Cond} {M : am_T} {np : Nat} (h1 : am_okM Ts M) (h2 : (parseMethodDescriptor M.1.desc).map (fun d => d.parameters.length) = some np) (h3 : Jvm.Cond.instanceMethod M.1 ∈ Ts) (h4 : Jvm.Cond.selects M.1.cls M.1 M.1 ∈ Ts) (h5 : ∃ (T : u_T) (n : Nat), cl[M.2.2.2.2]? = some (M.1.cls, T, n)) : am_okN cl Ts M np 0 :=
  ⟨h1, h2, fun _ => ⟨h3, h4, h5⟩, fun z => (by cases z), fun z => (by cases z)⟩
theorem am_N1 {cl : List vw_C} {Ts : List Jvm.Cond} {M : am_T} {np : Nat} (h1 : am_okM Ts M) (h2 : (parseMethodDescriptor M.1.desc).map (fun d => d.parameters.length) = some np) (h3 : Jvm.Cond.instanceMethod M.1 ∈ Ts) (h4 : M.1.name = "<init>") (h5 : M.2.2.2.1 = none) : am_okN cl Ts M np 1 :=
  ⟨h1, h2, fun z => (by cases z), fun _ => ⟨h3, h4, h5⟩, fun z => (by cases z)⟩
theorem am_N2 {cl : List vw_C} {Ts : List Jvm.Cond} {M : am_T} {np : Nat} (h1 : am_okM Ts M) (h2 : (parseMethodDescriptor M.1.desc).map (fun d => d.parameters.length) = some np) (h3 : Jvm.Cond.static M.1 ∈ Ts) : am_okN cl Ts M np 2 :=
  ⟨h1, h2, fun z => (by cases z), fun z => (by cases z), fun _ => h3⟩
section AMRW
variable {mth : Nat → Option am_T} {cl : List vw_C} {Ts : List Jvm.Cond} {stx : Nat → String → Prop} {slk : Nat → String → Instr → Nat → Prop} {own : String} {i a b : Nat}
theorem am_rgf {C : String} {T : u_T} {N : Nat} (hc : cl[a]? = some (C, T, N)) (hb : b < N) (h : Jvm.Cond.fieldLink own i (T b).1 (T b).2.1 (T b).2.2.1 ∈ Ts) : am_okR mth cl Ts stx slk own (false, .getfield i, a, b, []) := fun _ _ => ⟨trivial, ⟨C, T, N, hc, hb, Or.inl h⟩, trivial⟩
theorem am_rgn {C : String} {T : u_T} {N : Nat} {host : String} (hc : cl[a]? = some (C, T, N)) (hb : b < N) (h : Jvm.Cond.fieldLinkNest own i (T b).1 (T b).2.1 (T b).2.2.1 host ∈ Ts) : am_okR mth cl Ts stx slk own (false, .getfield i, a, b, []) := fun _ _ => ⟨trivial, ⟨C, T, N, hc, hb, Or.inr ⟨host, h⟩⟩, trivial⟩
theorem am_rpf {C : String} {T : u_T} {N : Nat} (hc : cl[a]? = some (C, T, N)) (hb : b < N) (h : Jvm.Cond.fieldLink own i (T b).1 (T b).2.1 (T b).2.2.1 ∈ Ts) (hf : (T b).2.2.2 = false) : am_okR mth cl Ts stx slk own (false, .putfield i, a, b, []) := fun _ _ => ⟨trivial, ⟨C, T, N, hc, hb, h, Or.inl hf⟩, trivial⟩
theorem am_rpF {C : String} {T : u_T} {N : Nat} (hc : cl[a]? = some (C, T, N)) (hb : b < N) (h : Jvm.Cond.fieldLink own i (T b).1 (T b).2.1 (T b).2.2.1 ∈ Ts) (hf : (T b).2.2.2 = true) (ho : (T b).1 = own) : am_okR mth cl Ts stx slk own (true, .putfield i, a, b, []) := fun _ hm => ⟨trivial, ⟨C, T, N, hc, hb, h, Or.inr ⟨hf, hm rfl, ho⟩⟩, trivial⟩
theorem am_rnw {C : String} {T : u_T} {N : Nat} (hc : cl[a]? = some (C, T, N)) (h : Jvm.Cond.classLink own i C ∈ Ts) : am_okR mth cl Ts stx slk own (false, .new i, a, b, []) := fun _ _ => ⟨trivial, ⟨C, T, N, hc, h⟩, trivial⟩
theorem am_rna {t : ArrayType} (h : Jvm.Cond.arrayClass (newarray.typeOf t) ∈ Ts) : am_okR mth cl Ts stx slk own (false, .newarray t, a, b, []) := fun _ _ => ⟨trivial, h, trivial⟩
theorem am_rld (h : Jvm.Cond.constant own i (Int32.ofNat a) ∈ Ts) : am_okR mth cl Ts stx slk own (false, .ldc i, a, b, []) := fun _ _ => ⟨h, trivial, trivial⟩
theorem am_rlw (h : Jvm.Cond.constant own i (Int32.ofNat a) ∈ Ts) : am_okR mth cl Ts stx slk own (false, .ldc_w i, a, b, []) := fun _ _ => ⟨h, trivial, trivial⟩
theorem am_rl2 (h : Jvm.Cond.constantLong own i (Int64.ofNat a) ∈ Ts) : am_okR mth cl Ts stx slk own (false, .ldc2_w i, a, b, []) := fun _ _ => ⟨h, trivial, trivial⟩
theorem am_rls (h : stx i own) : am_okR mth cl Ts stx slk own (false, .ldc i, a, b, [(0, 0)]) := fun _ _ => ⟨h, trivial, trivial⟩
theorem am_roi (h1 : Jvm.Cond.methodLink own i Lib.objectInit ∈ Ts) (h2 : Jvm.Cond.instanceMethod Lib.objectInit ∈ Ts) (h3 : Jvm.Cond.code Lib.objectInit ⟨#[0xb1]⟩ 1 none ∈ Ts) : am_okR mth cl Ts stx slk own (false, .invokespecial i, 10000, 0, []) := fun _ _ => ⟨trivial, trivial, rfl, i, rfl, h1, h2, h3⟩
theorem am_rsp (ha : 10000 < a) (h : slk a own (.invokevirtual i) b) : am_okR mth cl Ts stx slk own (false, .invokevirtual i, a, b, []) := fun _ _ => ⟨trivial, trivial, by
  unfold am_lc
  dsimp only
  have k7 : am_kd (.invokevirtual i) [] = 7 := rfl
  rw [if_pos k7, if_neg (by omega), if_pos ha]
  exact h⟩
theorem am_riv {N : am_T} (ha : a < 10000) (hm : mth a = some N) (hn : am_okN cl Ts N b 0) (h : Jvm.Cond.methodLink own i N.1 ∈ Ts) : am_okR mth cl Ts stx slk own (false, .invokevirtual i, a, b, []) := fun _ _ => ⟨trivial, trivial, by
  unfold am_lc
  dsimp only
  have k7 : am_kd (.invokevirtual i) [] = 7 := rfl
  rw [if_pos k7, if_neg (by omega), if_neg (by omega)]
  intro N' hN'
  obtain rfl : N = N' := Option.some.inj (hm.symm.trans hN')
  exact ⟨hn.1, hn.2.1, h, hn.2.2.1 rfl⟩⟩
theorem am_ris {N : am_T} (ha : a < 10000) (hm : mth a = some N) (hn : am_okN cl Ts N b 1) (h : Jvm.Cond.methodLink own i N.1 ∈ Ts) : am_okR mth cl Ts stx slk own (false, .invokespecial i, a, b, []) := fun _ _ => ⟨trivial, trivial, by
  unfold am_lc
  dsimp only
  have k7 : am_kd (.invokespecial i) [] = 7 := rfl
  rw [if_pos k7, if_neg (by omega), if_neg (by omega)]
  intro N' hN'
  obtain rfl : N = N' := Option.some.inj (hm.symm.trans hN')
  exact ⟨hn.1, hn.2.1, h, hn.2.2.2.1 rfl⟩⟩
theorem am_rit {N : am_T} (ha : a < 10000) (hm : mth a = some N) (hn : am_okN cl Ts N b 2) (h : Jvm.Cond.methodLink own i N.1 ∈ Ts) : am_okR mth cl Ts stx slk own (false, .invokestatic i, a, b, []) := fun _ _ => ⟨trivial, trivial, by
  unfold am_lc
  dsimp only
  have k7 : am_kd (.invokestatic i) [] = 7 := rfl
  rw [if_pos k7, if_neg (by omega), if_neg (by omega)]
  intro N' hN'
  obtain rfl : N = N' := Option.some.inj (hm.symm.trans hN')
  exact ⟨hn.1, hn.2.1, h, hn.2.2.2.2 rfl⟩⟩
end AMRW
