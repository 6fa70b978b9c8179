/-! PART 06: a program that checks the tables of a system: what it passes keeps the walk's premises -/
def am_hasT (Tf : Nat → Option Jvm.Cond) (c : Nat) (w : Jvm.Cond) : Bool := decide (Tf c = some w)
/-- the words that the numbers name are words of the tables -/
def am_okTf (Tf : Nat → Option Jvm.Cond) (Ts : List Jvm.Cond) : Prop := ∀ c w, Tf c = some w → w ∈ Ts
theorem am_hasT_ok {Tf : Nat → Option Jvm.Cond} {Ts : List Jvm.Cond} (hf : am_okTf Tf Ts) {c : Nat} {w : Jvm.Cond} (h : am_hasT Tf c w = true) : w ∈ Ts := hf c w (of_decide_eq_true h)
def am_hasN (Tf : Nat → Option Jvm.Cond) (c : Nat) (own : String) (i : Nat) (r n d : String) : Bool := match Tf c with
  | some (.fieldLinkNest o j r' n' d' _) => decide (o = own ∧ j = i ∧ r' = r ∧ n' = n ∧ d' = d)
  | _ => false
theorem am_hasN_ok {Tf : Nat → Option Jvm.Cond} {Ts : List Jvm.Cond} (hf : am_okTf Tf Ts) {c : Nat} {own : String} {i : Nat} {r n d : String} (h : am_hasN Tf c own i r n d = true) : ∃ host, Jvm.Cond.fieldLinkNest own i r n d host ∈ Ts := by
  unfold am_hasN at h
  split at h
  · rename_i o j r' n' d' x hq
    obtain ⟨rfl, rfl, rfl, rfl, rfl⟩ := of_decide_eq_true h
    exact ⟨x, hf _ _ hq⟩
  · cases h
def am_ckK (Tf : Nat → Option Jvm.Cond) (own : String) (ins : Instr) (a c : Nat) (sw : List (Int32 × Nat)) (stc : List (Nat × String)) : Bool := match ins with
  | .ldc i => if sw.isEmpty = true then am_hasT Tf c (.constant own i (Int32.ofNat a)) else decide ((i, own) ∈ stc)
  | .ldc_w i => am_hasT Tf c (.constant own i (Int32.ofNat a))
  | .ldc2_w i => am_hasT Tf c (.constantLong own i (Int64.ofNat a))
  | _ => true
def am_ckT (ins : Instr) (pc a : Nat) : Bool := match ins with
  | .goto o => decide ((pc : Int) + o = (a : Int))
  | .ifCond _ o => decide ((pc : Int) + o = (a : Int))
  | .if_icmp _ o => decide ((pc : Int) + o = (a : Int))
  | _ => true
def am_ckS (ins : Instr) (pc a : Nat) (sw : List (Int32 × Nat)) : Bool := match ins with
  | .lookupswitch d ps => (ps.toList.zip (ps.toList.drop 1)).all (fun (x, y) => x.1 < y.1) && decide ((pc : Int) + d = (a : Int)) && am_swl pc ps.toList sw
  | .tableswitch d lo hi os => decide ((pc : Int) + d = (a : Int)) && am_swr pc lo os.toList sw && decide (lo + os.toList.length = hi + 1)
  | _ => true
def am_ckL (cl : List vw_C) (Tf : Nat → Option Jvm.Cond) (own mn : String) (ins : Instr) (a b c : Nat) : Bool := match ins with
  | .getfield i => (match cl[a]? with
    | some q => decide (b < q.2.2) && (am_hasT Tf c (.fieldLink own i (q.2.1 b).1 (q.2.1 b).2.1 (q.2.1 b).2.2.1) || am_hasN Tf c own i (q.2.1 b).1 (q.2.1 b).2.1 (q.2.1 b).2.2.1)
    | none => false)
  | .putfield i => (match cl[a]? with
    | some q => decide (b < q.2.2) && am_hasT Tf c (.fieldLink own i (q.2.1 b).1 (q.2.1 b).2.1 (q.2.1 b).2.2.1) && (decide ((q.2.1 b).2.2.2 = false) || (decide ((q.2.1 b).2.2.2 = true) && decide (mn = "<init>") && decide ((q.2.1 b).1 = own)))
    | none => false)
  | .new i => (match cl[a]? with
    | some q => am_hasT Tf c (.classLink own i q.1)
    | none => false)
  | .newarray t => am_hasT Tf c (.arrayClass (newarray.typeOf t))
  | _ => true
def am_ckC (mth : Nat → Option am_T) (mi : Nat → Option (Nat × Nat)) (Tf : Nat → Option Jvm.Cond) (sls : List (Nat × String × Nat × Nat)) (oi : Nat × Nat) (own : String) (ins : Instr) (a b c : Nat) : Bool := match ins with
  | .invokespecial i => if a = 10000 then decide (b = 0) && am_hasT Tf c (.methodLink own i Lib.objectInit) && am_hasT Tf oi.1 (.instanceMethod Lib.objectInit) && am_hasT Tf oi.2 (.code Lib.objectInit ⟨#[0xb1]⟩ 1 none)
      else decide (¬ 10000 < a) && decide (mi a = some (b, 1)) && (match mth a with
        | some N => am_hasT Tf c (.methodLink own i N.1)
        | none => true)
  | .invokevirtual i => if 10000 < a then decide ((a, own, i, b) ∈ sls) else decide (¬ a = 10000) && decide (mi a = some (b, 0)) && (match mth a with
        | some N => am_hasT Tf c (.methodLink own i N.1)
        | none => true)
  | .invokestatic i => decide (¬ 10000 < a) && decide (¬ a = 10000) && decide (mi a = some (b, 2)) && (match mth a with
        | some N => am_hasT Tf c (.methodLink own i N.1)
        | none => true)
  | _ => true
def am_ckI (mth : Nat → Option am_T) (mi : Nat → Option (Nat × Nat)) (cl : List vw_C) (Tf : Nat → Option Jvm.Cond) (stc : List (Nat × String)) (sls : List (Nat × String × Nat × Nat)) (oi : Nat × Nat) (M : am_T) (pc : Nat) (I : am_I) : Bool :=
  decide (decode M.2.1 pc = .ok (I.1, I.2.1)) && (decide (am_kd I.1 I.2.2.2.2.2 = 4) || decide (I.2.1 = am_ln I.1)) && am_ckK Tf M.1.cls I.1 I.2.2.1 I.2.2.2.2.1 I.2.2.2.2.2 stc && am_ckT I.1 pc I.2.2.1 && am_ckS I.1 pc I.2.2.1 I.2.2.2.2.2 && am_ckL cl Tf M.1.cls M.1.name I.1 I.2.2.1 I.2.2.2.1 I.2.2.2.2.1 && am_ckC mth mi Tf sls oi M.1.cls I.1 I.2.2.1 I.2.2.2.1 I.2.2.2.2.1
/-- a method of the tables: where the words stand that it needs -/
def am_ckM (cl : List vw_C) (Tf : Nat → Option Jvm.Cond) (M : am_T) (np kd c1 c2 c3 c4 : Nat) : Bool :=
  decide (plainName M.1.cls = true) && decide (M.1.cls ≠ "java/lang/invoke/MethodHandle") && decide (M.1.cls ≠ "java/lang/invoke/VarHandle") && am_hasT Tf c1 (.code M.1 M.2.1 M.2.2.1 M.2.2.2.1) && am_hasT Tf c2 (.initialized M.1.cls) && decide (M.2.2.1 ≤ 61) && decide ((parseMethodDescriptor M.1.desc).map (fun d => d.parameters.length) = some np) &&
    (if kd = 0 then am_hasT Tf c3 (.instanceMethod M.1) && am_hasT Tf c4 (.selects M.1.cls M.1 M.1) && (match cl[M.2.2.2.2]? with
        | some q => decide (q.1 = M.1.cls)
        | none => false)
      else if kd = 1 then am_hasT Tf c3 (.instanceMethod M.1) && decide (M.1.name = "<init>") && decide (M.2.2.2.1 = none)
      else am_hasT Tf c3 (.static M.1))
def am_okN (cl : List vw_C) (Ts : List Jvm.Cond) (M : am_T) (np kd : Nat) : Prop := am_okM Ts M ∧ (parseMethodDescriptor M.1.desc).map (fun d => d.parameters.length) = some np ∧ (kd = 0 → Jvm.Cond.instanceMethod M.1 ∈ Ts ∧ Jvm.Cond.selects M.1.cls M.1 M.1 ∈ Ts ∧ ∃ (T : u_T) (n : Nat), cl[M.2.2.2.2]? = some (M.1.cls, T, n)) ∧ (kd = 1 → Jvm.Cond.instanceMethod M.1 ∈ Ts ∧ M.1.name = "<init>" ∧ M.2.2.2.1 = none) ∧ (kd = 2 → Jvm.Cond.static M.1 ∈ Ts)
theorem am_ckM_ok {cl : List vw_C} {Tf : Nat → Option Jvm.Cond} {Ts : List Jvm.Cond} (hf : am_okTf Tf Ts) {M : am_T} {np kd c1 c2 c3 c4 : Nat} (h : am_ckM cl Tf M np kd c1 c2 c3 c4 = true) : am_okN cl Ts M np kd := by
  unfold am_ckM at h
  simp only [Bool.and_eq_true, decide_eq_true_eq] at h
  obtain ⟨⟨⟨⟨⟨⟨⟨h1, h2⟩, h3⟩, h4⟩, h5⟩, h6⟩, h7⟩, h8⟩ := h
  refine ⟨⟨h1, ⟨h2, h3⟩, am_hasT_ok hf h4, am_hasT_ok hf h5, h6⟩, h7, fun hk => ?_, fun hk => ?_, fun hk => ?_⟩
  · rw [if_pos hk] at h8
    simp only [Bool.and_eq_true] at h8
    obtain ⟨⟨i1, i2⟩, i3⟩ := h8
    refine ⟨am_hasT_ok hf i1, am_hasT_ok hf i2, ?_⟩
    split at i3
    · rename_i q hq
      obtain ⟨C, T, n⟩ := q
      have hC : C = M.1.cls := of_decide_eq_true i3
      subst hC
      exact ⟨T, n, hq⟩
    · cases i3
  · rw [if_neg (by omega), if_pos hk] at h8
    simp only [Bool.and_eq_true, decide_eq_true_eq] at h8
    obtain ⟨⟨i1, i2⟩, i3⟩ := h8
    exact ⟨am_hasT_ok hf i1, i2, i3⟩
  · rw [if_neg (by omega), if_neg (by omega)] at h8
    exact am_hasT_ok hf h8
theorem am_ckK_ok {Tf : Nat → Option Jvm.Cond} {Ts : List Jvm.Cond} (hf : am_okTf Tf Ts) {own : String} {ins : Instr} {a c : Nat} {sw : List (Int32 × Nat)} {stc : List (Nat × String)} (h : am_ckK Tf own ins a c sw stc = true) : am_kct Ts own ins a sw (fun i o => (i, o) ∈ stc) := by
  cases ins with
  | ldc i =>
    simp only [am_ckK] at h
    simp only [am_kct]
    split at h
    · rename_i hs; rw [if_pos hs]; exact am_hasT_ok hf h
    · rename_i hs; rw [if_neg hs]; exact of_decide_eq_true h
  | ldc_w i => exact am_hasT_ok hf h
  | ldc2_w i => exact am_hasT_ok hf h
  | _ => trivial
theorem am_ckT_ok {ins : Instr} {pc a : Nat} (h : am_ckT ins pc a = true) : am_tg ins pc a := by
  cases ins with
  | goto o => simp only [am_ckT, decide_eq_true_eq] at h; exact h
  | ifCond cd o => simp only [am_ckT, decide_eq_true_eq] at h; exact h
  | if_icmp cd o => simp only [am_ckT, decide_eq_true_eq] at h; exact h
  | _ => trivial
theorem am_ckS_ok {ins : Instr} {len pc a : Nat} {sw : List (Int32 × Nat)} (h : am_ckS ins pc a sw = true) : am_swk ins len pc a sw := by
  cases ins with
  | lookupswitch d ps =>
    simp only [am_ckS, Bool.and_eq_true, decide_eq_true_eq] at h
    exact ⟨h.1.1, h.1.2, h.2⟩
  | tableswitch d lo hi os =>
    simp only [am_ckS, Bool.and_eq_true, decide_eq_true_eq] at h
    exact ⟨h.1.1, h.1.2, h.2⟩
  | _ => trivial
theorem am_ckL_ok {cl : List vw_C} {Tf : Nat → Option Jvm.Cond} {Ts : List Jvm.Cond} (hf : am_okTf Tf Ts) {own mn : String} {ins : Instr} {a b c : Nat} (h : am_ckL cl Tf own mn ins a b c = true) : am_lk cl Ts own mn ins a b := by
  cases ins with
  | getfield i =>
    simp only [am_ckL] at h
    split at h
    · rename_i q hq
      obtain ⟨C, T, N⟩ := q
      simp only [Bool.and_eq_true, decide_eq_true_eq, Bool.or_eq_true] at h
      exact ⟨C, T, N, hq, h.1, h.2.imp (am_hasT_ok hf) (am_hasN_ok hf)⟩
    · cases h
  | putfield i =>
    simp only [am_ckL] at h
    split at h
    · rename_i q hq
      obtain ⟨C, T, N⟩ := q
      simp only [Bool.and_eq_true, decide_eq_true_eq, Bool.or_eq_true] at h
      exact ⟨C, T, N, hq, h.1.1, am_hasT_ok hf h.1.2, h.2.imp id (fun z => ⟨z.1.1, z.1.2, z.2⟩)⟩
    · cases h
  | new i =>
    simp only [am_ckL] at h
    split at h
    · rename_i q hq
      obtain ⟨C, T, N⟩ := q
      exact ⟨C, T, N, hq, am_hasT_ok hf h⟩
    · cases h
  | newarray t => exact am_hasT_ok hf h
  | _ => trivial
theorem am_ckC_ok {mth : Nat → Option am_T} {mi : Nat → Option (Nat × Nat)} {cl : List vw_C} {Tf : Nat → Option Jvm.Cond} {Ts : List Jvm.Cond} (hf : am_okTf Tf Ts) {sls : List (Nat × String × Nat × Nat)} {oi : Nat × Nat} {own : String} {ins : Instr} {a b c : Nat} (hmi : ∀ j N np kd, mth j = some N → mi j = some (np, kd) → am_okN cl Ts N np kd) (h : am_ckC mth mi Tf sls oi own ins a b c = true) : am_lc mth cl Ts (fun a o x b => ∃ i, x = .invokevirtual i ∧ (a, o, i, b) ∈ sls) own ins a b := by
  unfold am_lc
  cases ins with
  | invokespecial i =>
    rw [if_pos (by rfl)]
    simp only [am_ckC] at h
    by_cases ha : a = 10000
    · rw [if_pos ha] at h ⊢
      simp only [Bool.and_eq_true, decide_eq_true_eq] at h
      exact ⟨h.1.1.1, i, rfl, am_hasT_ok hf h.1.1.2, am_hasT_ok hf h.1.2, am_hasT_ok hf h.2⟩
    · rw [if_neg ha] at h ⊢
      simp only [Bool.and_eq_true, decide_eq_true_eq] at h
      obtain ⟨⟨h1, h2⟩, h3⟩ := h
      rw [if_neg h1]
      intro N hN
      obtain ⟨k0, k1, k2, k3, k4⟩ := hmi a N b 1 hN h2
      rw [hN] at h3
      exact ⟨k0, k1, am_hasT_ok hf h3, k3 rfl⟩
  | invokevirtual i =>
    rw [if_pos (by rfl)]
    simp only [am_ckC] at h
    by_cases ha : 10000 < a
    · rw [if_pos ha] at h
      rw [if_neg (by omega), if_pos ha]
      exact ⟨i, rfl, of_decide_eq_true h⟩
    · rw [if_neg ha] at h
      simp only [Bool.and_eq_true, decide_eq_true_eq] at h
      obtain ⟨⟨h1, h2⟩, h3⟩ := h
      rw [if_neg h1, if_neg ha]
      intro N hN
      obtain ⟨k0, k1, k2, k3, k4⟩ := hmi a N b 0 hN h2
      rw [hN] at h3
      exact ⟨k0, k1, am_hasT_ok hf h3, k2 rfl⟩
  | invokestatic i =>
    rw [if_pos (by rfl)]
    simp only [am_ckC, Bool.and_eq_true, decide_eq_true_eq] at h
    obtain ⟨⟨⟨h0, h1⟩, h2⟩, h3⟩ := h
    rw [if_neg h1, if_neg h0]
    intro N hN
    obtain ⟨k0, k1, k2, k3, k4⟩ := hmi a N b 2 hN h2
    rw [hN] at h3
    exact ⟨k0, k1, am_hasT_ok hf h3, k4 rfl⟩
  | _ => first | (rw [if_neg (by simp [am_kd])]; trivial) | trivial
theorem am_ckI_ok {mth : Nat → Option am_T} {mi : Nat → Option (Nat × Nat)} {cl : List vw_C} {Tf : Nat → Option Jvm.Cond} {Ts : List Jvm.Cond} (hf : am_okTf Tf Ts) {stc : List (Nat × String)} {sls : List (Nat × String × Nat × Nat)} {oi : Nat × Nat} {M : am_T} {pc : Nat} {I : am_I} (hmi : ∀ j N np kd, mth j = some N → mi j = some (np, kd) → am_okN cl Ts N np kd) (h : am_ckI mth mi cl Tf stc sls oi M pc I = true) : am_okI mth cl Ts (fun i o => (i, o) ∈ stc) (fun a o x b => ∃ i, x = .invokevirtual i ∧ (a, o, i, b) ∈ sls) M pc I := by
  unfold am_ckI at h
  simp only [Bool.and_eq_true, decide_eq_true_eq, Bool.or_eq_true] at h
  obtain ⟨⟨⟨⟨⟨⟨h1, h2⟩, h3⟩, h4⟩, h5⟩, h6⟩, h7⟩ := h
  exact ⟨h1, h2, am_ckK_ok hf h3, am_ckT_ok h4, am_ckS_ok h5, am_ckL_ok hf h6, am_ckC_ok hf hmi h7⟩
