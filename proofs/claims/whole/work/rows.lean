section
/-! THE ABSTRACT MACHINE: a small machine over cells, into which every method's bytecode is read; what it does, the JVM does (am_walk, am_met, part 02). -/
/-- a cell: an array (its type, length and contents), or an object (its class's number, its fields) -/
abbrev am_E : Type := (FieldType × vp_A) ⊕ (Nat × List Value)
/-- the cells that were made since the beginning, in their order; how many slots they have -/
abbrev am_A : Type := List am_E × Nat
abbrev am_L : Type := List (Nat × Value)
/-- an instruction, its length, three numbers that resolve it, a switch's cases -/
abbrev am_I : Type := Instr × Nat × Nat × Nat × Nat × List (Int32 × Nat)
/-- a method: its name, code, locals, answer's type, its class's number -/
abbrev am_T : Type := MethodName × ByteArray × Nat × Option FieldType × Nat
def am_ld (lv : am_L) (i : Nat) : Option Value := (lv.find? (fun q => q.1 == i)).map (fun q => q.2)
def am_s1 (nL : Nat) (lv : am_L) (i : Nat) (v : Value) : Option am_L := if i < nL then some ((i, v) :: lv.filter (fun q => !(q.1 == i) && !(q.1 + 1 == i && q.2.category == 2))) else none
def am_s2 (nL : Nat) (lv : am_L) (i : Nat) (v : Value) : Option am_L := if i + 1 < nL then some ((i, v) :: lv.filter (fun q => !(q.1 == i) && (!(q.1 == i + 1) && !(q.1 + 1 == i && q.2.category == 2)))) else none
def am_i1 (st : List Value) (f : Int32 → Option Value) : Option (List Value) := match st with
  | .int x :: r => (f x).map (fun v => v :: r)
  | _ => none
def am_l1 (st : List Value) (f : Int64 → Option Value) : Option (List Value) := match st with
  | .long x :: r => (f x).map (fun v => v :: r)
  | _ => none
def am_ii (st : List Value) (f : Int32 → Int32 → Option Value) : Option (List Value) := match st with
  | .int y :: .int x :: r => (f x y).map (fun v => v :: r)
  | _ => none
def am_ll (st : List Value) (f : Int64 → Int64 → Option Value) : Option (List Value) := match st with
  | .long y :: .long x :: r => (f x y).map (fun v => v :: r)
  | _ => none
def am_li (st : List Value) (f : Int64 → Int32 → Option Value) : Option (List Value) := match st with
  | .int y :: .long x :: r => (f x y).map (fun v => v :: r)
  | _ => none
def am_dup (st : List Value) : Option (List Value) := match st with
  | v :: r => if v.category = 1 then some (v :: v :: r) else none
  | _ => none
def am_pop (st : List Value) : Option (List Value) := match st with
  | v :: r => if v.category = 1 then some r else none
  | _ => none
def am_dup2 (st : List Value) : Option (List Value) := match st with
  | v :: w :: r => if v.category = 1 ∧ w.category = 1 then some (v :: w :: v :: w :: r) else none
  | _ => none
/-- what moves on the stack alone -/
def am_sk (ins : Instr) (a : Nat) (st : List Value) : Option (List Value) := match ins with
  | .iconst n => some (.int (Int32.ofInt n) :: st)
  | .bipush n => some (.int (Int8.ofInt n).toInt32 :: st)
  | .sipush n => some (.int (Int16.ofInt n).toInt32 :: st)
  | .lconst n => some (.long (Int64.ofNat (n : Nat)) :: st)
  | .ldc _ => some (.int (Int32.ofNat a) :: st)
  | .ldc_w _ => some (.int (Int32.ofNat a) :: st)
  | .ldc2_w _ => some (.long (Int64.ofNat a) :: st)
  | .iadd => am_ii st fun x y => some (.int (x + y))
  | .isub => am_ii st fun x y => some (.int (x - y))
  | .imul => am_ii st fun x y => some (.int (x * y))
  | .iand => am_ii st fun x y => some (.int (x &&& y))
  | .ior => am_ii st fun x y => some (.int (x ||| y))
  | .ishl => am_ii st fun x y => some (.int (x <<< (y &&& 31)))
  | .ishr => am_ii st fun x y => some (.int (x >>> (y &&& 31)))
  | .idiv => am_ii st fun x y => if y = 0 then none else some (.int (x / y))
  | .irem => am_ii st fun x y => if y = 0 then none else some (.int (x - x / y * y))
  | .ineg => am_i1 st fun x => some (.int (-x))
  | .i2l => am_i1 st fun x => some (.long x.toInt64)
  | .i2b => am_i1 st fun x => some (.int x.toInt8.toInt32)
  | .l2i => am_l1 st fun x => some (.int x.toInt32)
  | .lneg => am_l1 st fun x => some (.long (-x))
  | .lmul => am_ll st fun x y => some (.long (x * y))
  | .land => am_ll st fun x y => some (.long (x &&& y))
  | .lor => am_ll st fun x y => some (.long (x ||| y))
  | .ldiv => am_ll st fun x y => if y = 0 then none else some (.long (x / y))
  | .lrem => am_ll st fun x y => if y = 0 then none else some (.long (x - x / y * y))
  | .lcmp => am_ll st fun x y => some (.int (lg_cmp x y))
  | .lshl => am_li st fun x y => some (.long (x <<< (y.toInt64 &&& 63)))
  | .lshr => am_li st fun x y => some (.long (x >>> (y.toInt64 &&& 63)))
  | .dup => am_dup st
  | .pop => am_pop st
  | .dup2 => am_dup2 st
  | _ => none
def am_gi (o : Option Value) : Option Value := match o with
  | some (.int x) => some (.int x)
  | _ => none
def am_gl (o : Option Value) : Option Value := match o with
  | some (.long x) => some (.long x)
  | _ => none
def am_ga (o : Option Value) : Option Value := match o with
  | some (.ref x) => some (.ref x)
  | _ => none
def am_lo (ins : Instr) (lv : am_L) : Option Value := match ins with
  | .iload i => am_gi (am_ld lv i)
  | .iload_n k => am_gi (am_ld lv (k : Nat))
  | .lload i => am_gl (am_ld lv i)
  | .lload_n k => am_gl (am_ld lv (k : Nat))
  | .aload i => am_ga (am_ld lv i)
  | .aload_n k => am_ga (am_ld lv (k : Nat))
  | _ => none
def am_si (nL : Nat) (lv : am_L) (st : List Value) (i : Nat) : Option (am_L × List Value) := match st with
  | .int x :: r => (am_s1 nL lv i (.int x)).map (fun q => (q, r))
  | _ => none
def am_sl (nL : Nat) (lv : am_L) (st : List Value) (i : Nat) : Option (am_L × List Value) := match st with
  | .long x :: r => (am_s2 nL lv i (.long x)).map (fun q => (q, r))
  | _ => none
def am_sa (nL : Nat) (lv : am_L) (st : List Value) (i : Nat) : Option (am_L × List Value) := match st with
  | .ref x :: r => (am_s1 nL lv i (.ref x)).map (fun q => (q, r))
  | _ => none
def am_inc (nL : Nat) (lv : am_L) (st : List Value) (i : Nat) (n : Int) : Option (am_L × List Value) := match am_ld lv i with
  | some (.int x) => (am_s1 nL lv i (.int (x + Int32.ofInt n))).map (fun q => (q, st))
  | _ => none
def am_so (ins : Instr) (nL : Nat) (lv : am_L) (st : List Value) : Option (am_L × List Value) := match ins with
  | .istore i => am_si nL lv st i
  | .istore_n k => am_si nL lv st (k : Nat)
  | .lstore i => am_sl nL lv st i
  | .lstore_n k => am_sl nL lv st (k : Nat)
  | .astore i => am_sa nL lv st i
  | .astore_n k => am_sa nL lv st (k : Nat)
  | .iinc i n => am_inc nL lv st i n
  | _ => none
def am_cnd (c : Jvm.ClassFile.Cond) (x y : Int32) : Bool := match c with
  | .eq => decide (x = y)
  | .ne => decide (¬ x = y)
  | .lt => decide (x < y)
  | .ge => decide (y ≤ x)
  | .gt => decide (y < x)
  | .le => decide (x ≤ y)
def am_b1 (st : List Value) (c : Jvm.ClassFile.Cond) : Option (Bool × List Value) := match st with
  | .int x :: r => some (am_cnd c x 0, r)
  | _ => none
def am_b2 (st : List Value) (c : Jvm.ClassFile.Cond) : Option (Bool × List Value) := match st with
  | .int y :: .int x :: r => some (am_cnd c x y, r)
  | _ => none
def am_br (ins : Instr) (st : List Value) : Option (Bool × List Value) := match ins with
  | .goto _ => some (true, st)
  | .ifCond c _ => am_b1 st c
  | .if_icmp c _ => am_b2 st c
  | _ => none
def am_sw (x : Int32) (sw : List (Int32 × Nat)) (a : Nat) : Nat := ((sw.find? (fun q => q.1 == x)).map (fun q => q.2)).getD a
def am_st1 (st : List Value) : Option (Int32 × List Value) := match st with
  | .int x :: r => some (x, r)
  | _ => none
def am_fit (ty : FieldType) (v : Value) : Bool := match v with
  | .int x => (match ty with
    | .int => true
    | .boolean => x == 0 || x == 1
    | _ => false)
  | .long _ => (match ty with
    | .long => true
    | _ => false)
  | .ref _ => (match ty with
    | .object _ => true
    | .array _ => true
    | _ => false)
  | _ => false
def am_rt (ins : Instr) (ret : Option FieldType) (st : List Value) : Option (Option Value) := match ins with
  | .ireturn => (match st, ret with
    | [.int x], some ty => if am_fit ty (.int x) = true then some (some (.int x)) else none
    | _, _ => none)
  | .lreturn => (match st, ret with
    | [.long x], some ty => if am_fit ty (.long x) = true then some (some (.long x)) else none
    | _, _ => none)
  | .areturn => (match st, ret with
    | [.ref x], some ty => if am_fit ty (.ref x) = true then some (some (.ref x)) else none
    | _, _ => none)
  | .return_ => (match st, ret with
    | [], none => some none
    | _, _ => none)
  | _ => none
/-- which kind of step an instruction is: 0 the stack, 1 a local is read, 2 one is written, 3 a branch, 4 a switch, 5 the heap, 6 the end, 7 a call, 8 a text -/
def am_kd (ins : Instr) (sw : List (Int32 × Nat)) : Nat := match ins with
  | .ldc _ => if sw.isEmpty then 0 else 8
  | .iload _ => 1
  | .iload_n _ => 1
  | .lload _ => 1
  | .lload_n _ => 1
  | .aload _ => 1
  | .aload_n _ => 1
  | .istore _ => 2
  | .istore_n _ => 2
  | .lstore _ => 2
  | .lstore_n _ => 2
  | .astore _ => 2
  | .astore_n _ => 2
  | .iinc _ _ => 2
  | .goto _ => 3
  | .ifCond _ _ => 3
  | .if_icmp _ _ => 3
  | .tableswitch _ _ _ _ => 4
  | .lookupswitch _ _ => 4
  | .getfield _ => 5
  | .putfield _ => 5
  | .new _ => 5
  | .newarray _ => 5
  | .arraylength => 5
  | .iaload => 5
  | .laload => 5
  | .baload => 5
  | .iastore => 5
  | .lastore => 5
  | .bastore => 5
  | .ireturn => 6
  | .lreturn => 6
  | .areturn => 6
  | .return_ => 6
  | .invokevirtual _ => 7
  | .invokespecial _ => 7
  | .invokestatic _ => 7
  | _ => 0
/-- the lengths of the instructions -/
def am_ln (ins : Instr) : Nat := match ins with
  | .bipush _ => 2
  | .sipush _ => 3
  | .ldc _ => 2
  | .ldc_w _ => 3
  | .ldc2_w _ => 3
  | .iload _ => 2
  | .lload _ => 2
  | .aload _ => 2
  | .istore _ => 2
  | .lstore _ => 2
  | .astore _ => 2
  | .iinc _ _ => 3
  | .goto _ => 3
  | .ifCond _ _ => 3
  | .if_icmp _ _ => 3
  | .getfield _ => 3
  | .putfield _ => 3
  | .new _ => 3
  | .newarray _ => 2
  | .invokevirtual _ => 3
  | .invokespecial _ => 3
  | .invokestatic _ => 3
  | _ => 1
section AMH
variable (bs : Nat) (nf : Nat → List FieldType) (sb sL : Nat) (sx : Nat → Int32)
def am_at (A : am_A) (o : Nat) : Option am_E := if bs ≤ o then A.1[o - bs]? else none
def am_up (A : am_A) (o : Nat) (e : am_E) : am_A := (A.1.set (o - bs) e, A.2)
def am_ob (A : am_A) (o ci : Nat) : Option (List Value) := match am_at bs A o with
  | some (.inr q) => if q.1 = ci then some q.2 else none
  | _ => none
def am_ia (A : am_A) (o : Nat) (ty : FieldType) : Option (Nat × (Nat → Int32)) := match am_at bs A o with
  | some (.inl (t, n, .inl f)) => if t = ty then some (n, f) else none
  | _ => none
def am_la (A : am_A) (o : Nat) : Option (Nat × (Nat → Int64)) := match am_at bs A o with
  | some (.inl (t, n, .inr (.inl f))) => if t = .long then some (n, f) else none
  | _ => none
def am_al (A : am_A) (o : Nat) : Option Nat := match am_at bs A o with
  | some (.inl (t, n, _)) => if t = .int ∨ t = .long ∨ t = .byte ∨ t = .boolean then some n else none
  | _ => none
def am_na (t : ArrayType) (n : Nat) : Option (FieldType × vp_A) := match t with
  | .int => some (.int, n, .inl (fun _ => 0))
  | .long => some (.long, n, .inr (.inl (fun _ => 0)))
  | .byte => some (.byte, n, .inl (fun _ => 0))
  | .boolean => some (.boolean, n, .inl (fun _ => 0))
  | _ => none
def am_get (a b : Nat) (st : List Value) (A : am_A) : Option (List Value × am_A) := match st with
  | .ref o :: r => (am_ob bs A o a).bind fun fs => (fs[b]?).map fun v => (v :: r, A)
  | _ => none
def am_put (a b : Nat) (st : List Value) (A : am_A) : Option (List Value × am_A) := match st with
  | v :: .ref o :: r => (am_ob bs A o a).bind fun fs => if b < fs.length ∧ am_fit ((nf a).getD b .int) v = true then some (r, am_up bs A o (.inr (a, fs.set b v))) else none
  | _ => none
def am_new (a : Nat) (st : List Value) (A : am_A) : Option (List Value × am_A) :=
  some (.ref (bs + A.1.length) :: st, (A.1 ++ [.inr (a, (nf a).map defaultValue)], A.2 + (nf a).length))
def am_nwa (t : ArrayType) (st : List Value) (A : am_A) : Option (List Value × am_A) := match st with
  | .int n :: r => if n < 0 ∨ 60000000 < n.toNatClampNeg then none else (am_na t n.toNatClampNeg).map fun x => (.ref (bs + A.1.length) :: r, (A.1 ++ [.inl x], A.2 + n.toNatClampNeg))
  | _ => none
def am_len (st : List Value) (A : am_A) : Option (List Value × am_A) := match st with
  | .ref o :: r => if o = sb then some (.int (Int32.ofNat sL) :: r, A) else (am_al bs A o).map fun n => (.int (Int32.ofNat n) :: r, A)
  | _ => none
def am_ial (st : List Value) (A : am_A) : Option (List Value × am_A) := match st with
  | .int i :: .ref o :: r => if o = sb then (if i < 0 ∨ sL ≤ i.toNatClampNeg then none else some (.int (sx i.toNatClampNeg) :: r, A)) else (am_ia bs A o .int).bind fun q => if i < 0 ∨ q.1 ≤ i.toNatClampNeg then none else some (.int (q.2 i.toNatClampNeg) :: r, A)
  | _ => none
def am_lal (st : List Value) (A : am_A) : Option (List Value × am_A) := match st with
  | .int i :: .ref o :: r => (am_la bs A o).bind fun q => if i < 0 ∨ q.1 ≤ i.toNatClampNeg then none else some (.long (q.2 i.toNatClampNeg) :: r, A)
  | _ => none
def am_bal (st : List Value) (A : am_A) : Option (List Value × am_A) := match st with
  | .int i :: .ref o :: r => (match am_ia bs A o .byte with
    | some q => if i < 0 ∨ q.1 ≤ i.toNatClampNeg then none else some (.int (q.2 i.toNatClampNeg) :: r, A)
    | none => (am_ia bs A o .boolean).bind fun q => if i < 0 ∨ q.1 ≤ i.toNatClampNeg then none else some (.int (q.2 i.toNatClampNeg) :: r, A))
  | _ => none
def am_ias (st : List Value) (A : am_A) : Option (List Value × am_A) := match st with
  | .int x :: .int i :: .ref o :: r => (am_ia bs A o .int).bind fun q => if i < 0 ∨ q.1 ≤ i.toNatClampNeg then none else some (r, am_up bs A o (.inl (.int, q.1, .inl (upd q.2 i.toNatClampNeg x))))
  | _ => none
def am_las (st : List Value) (A : am_A) : Option (List Value × am_A) := match st with
  | .long x :: .int i :: .ref o :: r => (am_la bs A o).bind fun q => if i < 0 ∨ q.1 ≤ i.toNatClampNeg then none else some (r, am_up bs A o (.inl (.long, q.1, .inr (.inl (vp_updL q.2 i.toNatClampNeg x)))))
  | _ => none
def am_bas (st : List Value) (A : am_A) : Option (List Value × am_A) := match st with
  | .int x :: .int i :: .ref o :: r => (match am_ia bs A o .byte with
    | some q => if i < 0 ∨ q.1 ≤ i.toNatClampNeg then none else some (r, am_up bs A o (.inl (.byte, q.1, .inl (upd q.2 i.toNatClampNeg (vp_nar .byte x)))))
    | none => (am_ia bs A o .boolean).bind fun q => if i < 0 ∨ q.1 ≤ i.toNatClampNeg then none else some (r, am_up bs A o (.inl (.boolean, q.1, .inl (upd q.2 i.toNatClampNeg (vp_nar .boolean x))))))
  | _ => none
def am_hp (ins : Instr) (a b : Nat) (st : List Value) (A : am_A) : Option (List Value × am_A) := match ins with
  | .getfield _ => am_get bs a b st A
  | .putfield _ => am_put bs nf a b st A
  | .new _ => am_new bs nf a st A
  | .newarray t => am_nwa bs t st A
  | .arraylength => am_len bs sb sL st A
  | .iaload => am_ial bs sb sL sx st A
  | .laload => am_lal bs st A
  | .baload => am_bal bs st A
  | .iastore => am_ias bs st A
  | .lastore => am_las bs st A
  | .bastore => am_bas bs st A
  | _ => none
/-- the words of a call, the receiver first, and what stays on the stack -/
def am_ca (ins : Instr) (b : Nat) (st : List Value) : Option (List Value × List Value) := match ins with
  | .invokestatic _ => if b ≤ st.length then some ((st.take b).reverse, st.drop b) else none
  | _ => (match st.drop b with
    | .ref o :: r => some (.ref o :: (st.take b).reverse, r)
    | _ => none)
/-- is what is called called by what may call it: a virtual call's receiver is of its class -/
def am_rc (ins : Instr) (A : am_A) (vs : List Value) (ci : Nat) : Bool := match ins with
  | .invokevirtual _ => (match vs with
    | .ref o :: _ => (am_ob bs A o ci).isSome
    | _ => false)
  | _ => true
variable (mth : Nat → Option am_T) (tbl : Nat → Nat → Option am_I) (sa : Nat) (sp : Nat → List Value → Option (Option Value))
def am_run : Nat → Nat → Nat → Nat → am_L → List Value → am_A → Option (Option Value × am_A)
  | 0, _, _, _, _, _, _ => none
  | f + 1, d, k, pc, lv, st, A => (mth k).bind fun M => (tbl k pc).bind fun I =>
    match am_kd I.1 I.2.2.2.2.2 with
    | 0 => (am_sk I.1 I.2.2.1 st).bind fun st' => am_run f d k (pc + I.2.1) lv st' A
    | 1 => (am_lo I.1 lv).bind fun v => am_run f d k (pc + I.2.1) lv (v :: st) A
    | 2 => (am_so I.1 M.2.2.1 lv st).bind fun q => am_run f d k (pc + I.2.1) q.1 q.2 A
    | 3 => (am_br I.1 st).bind fun q => am_run f d k (if q.1 = true then I.2.2.1 else pc + I.2.1) lv q.2 A
    | 4 => (am_st1 st).bind fun q => am_run f d k (am_sw q.1 I.2.2.2.2.2 I.2.2.1) lv q.2 A
    | 5 => (am_hp bs nf sb sL sx I.1 I.2.2.1 I.2.2.2.1 st A).bind fun q => am_run f d k (pc + I.2.1) lv q.1 q.2
    | 6 => (am_rt I.1 M.2.2.2.1 st).map fun v => (v, A)
    | 7 => (am_ca I.1 I.2.2.2.1 st).bind fun q => if ¬ (q.2.map fun v => v.category).sum ≤ 8 then none else
        match d with
        | 0 => none
        | d' + 1 =>
          if I.2.2.1 = 10000 then am_run f (d' + 1) k (pc + I.2.1) lv q.2 A
          else if 10000 < I.2.2.1 then (if d' < 8 then none else (sp I.2.2.1 q.1).bind fun w => am_run f (d' + 1) k (pc + I.2.1) lv (w.toList ++ q.2) A)
          else (mth I.2.2.1).bind fun N => if am_rc bs I.1 A q.1 N.2.2.2.2 = true ∧ (lg_sl q.1).length ≤ N.2.2.1 then
            (am_run f d' I.2.2.1 0 (lv_args 0 q.1) [] A).bind fun w => am_run f (d' + 1) k (pc + I.2.1) lv (w.1.toList ++ q.2) w.2
            else none
    | 8 => am_run f d k (pc + I.2.1) lv (.ref sa :: st) A
    | _ => none
end AMH
end
section
/-! PART 02: each step of the abstract machine is the JVM's -/
theorem am_i1_inv {st r : List Value} {f : Int32 → Option Value} (h : am_i1 st f = some r) : ∃ x t v, st = .int x :: t ∧ f x = some v ∧ r = v :: t := by
  unfold am_i1 at h
  split at h
  · obtain ⟨v, hv, rfl⟩ := Option.map_eq_some_iff.mp h
    exact ⟨_, _, v, rfl, hv, rfl⟩
  · cases h
theorem am_l1_inv {st r : List Value} {f : Int64 → Option Value} (h : am_l1 st f = some r) : ∃ x t v, st = .long x :: t ∧ f x = some v ∧ r = v :: t := by
  unfold am_l1 at h
  split at h
  · obtain ⟨v, hv, rfl⟩ := Option.map_eq_some_iff.mp h
    exact ⟨_, _, v, rfl, hv, rfl⟩
  · cases h
theorem am_ii_inv {st r : List Value} {f : Int32 → Int32 → Option Value} (h : am_ii st f = some r) : ∃ x y t v, st = .int y :: .int x :: t ∧ f x y = some v ∧ r = v :: t := by
  unfold am_ii at h
  split at h
  · obtain ⟨v, hv, rfl⟩ := Option.map_eq_some_iff.mp h
    exact ⟨_, _, _, v, rfl, hv, rfl⟩
  · cases h
theorem am_ll_inv {st r : List Value} {f : Int64 → Int64 → Option Value} (h : am_ll st f = some r) : ∃ x y t v, st = .long y :: .long x :: t ∧ f x y = some v ∧ r = v :: t := by
  unfold am_ll at h
  split at h
  · obtain ⟨v, hv, rfl⟩ := Option.map_eq_some_iff.mp h
    exact ⟨_, _, _, v, rfl, hv, rfl⟩
  · cases h
theorem am_li_inv {st r : List Value} {f : Int64 → Int32 → Option Value} (h : am_li st f = some r) : ∃ x y t v, st = .int y :: .long x :: t ∧ f x y = some v ∧ r = v :: t := by
  unfold am_li at h
  split at h
  · obtain ⟨v, hv, rfl⟩ := Option.map_eq_some_iff.mp h
    exact ⟨_, _, _, v, rfl, hv, rfl⟩
  · cases h
theorem am_ld_ok {ls : Array Slot} {nL i : Nat} {lv : am_L} {v : Value} (h : lv_has ls nL lv) (hv : am_ld lv i = some v) : ls[i]? = some (.val v) ∧ ∃ k : Nat, lv[k]? = some (i, v) := by
  unfold am_ld at hv
  obtain ⟨q, hq, rfl⟩ := Option.map_eq_some_iff.mp hv
  have hm := List.mem_of_find?_eq_some hq
  have hp := List.find?_some hq
  have e : q.1 = i := by simpa using hp
  subst e
  exact ⟨h.2.2 q hm, List.getElem?_of_mem hm⟩
theorem am_gi_inv {o : Option Value} {v : Value} (h : am_gi o = some v) : ∃ x, o = some (.int x) ∧ v = .int x := by
  unfold am_gi at h
  split at h
  · cases h; exact ⟨_, rfl, rfl⟩
  · cases h
theorem am_gl_inv {o : Option Value} {v : Value} (h : am_gl o = some v) : ∃ x, o = some (.long x) ∧ v = .long x := by
  unfold am_gl at h
  split at h
  · cases h; exact ⟨_, rfl, rfl⟩
  · cases h
theorem am_ga_inv {o : Option Value} {v : Value} (h : am_ga o = some v) : ∃ x, o = some (.ref x) ∧ v = .ref x := by
  unfold am_ga at h
  split at h
  · cases h; exact ⟨_, rfl, rfl⟩
  · cases h
theorem am_s1_inv {nL i : Nat} {lv lv' : am_L} {v : Value} (h : am_s1 nL lv i v = some lv') : i < nL ∧ (i, v) :: lv.filter (fun q => !(q.1 == i) && !(q.1 + 1 == i && q.2.category == 2)) = lv' := by
  unfold am_s1 at h
  split at h
  · cases h; exact ⟨by assumption, rfl⟩
  · cases h
theorem am_s2_inv {nL i : Nat} {lv lv' : am_L} {v : Value} (h : am_s2 nL lv i v = some lv') : i + 1 < nL ∧ (i, v) :: lv.filter (fun q => !(q.1 == i) && (!(q.1 == i + 1) && !(q.1 + 1 == i && q.2.category == 2))) = lv' := by
  unfold am_s2 at h
  split at h
  · cases h; exact ⟨by assumption, rfl⟩
  · cases h
theorem am_si_inv {nL i : Nat} {lv : am_L} {st : List Value} {q : am_L × List Value} (h : am_si nL lv st i = some q) : ∃ x, st = .int x :: q.2 ∧ am_s1 nL lv i (.int x) = some q.1 := by
  unfold am_si at h
  split at h
  · obtain ⟨v, hv, rfl⟩ := Option.map_eq_some_iff.mp h
    exact ⟨_, rfl, hv⟩
  · cases h
theorem am_sl_inv {nL i : Nat} {lv : am_L} {st : List Value} {q : am_L × List Value} (h : am_sl nL lv st i = some q) : ∃ x, st = .long x :: q.2 ∧ am_s2 nL lv i (.long x) = some q.1 := by
  unfold am_sl at h
  split at h
  · obtain ⟨v, hv, rfl⟩ := Option.map_eq_some_iff.mp h
    exact ⟨_, rfl, hv⟩
  · cases h
theorem am_sa_inv {nL i : Nat} {lv : am_L} {st : List Value} {q : am_L × List Value} (h : am_sa nL lv st i = some q) : ∃ x, st = .ref x :: q.2 ∧ am_s1 nL lv i (.ref x) = some q.1 := by
  unfold am_sa at h
  split at h
  · obtain ⟨v, hv, rfl⟩ := Option.map_eq_some_iff.mp h
    exact ⟨_, rfl, hv⟩
  · cases h
theorem am_inc_inv {nL i : Nat} {n : Int} {lv : am_L} {st : List Value} {q : am_L × List Value} (h : am_inc nL lv st i n = some q) : ∃ x, am_ld lv i = some (.int x) ∧ st = q.2 ∧ am_s1 nL lv i (.int (x + Int32.ofInt n)) = some q.1 := by
  unfold am_inc at h
  split at h
  · obtain ⟨v, hv, rfl⟩ := Option.map_eq_some_iff.mp h
    exact ⟨_, by assumption, rfl, hv⟩
  · cases h
theorem am_fit_ok {ty : FieldType} {v : Value} (h : am_fit ty v = true) : narrow ty v = v ∧ fits ty v = true := by
  unfold am_fit at h
  split at h
  · split at h
    · exact ⟨rfl, rfl⟩
    · rcases (show _ = (0 : Int32) ∨ _ = (1 : Int32) by simpa using h) with hz | hz
      · rw [hz]; exact ⟨by decide +kernel, rfl⟩
      · rw [hz]; exact ⟨by decide +kernel, rfl⟩
    · cases h
  · split at h
    · exact ⟨rfl, rfl⟩
    · cases h
  · split at h
    · exact ⟨rfl, rfl⟩
    · exact ⟨rfl, rfl⟩
    · cases h
  · cases h
section AMR
variable {p : Program} {l : Launch} {e : Env} {R : Room} {s : State} {m : MethodId} {args : Array Value} {below : List Frame} {meth : Method} {c : Code} {H : Heap} {locs : List Loc} {cells slots : Nat} {Q : State → Prop}
variable {cc : ByteArray} {pc : Nat} {ls : Array Slot} {st st' : List Value} {ins : Instr} {a nL : Nat} {lv : am_L} {own : String}
/-- the constants that an instruction reads are what the tables say -/
def am_kc (args : Array Value) (s : State) (own : String) (ins : Instr) (a : Nat) : Prop := match ins with
  | .ldc i => (Jvm.Cond.constant own i (Int32.ofNat a)).before args s = true
  | .ldc_w i => (Jvm.Cond.constant own i (Int32.ofNat a)).before args s = true
  | .ldc2_w i => (Jvm.Cond.constantLong own i (Int64.ofNat a)).before args s = true
  | _ => True
set_option maxHeartbeats 4000000 in
theorem am_sk_ok (hx : p.tables.exec = Jvm.exec) (hb : c.code = cc) (hown : s.vm.findClass own = some m.cls) (hk : am_kc args s own ins a) (h : am_sk ins a st = some st') (hd : decode cc pc = .ok (ins, am_ln ins))
    (kk : W p l e R s m args below meth c H locs cells slots Q (F0 m (pc + am_ln ins) ls st')) : W p l e R s m args below meth c H locs cells slots Q (F0 m pc ls st) := by
  unfold am_sk at h
  split at h
  · cases h; exact lv_iconst hx hb hd rfl kk
  · cases h; exact lv_bipush hx hb hd rfl kk
  · cases h; exact lv_sipush hx hb hd rfl kk
  · cases h; exact lv_lconst hx hb hd rfl kk
  · cases h; exact lv_ldc hx hb hown hk hd kk
  · cases h; exact lv_ldcw hx hb hown hk hd kk
  · cases h; exact lv_ldc2 hx hb hown hk hd kk
  · obtain ⟨x, y, t, v, rfl, hv, rfl⟩ := am_ii_inv h; cases hv; exact lv_iadd hx hb hd kk
  · obtain ⟨x, y, t, v, rfl, hv, rfl⟩ := am_ii_inv h; cases hv; exact lv_isub hx hb hd kk
  · obtain ⟨x, y, t, v, rfl, hv, rfl⟩ := am_ii_inv h; cases hv; exact lv_imul hx hb hd kk
  · obtain ⟨x, y, t, v, rfl, hv, rfl⟩ := am_ii_inv h; cases hv; exact lv_iand hx hb hd kk
  · obtain ⟨x, y, t, v, rfl, hv, rfl⟩ := am_ii_inv h; cases hv; exact lv_ior hx hb hd kk
  · obtain ⟨x, y, t, v, rfl, hv, rfl⟩ := am_ii_inv h; cases hv; exact lv_ishl hx hb hd kk
  · obtain ⟨x, y, t, v, rfl, hv, rfl⟩ := am_ii_inv h; cases hv; exact lv_ishr hx hb hd kk
  · obtain ⟨x, y, t, v, rfl, hv, rfl⟩ := am_ii_inv h
    by_cases hy : y = 0
    · simp [hy] at hv
    · simp only [if_neg hy] at hv; cases hv; exact lv_idiv hx hb hd hy kk
  · obtain ⟨x, y, t, v, rfl, hv, rfl⟩ := am_ii_inv h
    by_cases hy : y = 0
    · simp [hy] at hv
    · simp only [if_neg hy] at hv; cases hv; exact lv_irem hx hb hd hy kk
  · obtain ⟨x, t, v, rfl, hv, rfl⟩ := am_i1_inv h; cases hv; exact lv_ineg hx hb hd kk
  · obtain ⟨x, t, v, rfl, hv, rfl⟩ := am_i1_inv h; cases hv; exact lv_i2l hx hb hd rfl kk
  · obtain ⟨x, t, v, rfl, hv, rfl⟩ := am_i1_inv h; cases hv; exact lv_i2b hx hb hd rfl kk
  · obtain ⟨x, t, v, rfl, hv, rfl⟩ := am_l1_inv h; cases hv; exact lv_l2i hx hb hd rfl kk
  · obtain ⟨x, t, v, rfl, hv, rfl⟩ := am_l1_inv h; cases hv; exact lv_lneg hx hb hd kk
  · obtain ⟨x, y, t, v, rfl, hv, rfl⟩ := am_ll_inv h; cases hv; exact lv_lmul hx hb hd kk
  · obtain ⟨x, y, t, v, rfl, hv, rfl⟩ := am_ll_inv h; cases hv; exact lv_land hx hb hd kk
  · obtain ⟨x, y, t, v, rfl, hv, rfl⟩ := am_ll_inv h; cases hv; exact lv_lor hx hb hd kk
  · obtain ⟨x, y, t, v, rfl, hv, rfl⟩ := am_ll_inv h
    by_cases hy : y = 0
    · simp [hy] at hv
    · simp only [if_neg hy] at hv; cases hv; exact lv_ldiv hx hb hd hy kk
  · obtain ⟨x, y, t, v, rfl, hv, rfl⟩ := am_ll_inv h
    by_cases hy : y = 0
    · simp [hy] at hv
    · simp only [if_neg hy] at hv; cases hv; exact lv_lrem hx hb hd hy kk
  · obtain ⟨x, y, t, v, rfl, hv, rfl⟩ := am_ll_inv h; cases hv; exact W.lcmp hx hb hd kk
  · obtain ⟨x, y, t, v, rfl, hv, rfl⟩ := am_li_inv h; cases hv; exact lv_lshl hx hb hd rfl kk
  · obtain ⟨x, y, t, v, rfl, hv, rfl⟩ := am_li_inv h; cases hv; exact lv_lshr hx hb hd rfl kk
  · unfold am_dup at h
    split at h
    · rename_i v r
      by_cases hc : v.category = 1
      · rw [if_pos hc] at h; cases h; exact lv_dup hx hb hd hc kk
      · rw [if_neg hc] at h; cases h
    · cases h
  · unfold am_pop at h
    split at h
    · rename_i v r
      by_cases hc : v.category = 1
      · rw [if_pos hc] at h; cases h; exact lv_pop hx hb hd hc kk
      · rw [if_neg hc] at h; cases h
    · cases h
  · unfold am_dup2 at h
    split at h
    · rename_i v w r
      by_cases hc : v.category = 1 ∧ w.category = 1
      · rw [if_pos hc] at h; cases h; exact lv_dup2_11 hx hb hd hc.1 hc.2 kk
      · rw [if_neg hc] at h; cases h
    · cases h
  · cases h
set_option maxHeartbeats 4000000 in
theorem am_lo_ok {v : Value} (hx : p.tables.exec = Jvm.exec) (hb : c.code = cc) (hl : lv_has ls nL lv) (h : am_lo ins lv = some v) (hd : decode cc pc = .ok (ins, am_ln ins))
    (kk : W p l e R s m args below meth c H locs cells slots Q (F0 m (pc + am_ln ins) ls (v :: st))) : W p l e R s m args below meth c H locs cells slots Q (F0 m pc ls st) := by
  unfold am_lo at h
  split at h
  · obtain ⟨x, h1, rfl⟩ := am_gi_inv h; exact lv_iload hx hb hd (am_ld_ok hl h1).1 kk
  · obtain ⟨x, h1, rfl⟩ := am_gi_inv h; exact lv_iload_n hx hb hd rfl (am_ld_ok hl h1).1 kk
  · obtain ⟨x, h1, rfl⟩ := am_gl_inv h; exact lv_lload hx hb hd (am_ld_ok hl h1).1 kk
  · obtain ⟨x, h1, rfl⟩ := am_gl_inv h; exact lv_lload_n hx hb hd rfl (am_ld_ok hl h1).1 kk
  · obtain ⟨x, h1, rfl⟩ := am_ga_inv h; exact lv_aload hx hb hd (am_ld_ok hl h1).1 kk
  · obtain ⟨x, h1, rfl⟩ := am_ga_inv h; exact lv_aload_n hx hb hd rfl (am_ld_ok hl h1).1 kk
  · cases h
set_option maxHeartbeats 4000000 in
theorem am_so_ok {q : am_L × List Value} (hx : p.tables.exec = Jvm.exec) (hb : c.code = cc) (hl : lv_has ls nL lv) (h : am_so ins nL lv st = some q) (hd : decode cc pc = .ok (ins, am_ln ins))
    (kk : ∀ ls' : Array Slot, lv_has ls' nL q.1 → W p l e R s m args below meth c H locs cells slots Q (F0 m (pc + am_ln ins) ls' q.2)) : W p l e R s m args below meth c H locs cells slots Q (F0 m pc ls st) := by
  unfold am_so at h
  split at h
  · obtain ⟨x, rfl, h2⟩ := am_si_inv h; obtain ⟨h3, h4⟩ := am_s1_inv h2; exact lv_istore hx hb hd hl h3 h4 kk
  · obtain ⟨x, rfl, h2⟩ := am_si_inv h; obtain ⟨h3, h4⟩ := am_s1_inv h2; exact lv_istore_n hx hb hd rfl hl h3 h4 kk
  · obtain ⟨x, rfl, h2⟩ := am_sl_inv h; obtain ⟨h3, h4⟩ := am_s2_inv h2; exact lv_lstore hx hb hd hl h3 h4 kk
  · obtain ⟨x, rfl, h2⟩ := am_sl_inv h; obtain ⟨h3, h4⟩ := am_s2_inv h2; exact lv_lstore_n hx hb hd rfl hl h3 h4 kk
  · obtain ⟨x, rfl, h2⟩ := am_sa_inv h; obtain ⟨h3, h4⟩ := am_s1_inv h2; exact lv_astore hx hb hd hl h3 h4 kk
  · obtain ⟨x, rfl, h2⟩ := am_sa_inv h; obtain ⟨h3, h4⟩ := am_s1_inv h2; exact lv_astore_n hx hb hd rfl hl h3 h4 kk
  · obtain ⟨x, h1, rfl, h2⟩ := am_inc_inv h
    obtain ⟨h3, h4⟩ := am_s1_inv h2
    obtain ⟨k, hk⟩ := (am_ld_ok hl h1).2
    exact lv_iinc hx hb hd hl hk rfl h3 h4 kk
  · cases h
/-- a branch's target is where the table says -/
def am_tg (ins : Instr) (pc a : Nat) : Prop := match ins with
  | .goto o => (pc : Int) + o = (a : Int)
  | .ifCond _ o => (pc : Int) + o = (a : Int)
  | .if_icmp _ o => (pc : Int) + o = (a : Int)
  | _ => True
theorem am_ift {b : Bool} {x y : Nat} {P : Nat → Prop} (h : b = true) (k : P (if b = true then x else y)) : P x := by rw [if_pos h] at k; exact k
theorem am_iff {b : Bool} {x y : Nat} {P : Nat → Prop} (h : b = false) (k : P (if b = true then x else y)) : P y := by rw [h] at k; exact k
set_option maxHeartbeats 4000000 in
theorem am_br_ok {q : Bool × List Value} (hx : p.tables.exec = Jvm.exec) (hb : c.code = cc) (ht : am_tg ins pc a) (h : am_br ins st = some q) (hd : decode cc pc = .ok (ins, am_ln ins))
    (kk : W p l e R s m args below meth c H locs cells slots Q (F0 m (if q.1 = true then a else pc + am_ln ins) ls q.2)) : W p l e R s m args below meth c H locs cells slots Q (F0 m pc ls st) := by
  unfold am_br at h
  split at h
  · cases h; exact lv_goto hx hb hd ht kk
  · rename_i cd o
    unfold am_b1 at h
    split at h
    · cases h
      cases cd
      · exact lv_if_eq hx hb hd ht (fun z => am_ift (P := fun n => W p l e R s m args below meth c H locs cells slots Q (F0 m n ls _)) (decide_eq_true z) kk) (fun z => am_iff (P := fun n => W p l e R s m args below meth c H locs cells slots Q (F0 m n ls _)) (decide_eq_false z) kk)
      · exact lv_if_ne hx hb hd ht (fun z => am_ift (P := fun n => W p l e R s m args below meth c H locs cells slots Q (F0 m n ls _)) (decide_eq_true z) kk) (fun z => am_iff (P := fun n => W p l e R s m args below meth c H locs cells slots Q (F0 m n ls _)) (decide_eq_false (fun h => h z)) kk)
      · exact lv_if_lt hx hb hd ht (fun z => am_ift (P := fun n => W p l e R s m args below meth c H locs cells slots Q (F0 m n ls _)) (decide_eq_true z) kk) (fun z => am_iff (P := fun n => W p l e R s m args below meth c H locs cells slots Q (F0 m n ls _)) (decide_eq_false z) kk)
      · exact lv_if_ge hx hb hd ht (fun z => am_ift (P := fun n => W p l e R s m args below meth c H locs cells slots Q (F0 m n ls _)) (decide_eq_true z) kk) (fun z => am_iff (P := fun n => W p l e R s m args below meth c H locs cells slots Q (F0 m n ls _)) (decide_eq_false z) kk)
      · exact lv_if_gt hx hb hd ht (fun z => am_ift (P := fun n => W p l e R s m args below meth c H locs cells slots Q (F0 m n ls _)) (decide_eq_true z) kk) (fun z => am_iff (P := fun n => W p l e R s m args below meth c H locs cells slots Q (F0 m n ls _)) (decide_eq_false z) kk)
      · exact lv_if_le hx hb hd ht (fun z => am_ift (P := fun n => W p l e R s m args below meth c H locs cells slots Q (F0 m n ls _)) (decide_eq_true z) kk) (fun z => am_iff (P := fun n => W p l e R s m args below meth c H locs cells slots Q (F0 m n ls _)) (decide_eq_false z) kk)
    · cases h
  · rename_i cd o
    unfold am_b2 at h
    split at h
    · cases h
      cases cd
      · exact lv_icmp_eq hx hb hd ht (fun z => am_ift (P := fun n => W p l e R s m args below meth c H locs cells slots Q (F0 m n ls _)) (decide_eq_true z) kk) (fun z => am_iff (P := fun n => W p l e R s m args below meth c H locs cells slots Q (F0 m n ls _)) (decide_eq_false z) kk)
      · exact lv_icmp_ne hx hb hd ht (fun z => am_ift (P := fun n => W p l e R s m args below meth c H locs cells slots Q (F0 m n ls _)) (decide_eq_true z) kk) (fun z => am_iff (P := fun n => W p l e R s m args below meth c H locs cells slots Q (F0 m n ls _)) (decide_eq_false (fun h => h z)) kk)
      · exact lv_icmp_lt hx hb hd ht (fun z => am_ift (P := fun n => W p l e R s m args below meth c H locs cells slots Q (F0 m n ls _)) (decide_eq_true z) kk) (fun z => am_iff (P := fun n => W p l e R s m args below meth c H locs cells slots Q (F0 m n ls _)) (decide_eq_false z) kk)
      · exact lv_icmp_ge hx hb hd ht (fun z => am_ift (P := fun n => W p l e R s m args below meth c H locs cells slots Q (F0 m n ls _)) (decide_eq_true z) kk) (fun z => am_iff (P := fun n => W p l e R s m args below meth c H locs cells slots Q (F0 m n ls _)) (decide_eq_false z) kk)
      · exact lv_icmp_gt hx hb hd ht (fun z => am_ift (P := fun n => W p l e R s m args below meth c H locs cells slots Q (F0 m n ls _)) (decide_eq_true z) kk) (fun z => am_iff (P := fun n => W p l e R s m args below meth c H locs cells slots Q (F0 m n ls _)) (decide_eq_false z) kk)
      · exact lv_icmp_le hx hb hd ht (fun z => am_ift (P := fun n => W p l e R s m args below meth c H locs cells slots Q (F0 m n ls _)) (decide_eq_true z) kk) (fun z => am_iff (P := fun n => W p l e R s m args below meth c H locs cells slots Q (F0 m n ls _)) (decide_eq_false z) kk)
    · cases h
  · cases h
end AMR
end
section
/-! PART 03: the heap of the abstract machine in the JVM's -/
def am_tr (ca : FieldType → ClassId) (e : am_E) : va_E := match e with
  | .inl q => .inl (ca q.1, q.2)
  | .inr o => .inr o
def am_W (bs : Nat) (ca : FieldType → ClassId) (L : List am_E) : va_W := L.mapIdx (fun i e => (bs + i, am_tr ca e))
theorem am_W_get {bs : Nat} {ca : FieldType → ClassId} {L : List am_E} {i : Nat} : (am_W bs ca L)[i]? = (L[i]?).map (fun e => (bs + i, am_tr ca e)) := by
  unfold am_W
  rw [List.getElem?_mapIdx]
theorem am_W_set {bs : Nat} {ca : FieldType → ClassId} {L : List am_E} {i : Nat} {e : am_E} : (am_W bs ca L).set i (bs + i, am_tr ca e) = am_W bs ca (L.set i e) := by
  apply List.ext_getElem?
  intro j
  rw [List.getElem?_set, am_W_get, am_W_get, List.getElem?_set]
  by_cases h : i = j
  · subst h
    simp only [if_true, am_W, List.length_mapIdx]
    by_cases h2 : i < L.length
    · simp [h2]
    · simp [h2]
  · simp [h]
theorem am_W_app {bs : Nat} {ca : FieldType → ClassId} {L : List am_E} {e : am_E} : am_W bs ca (L ++ [e]) = am_W bs ca L ++ [(bs + L.length, am_tr ca e)] := by
  unfold am_W
  rw [List.mapIdx_concat]
theorem am_W_D {bs : Nat} {ca : FieldType → ClassId} {L : List am_E} : va_D (fun q => bs ≤ q) (am_W bs ca L) := by
  refine ⟨fun i j p q h1 h2 h3 => ?_, fun k q h => ?_⟩
  · rw [am_W_get] at h1 h2
    obtain ⟨_, _, rfl⟩ := Option.map_eq_some_iff.mp h1
    obtain ⟨_, _, rfl⟩ := Option.map_eq_some_iff.mp h2
    simpa using h3
  · rw [am_W_get] at h
    obtain ⟨_, _, rfl⟩ := Option.map_eq_some_iff.mp h
    exact Nat.le_add_right _ _
theorem am_W_at {bs : Nat} {ca : FieldType → ClassId} {A : am_A} {o : Nat} {e : am_E} (h : am_at bs A o = some e) : (am_W bs ca A.1)[o - bs]? = some (o, am_tr ca e) ∧ bs + (o - bs) = o := by
  unfold am_at at h
  split at h
  · rename_i hb
    rw [am_W_get, h]
    have e1 : bs + (o - bs) = o := by omega
    simp [e1]
  · cases h
theorem am_W_up {bs : Nat} {ca : FieldType → ClassId} {A : am_A} {o : Nat} {e e' : am_E} (h : am_at bs A o = some e) : (am_W bs ca A.1).set (o - bs) (o, am_tr ca e') = am_W bs ca (am_up bs A o e').1 := by
  have e1 := (am_W_at (ca := ca) h).2
  have h2 := am_W_set (bs := bs) (ca := ca) (L := A.1) (i := o - bs) (e := e')
  rw [e1] at h2
  exact h2
theorem am_ob_inv {bs : Nat} {A : am_A} {o ci : Nat} {fs : List Value} (h : am_ob bs A o ci = some fs) : am_at bs A o = some (.inr (ci, fs)) := by
  unfold am_ob at h
  split at h
  · rename_i q hq
    by_cases hc : q.1 = ci
    · rw [if_pos hc] at h
      cases h
      rw [hq, ← hc]
    · rw [if_neg hc] at h; cases h
  · cases h
theorem am_ia_inv {bs : Nat} {A : am_A} {o : Nat} {ty : FieldType} {q : Nat × (Nat → Int32)} (h : am_ia bs A o ty = some q) : am_at bs A o = some (.inl (ty, q.1, .inl q.2)) := by
  unfold am_ia at h
  split at h
  · rename_i t n f hq
    by_cases hc : t = ty
    · rw [if_pos hc] at h
      cases h
      rw [hq, hc]
    · rw [if_neg hc] at h; cases h
  · cases h
theorem am_la_inv {bs : Nat} {A : am_A} {o : Nat} {q : Nat × (Nat → Int64)} (h : am_la bs A o = some q) : am_at bs A o = some (.inl (.long, q.1, .inr (.inl q.2))) := by
  unfold am_la at h
  split at h
  · rename_i t n f hq
    by_cases hc : t = .long
    · rw [if_pos hc] at h
      cases h
      rw [hq, hc]
    · rw [if_neg hc] at h; cases h
  · cases h
theorem am_al_inv {bs : Nat} {A : am_A} {o n : Nat} (h : am_al bs A o = some n) : ∃ t x, am_at bs A o = some (.inl (t, n, x)) ∧ (t = .int ∨ t = .long ∨ t = .byte ∨ t = .boolean) := by
  unfold am_al at h
  split at h
  · rename_i t k x hq
    by_cases hc : t = .int ∨ t = .long ∨ t = .byte ∨ t = .boolean
    · rw [if_pos hc] at h
      cases h
      exact ⟨t, x, hq, hc⟩
    · rw [if_neg hc] at h; cases h
  · cases h
/-- what holds of every class that the tables have -/
def am_okC (cl : List vw_C) (nf : Nat → List FieldType) (Ts : List Jvm.Cond) : Prop := ∀ (ci : Nat) (C : String) (T : u_T) (N : Nat), cl[ci]? = some (C, T, N) →
  (∀ w ∈ u_ws C T N, w ∈ Ts) ∧ (∀ k, k < N → parseFieldDescriptor (T k).2.2.1 = some ((nf ci).getD k .int)) ∧ (∀ a, a < N → ∀ b, b < N → a ≠ b → (T a).2.1 ≠ (T b).2.1) ∧ (nf ci).length = N ∧ Jvm.Cond.instantiable C N ∈ Ts ∧ Jvm.Cond.initialized C ∈ Ts
/-- what an instruction that touches the heap links is what the tables say -/
def am_lk (cl : List vw_C) (Ts : List Jvm.Cond) (own mn : String) (ins : Instr) (a b : Nat) : Prop := match ins with
  | .getfield i => ∃ (C : String) (T : u_T) (N : Nat), cl[a]? = some (C, T, N) ∧ b < N ∧ (Jvm.Cond.fieldLink own i (T b).1 (T b).2.1 (T b).2.2.1 ∈ Ts ∨ ∃ host, Jvm.Cond.fieldLinkNest own i (T b).1 (T b).2.1 (T b).2.2.1 host ∈ Ts)
  | .putfield i => ∃ (C : String) (T : u_T) (N : Nat), cl[a]? = some (C, T, N) ∧ b < N ∧ Jvm.Cond.fieldLink own i (T b).1 (T b).2.1 (T b).2.2.1 ∈ Ts ∧ ((T b).2.2.2 = false ∨ ((T b).2.2.2 = true ∧ mn = "<init>" ∧ (T b).1 = own))
  | .new i => ∃ (C : String) (T : u_T) (N : Nat), cl[a]? = some (C, T, N) ∧ Jvm.Cond.classLink own i C ∈ Ts
  | .newarray t => Jvm.Cond.arrayClass (newarray.typeOf t) ∈ Ts
  | _ => True
abbrev am_tys (ca : FieldType → ClassId) : List (ClassId × FieldType) := [(ca .int, .int), (ca .long, .long), (ca .byte, .byte), (ca .boolean, .boolean)]
section AMP
variable {p : Program} {l : Launch} {e : Env} {R : Room} {s : State} {m : MethodId} {args : Array Value} {below : List Frame} {meth : Method} {c : Code} {H : Heap} {locs : List Loc} {cells slots : Nat} {Q : State → Prop}
variable {cc : ByteArray} {pc : Nat} {ls : Array Slot} {st st' : List Value} {ins : Instr} {a b nL n0 z0 : Nat} {own : String} {D : va_G} {cl : List vw_C} {ca : FieldType → ClassId} {bs : Nat} {nf : Nat → List FieldType} {sb sL : Nat} {sx : Nat → Int32} {Ts : List Jvm.Cond} {A A' : am_A}
/-- what the machine says of the heap's size -/
theorem am_sz {g : JFrame} (k : s.heap.size ≤ H.size → H.size ≤ s.heap.size + cells → W p l e R s m args below meth c H locs cells slots Q g) : W p l e R s m args below meth c H locs cells slots Q g := by
  intro T hT X
  obtain ⟨-, h1, h2, -⟩ := X.same
  exact k (by rw [← hT]; exact h1) (by rw [← hT]; exact h2) T hT X
theorem am_P_lt {L : List am_E} (hP : va_P D cl (am_W bs ca L) H) {i : Nat} (hi : i < L.length) : bs + i < H.size := by
  have h := hP i (bs + i, am_tr ca L[i]) (by rw [am_W_get, List.getElem?_eq_getElem hi]; rfl)
  exact h.lt
/-- a new cell's place -/
theorem am_q {L : List am_E} {q : Nat} {x : va_E} (hP : va_P D cl (am_W bs ca L ++ [(q, x)]) H) (hD : va_D (fun q => bs ≤ q) (am_W bs ca L ++ [(q, x)])) (hH : H.size ≤ bs + L.length + 1) : q = bs + L.length := by
  have hl : (am_W bs ca L).length = L.length := by simp [am_W]
  have h0 : (am_W bs ca L ++ [(q, x)])[L.length]? = some (q, x) := by rw [← hl]; simp
  have h1 : q < H.size := (hP _ _ h0).lt
  have h2 : bs ≤ q := hD.2 _ _ h0
  rcases Nat.lt_or_ge (q - bs) L.length with h | h
  · exfalso
    have h3 : (am_W bs ca L ++ [(q, x)])[q - bs]? = some (q, am_tr ca L[q - bs]) := by
      rw [List.getElem?_append_left (by rw [hl]; exact h), am_W_get, List.getElem?_eq_getElem h]
      have : bs + (q - bs) = q := by omega
      simp [this]
    have h4 := hD.1 _ _ _ _ h0 h3 rfl
    omega
  · omega
theorem am_ca_eq {ty : FieldType} {cA : ClassId} {t0 : Nat} (hty : ∀ C, ty ≠ .object C) (hK : va_K D cl (am_tys ca) s) (ht : (am_tys ca)[t0]? = some (ca ty, ty)) (hK1 : va_K D cl (am_tys ca ++ [(cA, ty)]) s) : cA = ca ty := by
  have h1 := (hK.2 t0 _ ht).2
  have h2 := (hK1.2 4 (cA, ty) rfl).2
  cases ty with
  | object C => exact absurd rfl (hty C)
  | _ => exact Option.some.inj (h2.symm.trans h1)
set_option maxHeartbeats 8000000 in
theorem am_hp_ok (okC : am_okC cl nf Ts) (hx : p.tables.exec = Jvm.exec) (hb : c.code = cc) (hown : s.vm.findClass own = some m.cls) (hts : ∀ w ∈ Ts, w.before args s = true) (hK : va_K D cl (am_tys ca) s) (hX : va_X sb sL sx s s.heap) (hsb : sb < bs) (hlk : am_lk cl Ts own meth.name ins a b)
    (h : am_hp bs nf sb sL sx ins a b st A = some (st', A')) (hd : decode cc pc = .ok (ins, am_ln ins)) (hP : va_P D cl (am_W bs ca A.1) H) (hS : va_S (fun q => bs ≤ q) s.heap H locs) (h0 : s.heap.size = bs + n0) (hn : n0 + cells = A.1.length) (hz : z0 + slots = A.2) (hR1 : A'.1.length ≤ n0 + R.cells) (hR2 : A'.2 ≤ z0 + R.slots)
    (kk : ∀ (H' : Heap) (locs' : List Loc) (cells' slots' : Nat), va_P D cl (am_W bs ca A'.1) H' → va_S (fun q => bs ≤ q) s.heap H' locs' → n0 + cells' = A'.1.length → z0 + slots' = A'.2 → W p l e R s m args below meth c H' locs' cells' slots' Q (F0 m (pc + am_ln ins) ls st')) : W p l e R s m args below meth c H locs cells slots Q (F0 m pc ls st) := by
  have hA : ∀ q, s.heap.size ≤ q → bs ≤ q := fun q hq => by omega
  have hsl : sb < s.heap.size := by omega
  have hbA : ¬ (fun q => bs ≤ q) sb := Nat.not_le.mpr hsb
  unfold am_hp at h
  split at h
  · -- getfield
    unfold am_get at h
    split at h
    · rename_i o r
      obtain ⟨fs, h1, h2⟩ := Option.bind_eq_some_iff.mp h
      obtain ⟨v, h3, h4⟩ := Option.map_eq_some_iff.mp h2
      cases h4
      obtain ⟨C, T, N, hc, hbN, hl⟩ := hlk
      obtain ⟨hin, hty, hnm, hlen, hi1, hi2⟩ := okC _ _ _ _ hc
      have he := (am_W_at (ca := ca) (am_ob_inv h1)).1
      rcases hl with hl | ⟨host, hl⟩
      · exact va_get (D := D) (cl := cl) hx hb hts hin hown hK hP (o - bs) he hc b hbN (hts _ hl) (fun _ h9 => h9) h3 hd (kk H locs cells slots hP hS hn hz)
      · exact va_getN (D := D) (cl := cl) hx hb hts hin hown hK hP (o - bs) he hc b hbN (hts _ hl) (fun _ h9 => h9) h3 hd (kk H locs cells slots hP hS hn hz)
    · cases h
  · -- putfield
    unfold am_put at h
    split at h
    · rename_i v o r
      obtain ⟨fs, h1, h2⟩ := Option.bind_eq_some_iff.mp h
      by_cases hf : b < fs.length ∧ am_fit ((nf a).getD b .int) v = true
      · rw [if_pos hf] at h2
        cases h2
        obtain ⟨C, T, N, hc, hbN, hl, hfin⟩ := hlk
        obtain ⟨hin, hty, hnm, hlen, hi1, hi2⟩ := okC _ _ _ _ hc
        have hat := am_ob_inv h1
        have he := (am_W_at (ca := ca) hat).1
        obtain ⟨hn1, hf1⟩ := am_fit_ok hf.2
        rcases hfin with hfin | ⟨hfin, hmn, hdecl⟩
        · refine va_put (D := D) (cl := cl) hx hb hts hin (fun k => (nf a).getD k .int) hty hnm hown hK hP am_W_D hS (o - bs) he hc b hbN (hts _ hl) (fun _ h9 => h9) hfin (hty b hbN) hn1 hf1 hf.1 hd (fun H1 locs1 hP1 _ hS1 => ?_)
          exact kk H1 locs1 cells slots (by rw [← am_W_up hat]; exact hP1) hS1 (by rw [hn]; simp [am_up]) hz
        · refine va_putF (D := D) (cl := cl) hx hb hts hin (fun k => (nf a).getD k .int) hty hnm hown hK hP am_W_D hS (o - bs) he hc b hbN (hts _ hl) (fun _ h9 => h9) hfin hmn hdecl (hty b hbN) hn1 hf1 hf.1 hd (fun H1 locs1 hP1 _ hS1 => ?_)
          exact kk H1 locs1 cells slots (by rw [← am_W_up hat]; exact hP1) hS1 (by rw [hn]; simp [am_up]) hz
      · rw [if_neg hf] at h2; cases h2
    · cases h
  · -- new
    unfold am_new at h
    cases h
    obtain ⟨C, T, N, hc, hl⟩ := hlk
    obtain ⟨hin, hty, hnm, hlen, hi1, hi2⟩ := okC _ _ _ _ hc
    simp only [List.length_append, List.length_cons, List.length_nil] at hR1
    have hfs : ∀ j, j < N → defaultValue ((nf a).getD j .int) = vp_V ((nf a).map defaultValue) j := by
      intro j hj
      have hj' : j < (nf a).length := by omega
      simp [vp_V, List.getD, hj']
    refine va_new (D := D) (cl := cl) hx hb hts hin (fun k => (nf a).getD k .int) hty hown (hts _ hl) (hts _ hi1) (hts _ hi2) hK hP am_W_D hS hA hc hfs (by omega) (by simp only at hR2; omega) hd (fun q H1 hP1 hD1 hS1 => ?_)
    refine am_sz (fun _ hs2 => ?_)
    have hq := am_q hP1 hD1 (by omega)
    subst hq
    refine kk H1 locs (cells + 1) (slots + N) (by rw [am_W_app]; exact hP1) hS1 (by simp; omega) (by simp only; omega)
  · -- newarray
    rename_i t
    unfold am_nwa at h
    split at h
    · rename_i n r
      by_cases hc : n < 0 ∨ 60000000 < n.toNatClampNeg
      · rw [if_pos hc] at h; cases h
      · rw [if_neg hc] at h
        obtain ⟨x, h1, h2⟩ := Option.map_eq_some_iff.mp h
        cases h2
        simp only [List.length_append, List.length_cons, List.length_nil] at hR1
        simp only at hR2
        have hn0 : ¬ n < 0 := fun z => hc (Or.inl z)
        have hnb : n.toNatClampNeg ≤ 60000000 := Nat.not_lt.mp (fun z => hc (Or.inr z))
        unfold am_na at h1
        split at h1
        · cases h1
          refine va_newa (D := D) (cl := cl) (a0 := (n.toNatClampNeg, .inl (fun _ => 0))) hx hb (hts _ hlk) (ty := .int) rfl hK hP am_W_D hS hA (fun cA => rfl) hn0 rfl (by simp [componentBytes]; omega) (by omega) (by omega) hd (fun q cA H1 hK1 hP1 hD1 hS1 => ?_)
          refine am_sz (fun _ hs2 => ?_)
          have hq := am_q hP1 hD1 (by omega)
          subst hq
          have hcA := am_ca_eq (t0 := 0) (ty := .int) (fun _ z => by cases z) hK rfl hK1
          subst hcA
          exact kk H1 locs (cells + 1) _ (by rw [am_W_app]; exact hP1) hS1 (by simp; omega) (by simp only; omega)
        · cases h1
          refine va_newa (D := D) (cl := cl) (a0 := (n.toNatClampNeg, .inr (.inl (fun _ => 0)))) hx hb (hts _ hlk) (ty := .long) rfl hK hP am_W_D hS hA (fun cA => rfl) hn0 rfl (by simp [componentBytes]; omega) (by omega) (by omega) hd (fun q cA H1 hK1 hP1 hD1 hS1 => ?_)
          refine am_sz (fun _ hs2 => ?_)
          have hq := am_q hP1 hD1 (by omega)
          subst hq
          have hcA := am_ca_eq (t0 := 1) (ty := .long) (fun _ z => by cases z) hK rfl hK1
          subst hcA
          exact kk H1 locs (cells + 1) _ (by rw [am_W_app]; exact hP1) hS1 (by simp; omega) (by simp only; omega)
        · cases h1
          refine va_newa (D := D) (cl := cl) (a0 := (n.toNatClampNeg, .inl (fun _ => 0))) hx hb (hts _ hlk) (ty := .byte) rfl hK hP am_W_D hS hA (fun cA => rfl) hn0 rfl (by simp [componentBytes]; omega) (by omega) (by omega) hd (fun q cA H1 hK1 hP1 hD1 hS1 => ?_)
          refine am_sz (fun _ hs2 => ?_)
          have hq := am_q hP1 hD1 (by omega)
          subst hq
          have hcA := am_ca_eq (t0 := 2) (ty := .byte) (fun _ z => by cases z) hK rfl hK1
          subst hcA
          exact kk H1 locs (cells + 1) _ (by rw [am_W_app]; exact hP1) hS1 (by simp; omega) (by simp only; omega)
        · cases h1
          refine va_newa (D := D) (cl := cl) (a0 := (n.toNatClampNeg, .inl (fun _ => 0))) hx hb (hts _ hlk) (ty := .boolean) rfl hK hP am_W_D hS hA (fun cA => rfl) hn0 rfl (by simp [componentBytes]; omega) (by omega) (by omega) hd (fun q cA H1 hK1 hP1 hD1 hS1 => ?_)
          refine am_sz (fun _ hs2 => ?_)
          have hq := am_q hP1 hD1 (by omega)
          subst hq
          have hcA := am_ca_eq (t0 := 3) (ty := .boolean) (fun _ z => by cases z) hK rfl hK1
          subst hcA
          exact kk H1 locs (cells + 1) _ (by rw [am_W_app]; exact hP1) hS1 (by simp; omega) (by simp only; omega)
        · cases h1
    · cases h
  · -- arraylength
    unfold am_len at h
    split at h
    · rename_i o r
      by_cases ho : o = sb
      · rw [if_pos ho] at h
        cases h
        subst ho
        exact va_slen hx hb hX hsl hbA hS hd (kk H locs cells slots hP hS hn hz)
      · rw [if_neg ho] at h
        obtain ⟨n, h1, h2⟩ := Option.map_eq_some_iff.mp h
        cases h2
        obtain ⟨t, x, h3, h4⟩ := am_al_inv h1
        have he := (am_W_at (ca := ca) h3).1
        rcases h4 with rfl | rfl | rfl | rfl
        · exact va_alen (D := D) (cl := cl) hx hb hK hP (o - bs) 0 he rfl rfl hd (kk H locs cells slots hP hS hn hz)
        · exact va_alen (D := D) (cl := cl) hx hb hK hP (o - bs) 1 he rfl rfl hd (kk H locs cells slots hP hS hn hz)
        · exact va_alen (D := D) (cl := cl) hx hb hK hP (o - bs) 2 he rfl rfl hd (kk H locs cells slots hP hS hn hz)
        · exact va_alen (D := D) (cl := cl) hx hb hK hP (o - bs) 3 he rfl rfl hd (kk H locs cells slots hP hS hn hz)
    · cases h
  · -- iaload
    unfold am_ial at h
    split at h
    · rename_i i o r
      by_cases ho : o = sb
      · rw [if_pos ho] at h
        by_cases hi : i < 0 ∨ sL ≤ i.toNatClampNeg
        · rw [if_pos hi] at h; cases h
        · rw [if_neg hi] at h
          cases h
          subst ho
          exact va_sld hx hb hX hsl hbA hS hi hd (kk H locs cells slots hP hS hn hz)
      · rw [if_neg ho] at h
        obtain ⟨q, h1, h2⟩ := Option.bind_eq_some_iff.mp h
        by_cases hi : i < 0 ∨ q.1 ≤ i.toNatClampNeg
        · rw [if_pos hi] at h2; cases h2
        · rw [if_neg hi] at h2
          cases h2
          exact va_iald (D := D) (cl := cl) hx hb hK hP (o - bs) 0 (am_W_at (ca := ca) (am_ia_inv h1)).1 rfl hi hd (kk H locs cells slots hP hS hn hz)
    · cases h
  · -- laload
    unfold am_lal at h
    split at h
    · rename_i i o r
      obtain ⟨q, h1, h2⟩ := Option.bind_eq_some_iff.mp h
      by_cases hi : i < 0 ∨ q.1 ≤ i.toNatClampNeg
      · rw [if_pos hi] at h2; cases h2
      · rw [if_neg hi] at h2
        cases h2
        exact va_lald (D := D) (cl := cl) hx hb hK hP (o - bs) 1 (am_W_at (ca := ca) (am_la_inv h1)).1 rfl hi hd (kk H locs cells slots hP hS hn hz)
    · cases h
  · -- baload
    unfold am_bal at h
    split at h
    · rename_i i o r
      split at h
      · rename_i q h1
        by_cases hi : i < 0 ∨ q.1 ≤ i.toNatClampNeg
        · rw [if_pos hi] at h; cases h
        · rw [if_neg hi] at h
          cases h
          exact va_bald (D := D) (cl := cl) hx hb hK hP (o - bs) 2 (am_W_at (ca := ca) (am_ia_inv h1)).1 rfl hi hd (kk H locs cells slots hP hS hn hz)
      · obtain ⟨q, h1, h2⟩ := Option.bind_eq_some_iff.mp h
        by_cases hi : i < 0 ∨ q.1 ≤ i.toNatClampNeg
        · rw [if_pos hi] at h2; cases h2
        · rw [if_neg hi] at h2
          cases h2
          exact va_zald (D := D) (cl := cl) hx hb hK hP (o - bs) 3 (am_W_at (ca := ca) (am_ia_inv h1)).1 rfl hi hd (kk H locs cells slots hP hS hn hz)
    · cases h
  · -- iastore
    unfold am_ias at h
    split at h
    · rename_i x i o r
      obtain ⟨q, h1, h2⟩ := Option.bind_eq_some_iff.mp h
      by_cases hi : i < 0 ∨ q.1 ≤ i.toNatClampNeg
      · rw [if_pos hi] at h2; cases h2
      · rw [if_neg hi] at h2
        cases h2
        have hat := am_ia_inv h1
        refine va_iast (D := D) (cl := cl) hx hb hK hP am_W_D hS (o - bs) 0 (am_W_at (ca := ca) hat).1 rfl hi hd (fun H1 locs1 hP1 _ hS1 => ?_)
        exact kk H1 locs1 cells slots (by rw [← am_W_up hat]; exact hP1) hS1 (by rw [hn]; simp [am_up]) hz
    · cases h
  · -- lastore
    unfold am_las at h
    split at h
    · rename_i x i o r
      obtain ⟨q, h1, h2⟩ := Option.bind_eq_some_iff.mp h
      by_cases hi : i < 0 ∨ q.1 ≤ i.toNatClampNeg
      · rw [if_pos hi] at h2; cases h2
      · rw [if_neg hi] at h2
        cases h2
        have hat := am_la_inv h1
        refine va_last (D := D) (cl := cl) hx hb hK hP am_W_D hS (o - bs) 1 (am_W_at (ca := ca) hat).1 rfl hi hd (fun H1 locs1 hP1 _ hS1 => ?_)
        exact kk H1 locs1 cells slots (by rw [← am_W_up hat]; exact hP1) hS1 (by rw [hn]; simp [am_up]) hz
    · cases h
  · -- bastore
    unfold am_bas at h
    split at h
    · rename_i x i o r
      split at h
      · rename_i q h1
        by_cases hi : i < 0 ∨ q.1 ≤ i.toNatClampNeg
        · rw [if_pos hi] at h; cases h
        · rw [if_neg hi] at h
          cases h
          have hat := am_ia_inv h1
          refine va_bast (D := D) (cl := cl) hx hb hK hP am_W_D hS (o - bs) 2 (am_W_at (ca := ca) hat).1 rfl hi hd (fun H1 locs1 hP1 _ hS1 => ?_)
          exact kk H1 locs1 cells slots (by rw [← am_W_up hat]; exact hP1) hS1 (by rw [hn]; simp [am_up]) hz
      · obtain ⟨q, h1, h2⟩ := Option.bind_eq_some_iff.mp h
        by_cases hi : i < 0 ∨ q.1 ≤ i.toNatClampNeg
        · rw [if_pos hi] at h2; cases h2
        · rw [if_neg hi] at h2
          cases h2
          have hat := am_ia_inv h1
          refine va_zast (D := D) (cl := cl) hx hb hK hP am_W_D hS (o - bs) 3 (am_W_at (ca := ca) hat).1 rfl hi hd (fun H1 locs1 hP1 _ hS1 => ?_)
          exact kk H1 locs1 cells slots (by rw [← am_W_up hat]; exact hP1) hS1 (by rw [hn]; simp [am_up]) hz
    · cases h
  · cases h
end AMP
end
section
/-! PART 04: what the abstract machine runs, the JVM runs (the walk), and a contract of each method out of its run -/
theorem am_hp_mono {bs : Nat} {nf : Nat → List FieldType} {sb sL : Nat} {sx : Nat → Int32} {ins : Instr} {a b : Nat} {st : List Value} {A : am_A} {q : List Value × am_A} (h : am_hp bs nf sb sL sx ins a b st A = some q) : A.1.length ≤ q.2.1.length ∧ A.2 ≤ q.2.2 := by
  unfold am_hp at h
  split at h
  · unfold am_get at h
    split at h
    · obtain ⟨fs, h1, h2⟩ := Option.bind_eq_some_iff.mp h
      obtain ⟨v, h3, h4⟩ := Option.map_eq_some_iff.mp h2
      cases h4
      exact ⟨Nat.le_refl _, Nat.le_refl _⟩
    · cases h
  · unfold am_put at h
    split at h
    · obtain ⟨fs, h1, h2⟩ := Option.bind_eq_some_iff.mp h
      split at h2
      · cases h2; simp [am_up]
      · cases h2
    · cases h
  · unfold am_new at h
    cases h
    simp
  · unfold am_nwa at h
    split at h
    · split at h
      · cases h
      · obtain ⟨v, h3, h4⟩ := Option.map_eq_some_iff.mp h
        cases h4
        simp
    · cases h
  · unfold am_len at h
    split at h
    · split at h
      · cases h; exact ⟨Nat.le_refl _, Nat.le_refl _⟩
      · obtain ⟨v, h3, h4⟩ := Option.map_eq_some_iff.mp h
        cases h4
        exact ⟨Nat.le_refl _, Nat.le_refl _⟩
    · cases h
  · unfold am_ial at h
    split at h
    · split at h
      · split at h
        · cases h
        · cases h; exact ⟨Nat.le_refl _, Nat.le_refl _⟩
      · obtain ⟨fs, h1, h2⟩ := Option.bind_eq_some_iff.mp h
        split at h2
        · cases h2
        · cases h2; exact ⟨Nat.le_refl _, Nat.le_refl _⟩
    · cases h
  · unfold am_lal at h
    split at h
    · obtain ⟨fs, h1, h2⟩ := Option.bind_eq_some_iff.mp h
      split at h2
      · cases h2
      · cases h2; exact ⟨Nat.le_refl _, Nat.le_refl _⟩
    · cases h
  · unfold am_bal at h
    split at h
    · split at h
      · split at h
        · cases h
        · cases h; exact ⟨Nat.le_refl _, Nat.le_refl _⟩
      · obtain ⟨fs, h1, h2⟩ := Option.bind_eq_some_iff.mp h
        split at h2
        · cases h2
        · cases h2; exact ⟨Nat.le_refl _, Nat.le_refl _⟩
    · cases h
  · unfold am_ias at h
    split at h
    · obtain ⟨fs, h1, h2⟩ := Option.bind_eq_some_iff.mp h
      split at h2
      · cases h2
      · cases h2; simp [am_up]
    · cases h
  · unfold am_las at h
    split at h
    · obtain ⟨fs, h1, h2⟩ := Option.bind_eq_some_iff.mp h
      split at h2
      · cases h2
      · cases h2; simp [am_up]
    · cases h
  · unfold am_bas at h
    split at h
    · split at h
      · split at h
        · cases h
        · cases h; simp [am_up]
      · obtain ⟨fs, h1, h2⟩ := Option.bind_eq_some_iff.mp h
        split at h2
        · cases h2
        · cases h2; simp [am_up]
    · cases h
  · cases h
theorem am_run_mono {bs : Nat} {nf : Nat → List FieldType} {sb sL : Nat} {sx : Nat → Int32} {mth : Nat → Option am_T} {tbl : Nat → Nat → Option am_I} {sa : Nat} {sp : Nat → List Value → Option (Option Value)} :
    ∀ (f d k pc : Nat) (lv : am_L) (st : List Value) (A A' : am_A) (v : Option Value), am_run bs nf sb sL sx mth tbl sa sp f d k pc lv st A = some (v, A') → A.1.length ≤ A'.1.length ∧ A.2 ≤ A'.2 := by
  intro f
  induction f with
  | zero => intro d k pc lv st A A' v h; simp [am_run] at h
  | succ f ih =>
    intro d k pc lv st A A' v h
    rw [am_run] at h
    obtain ⟨M, hM, h⟩ := Option.bind_eq_some_iff.mp h
    obtain ⟨I, hI, h⟩ := Option.bind_eq_some_iff.mp h
    split at h
    · obtain ⟨q, h1, h2⟩ := Option.bind_eq_some_iff.mp h; exact ih _ _ _ _ _ _ _ _ h2
    · obtain ⟨q, h1, h2⟩ := Option.bind_eq_some_iff.mp h; exact ih _ _ _ _ _ _ _ _ h2
    · obtain ⟨q, h1, h2⟩ := Option.bind_eq_some_iff.mp h; exact ih _ _ _ _ _ _ _ _ h2
    · obtain ⟨q, h1, h2⟩ := Option.bind_eq_some_iff.mp h; exact ih _ _ _ _ _ _ _ _ h2
    · obtain ⟨q, h1, h2⟩ := Option.bind_eq_some_iff.mp h; exact ih _ _ _ _ _ _ _ _ h2
    · obtain ⟨q, h1, h2⟩ := Option.bind_eq_some_iff.mp h
      have a1 := am_hp_mono h1
      have a2 := ih _ _ _ _ _ _ _ _ h2
      omega
    · obtain ⟨q, h1, h2⟩ := Option.map_eq_some_iff.mp h
      cases h2
      exact ⟨Nat.le_refl _, Nat.le_refl _⟩
    · obtain ⟨q, h1, h2⟩ := Option.bind_eq_some_iff.mp h
      split at h2
      · cases h2
      · split at h2
        · cases h2
        · split at h2
          · exact ih _ _ _ _ _ _ _ _ h2
          · split at h2
            · split at h2
              · cases h2
              · obtain ⟨w, h3, h4⟩ := Option.bind_eq_some_iff.mp h2; exact ih _ _ _ _ _ _ _ _ h4
            · obtain ⟨N, h3, h4⟩ := Option.bind_eq_some_iff.mp h2
              split at h4
              · obtain ⟨w, h5, h6⟩ := Option.bind_eq_some_iff.mp h4
                have a1 := ih _ _ _ _ _ _ _ _ h5
                have a2 := ih _ _ _ _ _ _ _ _ h6
                omega
              · cases h4
    · exact ih _ _ _ _ _ _ _ _ h
    · cases h
/-- a switch's cases are where the table says -/
def am_swl (pc : Nat) : List (Int × Int) → List (Int32 × Nat) → Bool
  | [], [] => true
  | (k, o) :: ps, (x, t) :: sw => decide (x.toInt = k) && decide ((pc : Int) + o = (t : Int)) && am_swl pc ps sw
  | _, _ => false
def am_swr (pc : Nat) : Int → List Int → List (Int32 × Nat) → Bool
  | _, [], [] => true
  | lo, o :: os, (x, t) :: sw => decide (x.toInt = lo) && decide ((pc : Int) + o = (t : Int)) && am_swr pc (lo + 1) os sw
  | _, _, _ => false
theorem am_sw_cons {x k : Int32} {t a : Nat} {sw : List (Int32 × Nat)} : am_sw x ((k, t) :: sw) a = if k = x then t else am_sw x sw a := by
  unfold am_sw
  by_cases h : k = x
  · simp [h]
  · simp [h]
theorem am_i32 {x k : Int32} (h : x.toInt = k.toInt) : x = k := Int32.toInt_inj.mp h
theorem am_swl_ok {pc a : Nat} {d : Int} (hd : (pc : Int) + d = (a : Int)) (x : Int32) : ∀ (ps : List (Int × Int)) (sw : List (Int32 × Nat)), am_swl pc ps sw = true → (pc : Int) + Op.lookupswitch.offset ps d x.toInt = (am_sw x sw a : Int) := by
  intro ps
  induction ps with
  | nil =>
    intro sw h
    cases sw with
    | nil => exact hd
    | cons _ _ => simp [am_swl] at h
  | cons q ps ih =>
    intro sw h
    obtain ⟨k, o⟩ := q
    cases sw with
    | nil => simp [am_swl] at h
    | cons r sw =>
      obtain ⟨y, t⟩ := r
      simp only [am_swl, Bool.and_eq_true, decide_eq_true_eq] at h
      obtain ⟨⟨h1, h2⟩, h3⟩ := h
      rw [am_sw_cons, Op.lookupswitch.offset_cons]
      by_cases hk : y = x
      · rw [if_pos (by rw [← h1, hk]), if_pos hk]; exact h2
      · rw [if_neg (fun z => hk (am_i32 (by rw [h1, z]))), if_neg hk]; exact ih sw h3
theorem am_swr_ok {pc a : Nat} (x : Int32) : ∀ (os : List Int) (lo : Int) (sw : List (Int32 × Nat)), am_swr pc lo os sw = true → ((x.toInt < lo ∨ lo + os.length ≤ x.toInt) → am_sw x sw a = a) ∧ (∀ (i : Nat) (o : Int), x.toInt = lo + i → os[i]? = some o → (pc : Int) + o = (am_sw x sw a : Int)) := by
  intro os
  induction os with
  | nil =>
    intro lo sw h
    cases sw with
    | nil => exact ⟨fun _ => rfl, fun i o _ h2 => by simp at h2⟩
    | cons _ _ => simp [am_swr] at h
  | cons q os ih =>
    intro lo sw h
    cases sw with
    | nil => simp [am_swr] at h
    | cons r sw =>
      obtain ⟨y, t⟩ := r
      simp only [am_swr, Bool.and_eq_true, decide_eq_true_eq] at h
      obtain ⟨⟨h1, h2⟩, h3⟩ := h
      obtain ⟨i1, i2⟩ := ih (lo + 1) sw h3
      rw [am_sw_cons]
      refine ⟨fun hx => ?_, fun i o hi ho => ?_⟩
      · have hne : ¬ y = x := fun z => by
          rw [z] at h1
          simp only [List.length_cons] at hx
          omega
        rw [if_neg hne]
        refine i1 ?_
        simp only [List.length_cons] at hx
        omega
      · cases i with
        | zero =>
          have hy : y = x := am_i32 (by rw [h1, hi]; simp)
          rw [if_pos hy]
          simp at ho
          rw [← ho]; exact h2
        | succ i =>
          have hy : ¬ y = x := fun z => by
            rw [z] at h1
            omega
          rw [if_neg hy]
          exact i2 i o (by omega) (by simpa using ho)
def am_swk (ins : Instr) (len pc a : Nat) (sw : List (Int32 × Nat)) : Prop := match ins with
  | .lookupswitch d ps => (ps.toList.zip (ps.toList.drop 1)).all (fun (x, y) => x.1 < y.1) = true ∧ (pc : Int) + d = (a : Int) ∧ am_swl pc ps.toList sw = true
  | .tableswitch d lo hi os => (pc : Int) + d = (a : Int) ∧ am_swr pc lo os.toList sw = true ∧ lo + os.toList.length = hi + 1
  | _ => True
/-- the constants of the tables -/
def am_kct (Ts : List Jvm.Cond) (own : String) (ins : Instr) (a : Nat) (sw : List (Int32 × Nat)) (stx : Nat → String → Prop) : Prop := match ins with
  | .ldc i => if sw.isEmpty = true then Jvm.Cond.constant own i (Int32.ofNat a) ∈ Ts else stx i own
  | .ldc_w i => Jvm.Cond.constant own i (Int32.ofNat a) ∈ Ts
  | .ldc2_w i => Jvm.Cond.constantLong own i (Int64.ofNat a) ∈ Ts
  | _ => True
def am_okM (Ts : List Jvm.Cond) (M : am_T) : Prop := plainName M.1.cls = true ∧ (M.1.cls ≠ "java/lang/invoke/MethodHandle" ∧ M.1.cls ≠ "java/lang/invoke/VarHandle") ∧ Jvm.Cond.code M.1 M.2.1 M.2.2.1 M.2.2.2.1 ∈ Ts ∧ Jvm.Cond.initialized M.1.cls ∈ Ts ∧ M.2.2.1 ≤ 61
/-- what a call links is what the tables say -/
def am_lc (mth : Nat → Option am_T) (cl : List vw_C) (Ts : List Jvm.Cond) (slk : Nat → String → Instr → Nat → Prop) (own : String) (ins : Instr) (a b : Nat) : Prop :=
  if am_kd ins [] = 7 then (if a = 10000 then b = 0 ∧ ∃ i, ins = .invokespecial i ∧ Jvm.Cond.methodLink own i Lib.objectInit ∈ Ts ∧ Jvm.Cond.instanceMethod Lib.objectInit ∈ Ts ∧ Jvm.Cond.code Lib.objectInit ⟨#[0xb1]⟩ 1 none ∈ Ts
    else if 10000 < a then slk a own ins b
    else ∀ N, mth a = some N → am_okM Ts N ∧ (parseMethodDescriptor N.1.desc).map (fun d => d.parameters.length) = some b ∧ (match ins with
      | .invokevirtual i => Jvm.Cond.methodLink own i N.1 ∈ Ts ∧ Jvm.Cond.instanceMethod N.1 ∈ Ts ∧ Jvm.Cond.selects N.1.cls N.1 N.1 ∈ Ts ∧ ∃ (T : u_T) (n : Nat), cl[N.2.2.2.2]? = some (N.1.cls, T, n)
      | .invokespecial i => Jvm.Cond.methodLink own i N.1 ∈ Ts ∧ Jvm.Cond.instanceMethod N.1 ∈ Ts ∧ N.1.name = "<init>" ∧ N.2.2.2.1 = none
      | .invokestatic i => Jvm.Cond.methodLink own i N.1 ∈ Ts ∧ Jvm.Cond.static N.1 ∈ Ts
      | _ => False)) else True
def am_okI (mth : Nat → Option am_T) (cl : List vw_C) (Ts : List Jvm.Cond) (stx : Nat → String → Prop) (slk : Nat → String → Instr → Nat → Prop) (M : am_T) (pc : Nat) (I : am_I) : Prop :=
  decode M.2.1 pc = .ok (I.1, I.2.1) ∧ (am_kd I.1 I.2.2.2.2.2 = 4 ∨ I.2.1 = am_ln I.1) ∧ am_kct Ts M.1.cls I.1 I.2.2.1 I.2.2.2.2.2 stx ∧ am_tg I.1 pc I.2.2.1 ∧ am_swk I.1 I.2.1 pc I.2.2.1 I.2.2.2.2.2 ∧ am_lk cl Ts M.1.cls M.1.name I.1 I.2.2.1 I.2.2.2.1 ∧ am_lc mth cl Ts slk M.1.cls I.1 I.2.2.1 I.2.2.2.1
/-- a word on a nest mate's field: it isn't carried by contracts' words, but by what is known of the state -/
def am_nst (w : Jvm.Cond) : Bool := match w with
  | .fieldLinkNest _ _ _ _ _ _ => true
  | _ => false
theorem am_nst_inv {w : Jvm.Cond} (h : am_nst w = true) : ∃ a i b n d o, w = .fieldLinkNest a i b n d o := by
  unfold am_nst at h
  split at h
  · exact ⟨_, _, _, _, _, _, rfl⟩
  · cases h
theorem am_nst_tab {w : Jvm.Cond} (h : am_nst w = true) : w.onTables = true := by
  obtain ⟨a, i, b, n, d, o, rfl⟩ := am_nst_inv h
  rfl
def am_good (Ts : List Jvm.Cond) : Prop := ∀ w ∈ Ts, goodWord w = true ∨ am_nst w = true
section AMX
variable (l : Launch) (mth : Nat → Option am_T) (tbl : Nat → Nat → Option am_I) (cl : List vw_C) (nf : Nat → List FieldType) (Ts : List Jvm.Cond) (D : va_G) (ca : FieldType → ClassId) (bs sb sL : Nat) (sx : Nat → Int32) (sa : Nat) (sp : Nat → List Value → Option (Option Value)) (Xt : State → Heap → Prop) (stx : Nat → String → Prop) (slk : Nat → String → Instr → Nat → Prop)
/-- what is known of a state: its classes, the script, the texts -/
def am_Kn (U : State) : Prop := va_K D cl (am_tys ca) U ∧ va_X sb sL sx U U.heap ∧ Xt U U.heap ∧ ∀ w ∈ Ts, am_nst w = true → va_Nw w U
/-- what is known of texts goes along -/
def am_okX : Prop := ∀ (u U : State) (H H' : Heap), (u.vm = U.vm ∨ u.WarmedH U.vm) → (∀ q, q < bs → H'[q]? = H[q]?) → Xt u H → Xt U H'
/-- a text's place is loaded -/
def am_okT : Prop := ∀ (p : Program) (e : Env) (R : Room) (s : State) (m : MethodId) (args : Array Value) (below : List Frame) (meth : Method) (c : Code) (H : Heap) (locs : List Loc) (cells slots : Nat) (Q : State → Prop) (cc : ByteArray) (pc : Nat) (ls : Array Slot) (st : List Value) (own : String) (i : Nat),
  p.tables.exec = Jvm.exec → c.code = cc → s.vm.findClass own = some m.cls → Xt s s.heap → stx i own → decode cc pc = .ok (.ldc i, 2) → W p l e R s m args below meth c H locs cells slots Q (F0 m (pc + 2) ls (.ref sa :: st)) → W p l e R s m args below meth c H locs cells slots Q (F0 m pc ls st)
/-- a call of one of the JDK's own methods -/
def am_okS : Prop := ∀ (p : Program) (e : Env) (R : Room) (s : State) (m : MethodId) (args : Array Value) (below : List Frame) (meth : Method) (c : Code) (H : Heap) (locs : List Loc) (cells slots : Nat) (Q : State → Prop) (cc : ByteArray) (pc nL : Nat) (ls : Array Slot) (st : List Value) (own : String) (ins : Instr) (a b : Nat) (q : List Value × List Value) (w : Option Value),
  p.tables.exec = Jvm.exec → c.code = cc → c.maxLocals = nL → ls.size = nL → s.vm.findClass own = some m.cls → (∀ w ∈ Ts, w.before args s = true) → Xt s s.heap → slk a own ins b → am_ca ins b st = some q → (q.2.map fun v => v.category).sum ≤ 8 → sp a q.1 = some w → decode cc pc = .ok (ins, 3) → va_S (fun q => bs ≤ q) s.heap H locs → bs ≤ s.heap.size → 9 ≤ R.frames → 720 ≤ R.locals → cells ≤ R.cells → slots ≤ R.slots → W p l e R s m args below meth c H locs cells slots Q (F0 m (pc + 3) ls (w.toList ++ q.2)) → W p l e R s m args below meth c H locs cells slots Q (F0 m pc ls st)
def am_Walk (f : Nat) : Prop := ∀ (p : Program) (e : Env) (R : Room) (s : State) (m : MethodId) (args : Array Value) (below : List Frame) (meth : Method) (c : Code) (Q : State → Prop) (k d pc : Nat) (M : am_T) (lv : am_L) (st : List Value) (A A' : am_A) (v : Option Value) (ls : Array Slot) (H : Heap) (locs : List Loc) (cells slots n0 z0 : Nat),
  p.tables.exec = Jvm.exec → c.code = M.2.1 → c.maxLocals = M.2.2.1 → s.vm.findClass M.1.cls = some m.cls → (∀ w ∈ Ts, w.before args s = true) → meth.name = M.1.name → am_Kn cl Ts D ca sb sL sx Xt s → mth k = some M →
  am_run bs nf sb sL sx mth tbl sa sp f d k pc lv st A = some (v, A') → lv_has ls M.2.2.1 lv → va_P D cl (am_W bs ca A.1) H → va_S (fun q => bs ≤ q) s.heap H locs → s.heap.size = bs + n0 → n0 + cells = A.1.length → z0 + slots = A.2 → d ≤ R.frames → d * 80 ≤ R.locals → A'.1.length ≤ n0 + R.cells → A'.2 ≤ z0 + R.slots →
  (∀ (pc : Nat) (ls : Array Slot) (st : List Value) (H : Heap) (locs : List Loc) (cells slots : Nat) (ins : Instr), decode M.2.1 pc = .ok (ins, am_ln ins) → am_rt ins M.2.2.2.1 st = some v → va_P D cl (am_W bs ca A'.1) H → va_S (fun q => bs ≤ q) s.heap H locs → n0 + cells = A'.1.length → z0 + slots = A'.2 → W p l e R s m args below meth c H locs cells slots Q (F0 m pc ls st)) →
  W p l e R s m args below meth c H locs cells slots Q (F0 m pc ls st)
def am_Pre (A : am_A) (vs : List Value) : Array Value → State → Prop := va_Pc vs (fun U => am_Kn cl Ts D ca sb sL sx Xt U ∧ U.heap.size = bs + A.1.length ∧ va_P D cl (am_W bs ca A.1) U.heap)
def am_Post (v : Option Value) (A' : am_A) : Array Value → State → Outcome → State → Prop := fun _ st o t => o = .returned v ∧ va_P D cl (am_W bs ca A'.1) t.heap ∧ va_F (fun q => bs ≤ q) st t
abbrev am_rm (d mc ms : Nat) : Room := { frames := d, cells := mc, slots := ms, locals := d * 80 }
end AMX
section AMY
variable {l : Launch} {mth : Nat → Option am_T} {tbl : Nat → Nat → Option am_I} {cl : List vw_C} {nf : Nat → List FieldType} {Ts : List Jvm.Cond} {D : va_G} {ca : FieldType → ClassId} {bs sb sL : Nat} {sx : Nat → Int32} {sa : Nat} {sp : Nat → List Value → Option (Option Value)} {Xt : State → Heap → Prop} {stx : Nat → String → Prop} {slk : Nat → String → Instr → Nat → Prop}
theorem am_Kn_call (hX : am_okX bs Xt) {U : State} {g : JFrame} {mk : MethodId} {a : Array Value} (h : am_Kn cl Ts D ca sb sL sx Xt U) : am_Kn cl Ts D ca sb sL sx Xt (U.calling g mk a) :=
  ⟨va_K.moved (u := U) (U := U.calling g mk a) (Vm.Alike.refl U.vm) h.1, va_X.moved (u := U) (U := U.calling g mk a) (Vm.Alike.refl U.vm) h.2.1, hX U (U.calling g mk a) U.heap _ (Or.inl rfl) (fun _ _ => rfl) h.2.2.1, fun w hw hn => va_Nw.same (am_nst_tab hn) (u := U) (U := U.calling g mk a) rfl (h.2.2.2 w hw hn)⟩
theorem am_Kn_warm (hX : am_okX bs Xt) (hsb : sb < bs) {s U : State} (hW : s.WarmedH U.vm) (hq : ∀ q, q < bs → U.heap[q]? = s.heap[q]?) (h : am_Kn cl Ts D ca sb sL sx Xt s) : am_Kn cl Ts D ca sb sL sx Xt U :=
  ⟨va_K.moved hW.alike h.1, (va_X.moved hW.alike h.2.1).kept (hq sb hsb), hX s U s.heap U.heap (Or.inr hW) hq h.2.2.1, fun w hw hn => by
    have hz := h.2.2.2 w hw hn
    obtain ⟨a, i, b, n, d, o, rfl⟩ := am_nst_inv hn
    exact va_Nw.warmF hW hz⟩
set_option maxHeartbeats 4000000 in
/-- a contract of a method out of its run -/
theorem am_met_of (hg : am_good Ts) (hX : am_okX bs Xt) {f : Nat} (hw : am_Walk l mth tbl cl nf Ts D ca bs sb sL sx sa sp Xt f) {k d : Nat} {M : am_T} {vs : List Value} {A A' : am_A} {v : Option Value} (hM : mth k = some M) (okM : am_okM Ts M) (hv : (lg_sl vs).length ≤ M.2.2.1)
    (h : am_run bs nf sb sL sx mth tbl sa sp f d k 0 (lv_args 0 vs) [] A = some (v, A')) : Met l M.1 (Jvm.Cond.code M.1 M.2.1 M.2.2.1 M.2.2.2.1 :: Ts.filter goodWord) (am_rm d (A'.1.length - A.1.length) (A'.2 - A.2)) (am_Pre cl Ts D ca bs sb sL sx Xt A vs) (am_Post cl D ca bs v A') (A'.1.length - A.1.length) (A'.2 - A.2) (fun q => bs ≤ q) := by
  have hmono := am_run_mono _ _ _ _ _ _ _ _ _ h
  refine Met.ofW (cc := M.2.1) (maxL := M.2.2.1) (ret := M.2.2.2.1) okM.1 rfl ?_
  intro p e s m args below meth c s₁ B hml hpre
  obtain ⟨rfl, hK, hsz, hP⟩ := hpre
  have hts0 := atoms_spec (ws := Jvm.Cond.code M.1 M.2.1 M.2.2.1 M.2.2.2.1 :: Ts.filter goodWord) B.pre
  have hts : ∀ w ∈ Ts, w.before vs.toArray s = true := fun w hw => (hg w hw).elim (fun z => hts0 w (List.mem_cons_of_mem _ (List.mem_filter.mpr ⟨hw, z⟩))) (fun z => va_Nw.use (am_nst_tab z) (hK.2.2.2 w hw z))
  have hown : s.vm.findClass M.1.cls = some m.cls := findClass_of_methodNamed B.named
  have hlocks := B.notSynchronized
  have hr := B.returns
  have hx := B.exec
  have hb := B.bytes
  have hl := lv_entry vs (n := M.2.2.1) hv
  rw [lg_entry_eq]
  refine hw p e _ s m vs.toArray below meth c _ k d 0 M (lv_args 0 vs) [] A A' v _ s.heap [] 0 0 A.1.length A.2 hx hb hml hown hts (name_of_methodNamed B.named B.method).1 hK hM h hl hP va_S.rf hsz rfl rfl (Nat.le_refl _) (Nat.le_refl _) (by show A'.1.length ≤ A.1.length + (A'.1.length - A.1.length); omega) (by show A'.2 ≤ A.2 + (A'.2 - A.2); omega) ?_
  intro pc ls st H locs cells slots ins hd hrt hP1 hS hc1 hc2
  have e1 : cells = A'.1.length - A.1.length := by omega
  have e2 : slots = A'.2 - A.2 := by omega
  subst e1
  subst e2
  unfold am_rt at hrt
  split at hrt
  · split at hrt
    · split at hrt
      · rename_i x ty hret hf
        cases hrt
        exact W.zret hx hb (by rw [hr, hret]) (am_fit_ok hf).1 (fun t ht _ => ⟨rfl, by rw [ht]; exact hP1, hS.F ht⟩) hS.2.2 hd
      · cases hrt
    · cases hrt
  · split at hrt
    · split at hrt
      · rename_i x ty hret hf
        cases hrt
        have hty : ty = .long := by
          cases ty <;> first | rfl | (exact absurd hf (by simp [am_fit]))
        subst hty
        exact W.lret hx hb (by rw [hr, hret]) (fun t ht _ => ⟨rfl, by rw [ht]; exact hP1, hS.F ht⟩) hS.2.2 hd
      · cases hrt
    · cases hrt
  · split at hrt
    · split at hrt
      · rename_i x ty hret hf
        cases hrt
        have hty : (∃ n, ty = .object n) ∨ ∃ t, ty = .array t := by
          cases ty <;> first | exact Or.inl ⟨_, rfl⟩ | exact Or.inr ⟨_, rfl⟩ | (exact absurd hf (by simp [am_fit]))
        exact W.aret hx hb (by rw [hr, hret]) hty (Or.inr ⟨_, rfl⟩) (fun t ht _ => ⟨rfl, by rw [ht]; exact hP1, hS.F ht⟩) hS.2.2 hd
      · cases hrt
    · cases hrt
  · split at hrt
    · rename_i hret
      cases hrt
      exact W.vret hx hb (by rw [hr, hret]) (fun t ht _ => ⟨rfl, by rw [ht]; exact hP1, hS.F ht⟩) hS.2.2 hd
    · cases hrt
  · cases hrt
/-- behind a call -/
theorem am_callg {p : Program} {e : Env} {R : Room} {s : State} {m : MethodId} {args : Array Value} {below : List Frame} {meth : Method} {c : Code} {H : Heap} {locs : List Loc} {cells slots mc ms : Nat} {Q : State → Prop} {pc : Nat} {ls : Array Slot} {st0 rest : List Value} {av : Array Value} {v : Option Value} {A' : am_A}
    (hr : va_Run p l e R s m args below meth c H locs cells slots mc ms (F0 m pc ls st0) rest (am_Post cl D ca bs v A' av) (fun q => bs ≤ q)) (hS : va_S (fun q => bs ≤ q) s.heap H locs)
    (kk : ∀ (H1 : Heap) (locs1 : List Loc), va_P D cl (am_W bs ca A'.1) H1 → va_S (fun q => bs ≤ q) s.heap H1 locs1 → W p l e R s m args below meth c H1 locs1 (cells + mc) (slots + ms) Q (F0 m (pc + 3) ls (v.toList ++ rest))) : W p l e R s m args below meth c H locs cells slots Q (F0 m pc ls st0) := by
  intro T hT X
  obtain ⟨v', st₀, t, T', L, h0, X', hL, e1, e2, ⟨hv, hP, hz, hk⟩, st⟩ := hr T hT X
  cases hv
  rw [h0] at hz hk
  obtain ⟨t2, a1, b1⟩ := kk T'.heap (locs ++ L) (by rw [e1]; exact hP)
    ⟨Nat.le_trans hS.1 (by rw [e1]; exact hz), fun q h1 h2 => by rw [e1, hk q (Nat.lt_of_lt_of_le h1 hS.1) h2]; exact hS.2.1 q h1 h2, fun q hq => by
      rcases List.mem_append.mp hq with h | h
      · exact hS.2.2 q h
      · exact hL q h⟩ T' rfl X'
  exact ⟨t2, st t2 a1, b1⟩
theorem am_ca_inv {ins : Instr} {b : Nat} {st : List Value} {q : List Value × List Value} (h : am_ca ins b st = some q) : ((∃ i, ins = .invokestatic i) ∧ ∃ As, As.length = b ∧ q.1 = As ∧ st = As.reverse ++ q.2) ∨ ((∀ i, ins ≠ .invokestatic i) ∧ ∃ o As, As.length = b ∧ q.1 = .ref o :: As ∧ st = As.reverse ++ .ref o :: q.2) := by
  unfold am_ca at h
  split at h
  · split at h
    · rename_i hb
      cases h
      exact Or.inl ⟨⟨_, rfl⟩, _, by simp; omega, rfl, by simp⟩
    · cases h
  · rename_i hne
    split at h
    · rename_i o r hdr
      cases h
      refine Or.inr ⟨fun i z => hne i z, o, _, ?_, rfl, ?_⟩
      · have h1 : (st.drop b).length = r.length + 1 := by rw [hdr]; rfl
        simp at h1 ⊢
        omega
      · have h2 := List.take_append_drop b st
        rw [hdr] at h2
        simp [h2]
    · cases h
end AMY
end
section
/-! PART 05: WHAT THE ABSTRACT MACHINE RUNS, THE JVM RUNS -/
theorem am_kd7 {ins : Instr} {sw : List (Int32 × Nat)} (h : am_kd ins sw = 7) : am_ln ins = 3 ∧ am_kd ins [] = 7 := by
  unfold am_kd at h
  split at h <;> first | (cases h; done) | exact ⟨rfl, rfl⟩ | (split at h <;> cases h)
theorem am_kd4 {ins : Instr} {sw : List (Int32 × Nat)} (h : am_kd ins sw = 4) : (∃ d ps, ins = .lookupswitch d ps) ∨ ∃ d lo hi os, ins = .tableswitch d lo hi os := by
  unfold am_kd at h
  split at h <;> first | (cases h; done) | exact Or.inl ⟨_, _, rfl⟩ | exact Or.inr ⟨_, _, _, _, rfl⟩ | (split at h <;> cases h)
theorem am_kd8 {ins : Instr} {sw : List (Int32 × Nat)} (h : am_kd ins sw = 8) : ∃ i, ins = .ldc i ∧ ¬ sw.isEmpty = true := by
  unfold am_kd at h
  split at h <;> first | (cases h; done) | (split at h <;> first | (cases h; done) | exact ⟨_, rfl, by assumption⟩)
theorem am_kd0 {i : Nat} {sw : List (Int32 × Nat)} (h : am_kd (.ldc i) sw = 0) : sw.isEmpty = true := by
  by_cases hs : sw.isEmpty = true
  · exact hs
  · simp [am_kd, hs] at h
section AMZ
variable {l : Launch} {mth : Nat → Option am_T} {tbl : Nat → Nat → Option am_I} {cl : List vw_C} {nf : Nat → List FieldType} {Ts : List Jvm.Cond} {D : va_G} {ca : FieldType → ClassId} {bs sb sL : Nat} {sx : Nat → Int32} {sa : Nat} {sp : Nat → List Value → Option (Option Value)} {Xt : State → Heap → Prop} {stx : Nat → String → Prop} {slk : Nat → String → Instr → Nat → Prop}
variable {p : Program} {e : Env} {R : Room} {s : State} {m : MethodId} {args : Array Value} {below : List Frame} {meth : Method} {c : Code} {H : Heap} {locs : List Loc} {cells slots : Nat} {Q : State → Prop} {cc : ByteArray} {pc : Nat} {ls : Array Slot} {st : List Value} {ins : Instr}
set_option maxHeartbeats 1000000 in
theorem am_sw_ok {len a : Nat} {x : Int32} {sw : List (Int32 × Nat)} (hx : p.tables.exec = Jvm.exec) (hb : c.code = cc) (hdec : decode cc pc = .ok (ins, len)) (hkd : am_kd ins sw = 4) (hsw : am_swk ins len pc a sw)
    (K : W p l e R s m args below meth c H locs cells slots Q (F0 m (am_sw x sw a) ls st)) : W p l e R s m args below meth c H locs cells slots Q (F0 m pc ls (.int x :: st)) := by
  rcases am_kd4 hkd with ⟨d, ps, rfl⟩ | ⟨dd, lo, hi, os, rfl⟩
  · obtain ⟨s1, s2, s3⟩ := hsw
    exact lv_lookup hx hb hdec s1 rfl (am_swl_ok s2 x _ _ s3) K
  · obtain ⟨s1, s2, s3⟩ := hsw
    obtain ⟨i1, i2⟩ := am_swr_ok (a := a) x _ _ _ s2
    by_cases hin : x.toInt < lo ∨ hi < x.toInt
    · have e1 := i1 (by omega)
      rw [e1] at K
      exact lv_tableOut hx hb hdec hin s1 K
    · have hj : (x.toInt - lo).toNat < os.toList.length := by omega
      have ho : os[(x.toInt - lo).toNat]? = some os.toList[(x.toInt - lo).toNat] := by
        rw [← Array.getElem?_toList, List.getElem?_eq_getElem hj]
      exact lv_tableIn hx hb hdec (fun z => hin (Or.inl z)) (fun z => hin (Or.inr z)) ho (i2 (x.toInt - lo).toNat _ (by omega) (List.getElem?_eq_getElem hj)) K
set_option maxHeartbeats 2000000 in
/-- a call of a method of the tables -/
theorem am_call_ok {own : String} {b d n0 nL : Nat} {N : am_T} {q : List Value × List Value} {A A1 : am_A} {v : Option Value} (hg : am_good Ts) (okM : am_okM Ts N) (hX : am_okX bs Xt) (hsb : sb < bs) (hx : p.tables.exec = Jvm.exec) (hb : c.code = cc) (hml : c.maxLocals = nL) (hls : ls.size = nL) (hown : s.vm.findClass own = some m.cls) (hts : ∀ w ∈ Ts, w.before args s = true) (hK : am_Kn cl Ts D ca sb sL sx Xt s)
    (hMet : Met l N.1 (Jvm.Cond.code N.1 N.2.1 N.2.2.1 N.2.2.2.1 :: Ts.filter goodWord) (am_rm d (A1.1.length - A.1.length) (A1.2 - A.2)) (am_Pre cl Ts D ca bs sb sL sx Xt A q.1) (am_Post cl D ca bs v A1) (A1.1.length - A.1.length) (A1.2 - A.2) (fun q => bs ≤ q))
    (hpar : (parseMethodDescriptor N.1.desc).map (fun d => d.parameters.length) = some b) (hlc : (match ins with
      | .invokevirtual i => Jvm.Cond.methodLink own i N.1 ∈ Ts ∧ Jvm.Cond.instanceMethod N.1 ∈ Ts ∧ Jvm.Cond.selects N.1.cls N.1 N.1 ∈ Ts ∧ ∃ (T : u_T) (n : Nat), cl[N.2.2.2.2]? = some (N.1.cls, T, n)
      | .invokespecial i => Jvm.Cond.methodLink own i N.1 ∈ Ts ∧ Jvm.Cond.instanceMethod N.1 ∈ Ts ∧ N.1.name = "<init>" ∧ N.2.2.2.1 = none
      | .invokestatic i => Jvm.Cond.methodLink own i N.1 ∈ Ts ∧ Jvm.Cond.static N.1 ∈ Ts
      | _ => False)) (hdec : decode cc pc = .ok (ins, 3)) (h1 : am_ca ins b st = some q) (hrc : am_rc bs ins A q.1 N.2.2.2.2 = true) (hcat : (q.2.map fun v => v.category).sum ≤ 8) (hP : va_P D cl (am_W bs ca A.1) H) (hS : va_S (fun q => bs ≤ q) s.heap H locs) (h0 : s.heap.size = bs + n0) (hn : n0 + cells = A.1.length)
    (hf : cells + (A1.1.length - A.1.length) ≤ R.cells ∧ slots + (A1.2 - A.2) ≤ R.slots) (hd1 : d + 1 ≤ R.frames) (hd2 : (d + 1) * 80 ≤ R.locals)
    (K2 : ∀ (H1 : Heap) (locs1 : List Loc), va_P D cl (am_W bs ca A1.1) H1 → va_S (fun q => bs ≤ q) s.heap H1 locs1 → W p l e R s m args below meth c H1 locs1 (cells + (A1.1.length - A.1.length)) (slots + (A1.2 - A.2)) Q (F0 m (pc + 3) ls (v.toList ++ q.2))) : W p l e R s m args below meth c H locs cells slots Q (F0 m pc ls st) := by
  obtain ⟨k1, k2, k3, k4, k5⟩ := okM
  have hG : GoodIn Ts (Jvm.Cond.code N.1 N.2.1 N.2.2.1 N.2.2.2.1 :: Ts.filter goodWord) := fun x hxm => by
    rcases List.mem_cons.mp hxm with rfl | hxm
    · exact ⟨k3, (hg _ k3).elim good_of_word (fun z => by cases z)⟩
    · exact ⟨(List.mem_filter.mp hxm).1, good_of_word (List.mem_filter.mp hxm).2⟩
  have hroom : (am_rm d (A1.1.length - A.1.length) (A1.2 - A.2)).frames + 1 ≤ R.frames ∧ 8 + (N.2.2.1 + 11) + (am_rm d (A1.1.length - A.1.length) (A1.2 - A.2)).locals ≤ R.locals := ⟨hd1, by show 8 + (N.2.2.1 + 11) + d * 80 ≤ R.locals; omega⟩
  have hbl : FrameBlind (am_Pre cl Ts D ca bs sb sL sx Xt A q.1) := fun a' U g mk z => ⟨z.1, am_Kn_call hX z.2.1, z.2.2.1, z.2.2.2⟩
  refine am_sz (fun _ hs2 => ?_)
  have hHs : H.size = bs + A.1.length := by
    have h9 : bs + A.1.length ≤ H.size := by
      rcases Nat.eq_zero_or_pos A.1.length with z | z
      · have := hS.1; omega
      · have := am_P_lt hP (i := A.1.length - 1) (by omega); omega
    omega
  have hpre : ∀ U : State, U.heap = H → s.WarmedH U.vm → am_Pre cl Ts D ca bs sb sL sx Xt A q.1 q.1.toArray U := fun U hU hW =>
    ⟨rfl, am_Kn_warm hX hsb hW (fun x hx' => by rw [hU]; exact hS.2.1 x (by omega) (Nat.not_le.mpr hx')) hK, by rw [hU]; exact hHs, by rw [hU]; exact hP⟩
  rcases am_ca_inv h1 with ⟨⟨i, rfl⟩, As, hAs, hq1, rfl⟩ | ⟨hne, o, As, hAs, hq1, rfl⟩
  · obtain ⟨l1, l2⟩ := hlc
    rw [hq1] at hMet hpre hbl
    have hB : CallB R s args own i N.1 N.2.1 N.2.2.1 N.2.2.2.1 (Jvm.Cond.code N.1 N.2.1 N.2.2.1 N.2.2.2.1 :: Ts.filter goodWord) (am_rm d (A1.1.length - A.1.length) (A1.2 - A.2)) (A1.1.length - A.1.length) (A1.2 - A.2) b := callB_of b hts hG rfl rfl rfl (hts _ k4) (hts _ l1) ⟨k2.1, k2.2, hpar⟩ hroom
    exact am_callg (va_runS (own := own) (As := As) (rest := q.2) ⟨hx, hb, hml, hown, hts⟩ hMet ⟨hB, hts _ l2⟩ ⟨hbl, hpre⟩ rfl hAs hls rfl (lv_room hcat) hdec hf) hS K2
  · rw [hq1] at hMet hpre hbl hrc
    split at hlc
    · rename_i i
      obtain ⟨l1, l2, l3, T, n, l4⟩ := hlc
      obtain ⟨fs, hob⟩ : ∃ fs, am_ob bs A o N.2.2.2.2 = some fs := Option.isSome_iff_exists.mp hrc
      have hB : CallB R s args own i N.1 N.2.1 N.2.2.1 N.2.2.2.1 (Jvm.Cond.code N.1 N.2.1 N.2.2.1 N.2.2.2.1 :: Ts.filter goodWord) (am_rm d (A1.1.length - A.1.length) (A1.2 - A.2)) (A1.1.length - A.1.length) (A1.2 - A.2) b := callB_of b hts hG rfl rfl rfl (hts _ k4) (hts _ l1) ⟨k2.1, k2.2, hpar⟩ hroom
      exact am_callg (va_runV (own := own) (C := N.1.cls) (As := As) (rest := q.2) ⟨hx, hb, hml, hown, hts⟩ hMet ⟨hB, hts _ l2, hts _ l3⟩ ⟨hbl, va_recv hK.1 hP l4 (am_W_at (ca := ca) (am_ob_inv hob)).1, hpre⟩ rfl hAs hls rfl (lv_room hcat) hdec hf) hS K2
    · rename_i i
      obtain ⟨l1, l2, l3, l4⟩ := hlc
      obtain ⟨y, by2, mL, rt, ci⟩ := N
      dsimp only at l4
      subst l4
      have hB : CallB R s args own i y by2 mL none (Jvm.Cond.code y by2 mL none :: Ts.filter goodWord) (am_rm d (A1.1.length - A.1.length) (A1.2 - A.2)) (A1.1.length - A.1.length) (A1.2 - A.2) b := callB_of b hts hG rfl rfl rfl (hts _ k4) (hts _ l1) ⟨k2.1, k2.2, hpar⟩ hroom
      exact am_callg (va_runI (own := own) (As := As) (rest := q.2) ⟨hx, hb, hml, hown, hts⟩ hMet ⟨hB, l3, hts _ l2⟩ ⟨hbl, hpre⟩ rfl hAs hls rfl (lv_room hcat) hdec hf) hS K2
    · exact absurd rfl (hne _)
    · exact hlc.elim
end AMZ
section AMV
variable {l : Launch} {mth : Nat → Option am_T} {tbl : Nat → Nat → Option am_I} {cl : List vw_C} {nf : Nat → List FieldType} {Ts : List Jvm.Cond} {D : va_G} {ca : FieldType → ClassId} {bs sb sL : Nat} {sx : Nat → Int32} {sa : Nat} {sp : Nat → List Value → Option (Option Value)} {Xt : State → Heap → Prop} {stx : Nat → String → Prop} {slk : Nat → String → Instr → Nat → Prop}
set_option maxHeartbeats 2000000 in
theorem am_walk (okC : am_okC cl nf Ts) (hg : am_good Ts) (okI : ∀ k M pc I, mth k = some M → tbl k pc = some I → am_okI mth cl Ts stx slk M pc I) (hX : am_okX bs Xt) (hT : am_okT l sa Xt stx) (hSp : am_okS l Ts bs sp Xt slk) (hsb : sb < bs) : ∀ f, am_Walk l mth tbl cl nf Ts D ca bs sb sL sx sa sp Xt f := by
  intro f
  induction f with
  | zero =>
    intro p e R s m args below meth c Q k d pc M lv st A A' v ls H locs cells slots n0 z0 _ _ _ _ _ _ _ _ h
    simp [am_run] at h
  | succ f ih =>
    intro p e R s m args below meth c Q k d pc M lv st A A' v ls H locs cells slots n0 z0 hx hb hml hown hts hmn hK hM h hl hP hS h0 hn hz hd1 hd2 hR1 hR2 kk
    have hmono := am_run_mono _ _ _ _ _ _ _ _ _ h
    rw [am_run] at h
    obtain ⟨M', hM', h⟩ := Option.bind_eq_some_iff.mp h
    obtain rfl : M = M' := Option.some.inj (hM.symm.trans hM')
    obtain ⟨I, hI, h⟩ := Option.bind_eq_some_iff.mp h
    obtain ⟨hdec, hlen, hkc, htg, hsw, hlk, hlc⟩ := okI k M pc I hM hI
    obtain ⟨ins, len, a, b, cI, sw⟩ := I
    dsimp only at hdec hlen hkc htg hsw hlk hlc h
    clear hM' hI okI
    split at h
    · -- the stack
      rename_i hkd
      have hln : len = am_ln ins := hlen.resolve_left (by rw [hkd]; decide)
      subst hln
      obtain ⟨q, h1, h2⟩ := Option.bind_eq_some_iff.mp h
      refine am_sk_ok (own := M.1.cls) hx hb hown ?_ h1 hdec (ih p e R s m args below meth c Q k d _ M lv q A A' v ls H locs cells slots n0 z0 hx hb hml hown hts hmn hK hM h2 hl hP hS h0 hn hz hd1 hd2 hR1 hR2 kk)
      unfold am_kc
      unfold am_kct at hkc
      split
      · dsimp only at hkc
        rw [if_pos (am_kd0 hkd)] at hkc
        exact hts _ hkc
      · exact hts _ hkc
      · exact hts _ hkc
      · trivial
    · -- a local is read
      rename_i hkd
      have hln : len = am_ln ins := hlen.resolve_left (by rw [hkd]; decide)
      subst hln
      obtain ⟨q, h1, h2⟩ := Option.bind_eq_some_iff.mp h
      exact am_lo_ok hx hb hl h1 hdec (ih p e R s m args below meth c Q k d _ M lv _ A A' v ls H locs cells slots n0 z0 hx hb hml hown hts hmn hK hM h2 hl hP hS h0 hn hz hd1 hd2 hR1 hR2 kk)
    · -- a local is written
      rename_i hkd
      have hln : len = am_ln ins := hlen.resolve_left (by rw [hkd]; decide)
      subst hln
      obtain ⟨q, h1, h2⟩ := Option.bind_eq_some_iff.mp h
      exact am_so_ok hx hb hl h1 hdec (fun ls' hl' => ih p e R s m args below meth c Q k d _ M _ _ A A' v ls' H locs cells slots n0 z0 hx hb hml hown hts hmn hK hM h2 hl' hP hS h0 hn hz hd1 hd2 hR1 hR2 kk)
    · -- a branch
      rename_i hkd
      have hln : len = am_ln ins := hlen.resolve_left (by rw [hkd]; decide)
      subst hln
      obtain ⟨q, h1, h2⟩ := Option.bind_eq_some_iff.mp h
      exact am_br_ok hx hb htg h1 hdec (ih p e R s m args below meth c Q k d _ M lv _ A A' v ls H locs cells slots n0 z0 hx hb hml hown hts hmn hK hM h2 hl hP hS h0 hn hz hd1 hd2 hR1 hR2 kk)
    · -- a switch
      rename_i hkd
      obtain ⟨q, h1, h2⟩ := Option.bind_eq_some_iff.mp h
      have hst : st = .int q.1 :: q.2 := by
        unfold am_st1 at h1
        split at h1
        · cases h1; rfl
        · cases h1
      subst hst
      exact am_sw_ok hx hb hdec hkd hsw (ih p e R s m args below meth c Q k d _ M lv _ A A' v ls H locs cells slots n0 z0 hx hb hml hown hts hmn hK hM h2 hl hP hS h0 hn hz hd1 hd2 hR1 hR2 kk)
    · -- the heap
      rename_i hkd
      have hln : len = am_ln ins := hlen.resolve_left (by rw [hkd]; decide)
      subst hln
      obtain ⟨q, h1, h2⟩ := Option.bind_eq_some_iff.mp h
      have hm2 := am_run_mono _ _ _ _ _ _ _ _ _ h2
      exact am_hp_ok (st' := q.1) (A' := q.2) okC hx hb hown hts hK.1 hK.2.1 hsb (by rw [hmn]; exact hlk) h1 hdec hP hS h0 hn hz (Nat.le_trans hm2.1 hR1) (Nat.le_trans hm2.2 hR2) (fun H' locs' cells' slots' hP' hS' hn' hz' => ih p e R s m args below meth c Q k d _ M lv _ _ A' v ls H' locs' cells' slots' n0 z0 hx hb hml hown hts hmn hK hM h2 hl hP' hS' h0 hn' hz' hd1 hd2 hR1 hR2 kk)
    · -- the end
      rename_i hkd
      have hln : len = am_ln ins := hlen.resolve_left (by rw [hkd]; decide)
      subst hln
      obtain ⟨q, h1, h2⟩ := Option.map_eq_some_iff.mp h
      cases h2
      exact kk pc ls st H locs cells slots ins hdec h1 hP hS hn hz
    · -- a call
      rename_i hkd
      obtain ⟨hl3, hkd0⟩ := am_kd7 hkd
      have hln : len = 3 := (hlen.resolve_left (by rw [hkd]; decide)).trans hl3
      subst hln
      unfold am_lc at hlc
      rw [if_pos hkd0] at hlc
      obtain ⟨q, h1, h2⟩ := Option.bind_eq_some_iff.mp h
      by_cases hcat : ¬ (q.2.map fun v => v.category).sum ≤ 8
      · rw [if_pos hcat] at h2; cases h2
      · rw [if_neg hcat] at h2
        have hcat := Decidable.not_not.mp hcat
        cases d with
        | zero => cases h2
        | succ d' =>
          dsimp only at h2
          by_cases ha : a = 10000
          · rw [if_pos ha] at h2 hlc
            obtain ⟨hb0, i, rfl, l1, l2, l3⟩ := hlc
            subst hb0
            rcases am_ca_inv h1 with ⟨⟨i', hi'⟩, _⟩ | ⟨_, o, As, hAs, hq1, hst⟩
            · cases hi'
            · have hAs0 : As = [] := List.length_eq_zero_iff.mp hAs
              subst hAs0
              have hst' : st = .ref o :: q.2 := hst
              subst hst'
              have hrm := lv_room (m := m) (pc := pc) (ls := ls) (rest := .ref o :: q.2) hcat
              exact W.objInit hx hb hown (hts _ l1) (hts _ l2) (hts _ l3) (g := F0 m pc ls (.ref o :: q.2)) rfl (by rw [hml]; exact hl.1) rfl hdec (by omega) (by omega) (ih p e R s m args below meth c Q k (d' + 1) _ M lv _ A A' v ls H locs cells slots n0 z0 hx hb hml hown hts hmn hK hM h2 hl hP hS h0 hn hz hd1 hd2 hR1 hR2 kk)
          · rw [if_neg ha] at h2 hlc
            by_cases ha2 : 10000 < a
            · rw [if_pos ha2] at h2 hlc
              by_cases hd8 : d' < 8
              · rw [if_pos hd8] at h2; cases h2
              · rw [if_neg hd8] at h2
                obtain ⟨w, h3, h4⟩ := Option.bind_eq_some_iff.mp h2
                exact hSp p e R s m args below meth c H locs cells slots Q M.2.1 pc M.2.2.1 ls st M.1.cls ins a b q w hx hb hml hl.1 hown hts hK.2.2.1 hlc h1 hcat h3 hdec hS (by omega) (by omega) (by omega) (by omega) (by omega) (ih p e R s m args below meth c Q k (d' + 1) _ M lv _ A A' v ls H locs cells slots n0 z0 hx hb hml hown hts hmn hK hM h4 hl hP hS h0 hn hz hd1 hd2 hR1 hR2 kk)
            · rw [if_neg ha2] at h2 hlc
              obtain ⟨N, h3, h4⟩ := Option.bind_eq_some_iff.mp h2
              obtain ⟨okM, hpar, hlc⟩ := hlc N h3
              by_cases hrc : am_rc bs ins A q.1 N.2.2.2.2 = true ∧ (lg_sl q.1).length ≤ N.2.2.1
              · rw [if_pos hrc] at h4
                obtain ⟨w, h5, h6⟩ := Option.bind_eq_some_iff.mp h4
                have mo1 := am_run_mono _ _ _ _ _ _ _ _ _ h5
                have mo2 := am_run_mono _ _ _ _ _ _ _ _ _ h6
                have hMet := am_met_of (l := l) (mth := mth) (tbl := tbl) (cl := cl) (nf := nf) (Ts := Ts) (D := D) (ca := ca) (bs := bs) (sb := sb) (sL := sL) (sx := sx) (sa := sa) (sp := sp) (Xt := Xt) hg hX ih h3 okM hrc.2 h5
                exact am_call_ok (own := M.1.cls) (nL := M.2.2.1) (n0 := n0) hg okM hX hsb hx hb hml hl.1 hown hts hK hMet hpar hlc hdec h1 hrc.1 hcat hP hS h0 hn ⟨by omega, by omega⟩ hd1 hd2 (fun H1 locs1 hP1 hS1 =>
                  ih p e R s m args below meth c Q k (d' + 1) _ M lv _ w.2 A' v ls H1 locs1 _ _ n0 z0 hx hb hml hown hts hmn hK hM h6 hl hP1 hS1 h0 (by omega) (by omega) hd1 hd2 hR1 hR2 kk)
              · rw [if_neg hrc] at h4; cases h4
    · -- a text
      rename_i hkd
      obtain ⟨i, rfl, hs⟩ := am_kd8 hkd
      have hln : len = 2 := hlen.resolve_left (by rw [hkd]; decide)
      subst hln
      have K := ih p e R s m args below meth c Q k d _ M lv _ A A' v ls H locs cells slots n0 z0 hx hb hml hown hts hmn hK hM h hl hP hS h0 hn hz hd1 hd2 hR1 hR2 kk
      unfold am_kct at hkc
      dsimp only at hkc
      rw [if_neg hs] at hkc
      exact hT p e R s m args below meth c H locs cells slots Q M.2.1 pc ls st M.1.cls i hx hb hown hK.2.2.1 hkc hdec K
    · cases h
end AMV
end
