/-! THE ABSTRACT MACHINE: a small machine over cells, into which every method's bytecode is read; what it does, the JVM does (am_walk, am_met, part 02). -/
/-- a cell: an array (its type, length and contents), or an object (its class's number, its fields) -/
abbrev am_E : Type := (FieldType × vp_A) ⊕ (Nat × List Value)
/-- the cells that were made since the beginning, in their order; how many slots they have -/
abbrev am_A : Type := List am_E × Nat
abbrev am_L : Type := List (Nat × Value)
/-- an instruction, its length, three numbers that resolve it, a switch's cases -/
abbrev am_I : Type := Instr × Nat × Nat × Nat × Nat × List (Int32 × Nat)
/-- a method: its name, code, locals, answer's type, its class's number -/
abbrev am_T : Type := MethodName × ByteArray × Nat × Option FieldType × Nat
def am_ld (lv : am_L) (i : Nat) : Option Value := (lv.find? (fun q => q.1 == i)).map (fun q => q.2)
def am_s1 (nL : Nat) (lv : am_L) (i : Nat) (v : Value) : Option am_L := if i < nL then some ((i, v) :: lv.filter (fun q => !(q.1 == i) && !(q.1 + 1 == i && q.2.category == 2))) else none
def am_s2 (nL : Nat) (lv : am_L) (i : Nat) (v : Value) : Option am_L := if i + 1 < nL then some ((i, v) :: lv.filter (fun q => !(q.1 == i) && (!(q.1 == i + 1) && !(q.1 + 1 == i && q.2.category == 2)))) else none
def am_i1 (st : List Value) (f : Int32 → Option Value) : Option (List Value) := match st with
  | .int x :: r => (f x).map (fun v => v :: r)
  | _ => none
def am_l1 (st : List Value) (f : Int64 → Option Value) : Option (List Value) := match st with
  | .long x :: r => (f x).map (fun v => v :: r)
  | _ => none
def am_ii (st : List Value) (f : Int32 → Int32 → Option Value) : Option (List Value) := match st with
  | .int y :: .int x :: r => (f x y).map (fun v => v :: r)
  | _ => none
def am_ll (st : List Value) (f : Int64 → Int64 → Option Value) : Option (List Value) := match st with
  | .long y :: .long x :: r => (f x y).map (fun v => v :: r)
  | _ => none
def am_li (st : List Value) (f : Int64 → Int32 → Option Value) : Option (List Value) := match st with
  | .int y :: .long x :: r => (f x y).map (fun v => v :: r)
  | _ => none
def am_dup (st : List Value) : Option (List Value) := match st with
  | v :: r => if v.category = 1 then some (v :: v :: r) else none
  | _ => none
def am_pop (st : List Value) : Option (List Value) := match st with
  | v :: r => if v.category = 1 then some r else none
  | _ => none
def am_dup2 (st : List Value) : Option (List Value) := match st with
  | v :: w :: r => if v.category = 1 ∧ w.category = 1 then some (v :: w :: v :: w :: r) else none
  | _ => none
/-- what moves on the stack alone -/
def am_sk (ins : Instr) (a : Nat) (st : List Value) : Option (List Value) := match ins with
  | .iconst n => some (.int (Int32.ofInt n) :: st)
  | .bipush n => some (.int (Int8.ofInt n).toInt32 :: st)
  | .sipush n => some (.int (Int16.ofInt n).toInt32 :: st)
  | .lconst n => some (.long (Int64.ofNat (n : Nat)) :: st)
  | .ldc _ => some (.int (Int32.ofNat a) :: st)
  | .ldc_w _ => some (.int (Int32.ofNat a) :: st)
  | .ldc2_w _ => some (.long (Int64.ofNat a) :: st)
  | .iadd => am_ii st fun x y => some (.int (x + y))
  | .isub => am_ii st fun x y => some (.int (x - y))
  | .imul => am_ii st fun x y => some (.int (x * y))
  | .iand => am_ii st fun x y => some (.int (x &&& y))
  | .ior => am_ii st fun x y => some (.int (x ||| y))
  | .ishl => am_ii st fun x y => some (.int (x <<< (y &&& 31)))
  | .ishr => am_ii st fun x y => some (.int (x >>> (y &&& 31)))
  | .idiv => am_ii st fun x y => if y = 0 then none else some (.int (x / y))
  | .irem => am_ii st fun x y => if y = 0 then none else some (.int (x - x / y * y))
  | .ineg => am_i1 st fun x => some (.int (-x))
  | .i2l => am_i1 st fun x => some (.long x.toInt64)
  | .i2b => am_i1 st fun x => some (.int x.toInt8.toInt32)
  | .l2i => am_l1 st fun x => some (.int x.toInt32)
  | .lneg => am_l1 st fun x => some (.long (-x))
  | .lmul => am_ll st fun x y => some (.long (x * y))
  | .land => am_ll st fun x y => some (.long (x &&& y))
  | .lor => am_ll st fun x y => some (.long (x ||| y))
  | .ldiv => am_ll st fun x y => if y = 0 then none else some (.long (x / y))
  | .lrem => am_ll st fun x y => if y = 0 then none else some (.long (x - x / y * y))
  | .lcmp => am_ll st fun x y => some (.int (lg_cmp x y))
  | .lshl => am_li st fun x y => some (.long (x <<< (y.toInt64 &&& 63)))
  | .lshr => am_li st fun x y => some (.long (x >>> (y.toInt64 &&& 63)))
  | .dup => am_dup st
  | .pop => am_pop st
  | .dup2 => am_dup2 st
  | _ => none
def am_gi (o : Option Value) : Option Value := match o with
  | some (.int x) => some (.int x)
  | _ => none
def am_gl (o : Option Value) : Option Value := match o with
  | some (.long x) => some (.long x)
  | _ => none
def am_ga (o : Option Value) : Option Value := match o with
  | some (.ref x) => some (.ref x)
  | _ => none
def am_lo (ins : Instr) (lv : am_L) : Option Value := match ins with
  | .iload i => am_gi (am_ld lv i)
  | .iload_n k => am_gi (am_ld lv (k : Nat))
  | .lload i => am_gl (am_ld lv i)
  | .lload_n k => am_gl (am_ld lv (k : Nat))
  | .aload i => am_ga (am_ld lv i)
  | .aload_n k => am_ga (am_ld lv (k : Nat))
  | _ => none
def am_si (nL : Nat) (lv : am_L) (st : List Value) (i : Nat) : Option (am_L × List Value) := match st with
  | .int x :: r => (am_s1 nL lv i (.int x)).map (fun q => (q, r))
  | _ => none
def am_sl (nL : Nat) (lv : am_L) (st : List Value) (i : Nat) : Option (am_L × List Value) := match st with
  | .long x :: r => (am_s2 nL lv i (.long x)).map (fun q => (q, r))
  | _ => none
def am_sa (nL : Nat) (lv : am_L) (st : List Value) (i : Nat) : Option (am_L × List Value) := match st with
  | .ref x :: r => (am_s1 nL lv i (.ref x)).map (fun q => (q, r))
  | _ => none
def am_inc (nL : Nat) (lv : am_L) (st : List Value) (i : Nat) (n : Int) : Option (am_L × List Value) := match am_ld lv i with
  | some (.int x) => (am_s1 nL lv i (.int (x + Int32.ofInt n))).map (fun q => (q, st))
  | _ => none
def am_so (ins : Instr) (nL : Nat) (lv : am_L) (st : List Value) : Option (am_L × List Value) := match ins with
  | .istore i => am_si nL lv st i
  | .istore_n k => am_si nL lv st (k : Nat)
  | .lstore i => am_sl nL lv st i
  | .lstore_n k => am_sl nL lv st (k : Nat)
  | .astore i => am_sa nL lv st i
  | .astore_n k => am_sa nL lv st (k : Nat)
  | .iinc i n => am_inc nL lv st i n
  | _ => none
def am_cnd (c : Jvm.ClassFile.Cond) (x y : Int32) : Bool := match c with
  | .eq => decide (x = y)
  | .ne => decide (¬ x = y)
  | .lt => decide (x < y)
  | .ge => decide (y ≤ x)
  | .gt => decide (y < x)
  | .le => decide (x ≤ y)
def am_b1 (st : List Value) (c : Jvm.ClassFile.Cond) : Option (Bool × List Value) := match st with
  | .int x :: r => some (am_cnd c x 0, r)
  | _ => none
def am_b2 (st : List Value) (c : Jvm.ClassFile.Cond) : Option (Bool × List Value) := match st with
  | .int y :: .int x :: r => some (am_cnd c x y, r)
  | _ => none
def am_br (ins : Instr) (st : List Value) : Option (Bool × List Value) := match ins with
  | .goto _ => some (true, st)
  | .ifCond c _ => am_b1 st c
  | .if_icmp c _ => am_b2 st c
  | _ => none
def am_sw (x : Int32) (sw : List (Int32 × Nat)) (a : Nat) : Nat := ((sw.find? (fun q => q.1 == x)).map (fun q => q.2)).getD a
def am_st1 (st : List Value) : Option (Int32 × List Value) := match st with
  | .int x :: r => some (x, r)
  | _ => none
def am_fit (ty : FieldType) (v : Value) : Bool := match v with
  | .int x => (match ty with
    | .int => true
    | .boolean => x == 0 || x == 1
    | _ => false)
  | .long _ => (match ty with
    | .long => true
    | _ => false)
  | .ref _ => (match ty with
    | .object _ => true
    | .array _ => true
    | _ => false)
  | _ => false
def am_rt (ins : Instr) (ret : Option FieldType) (st : List Value) : Option (Option Value) := match ins with
  | .ireturn => (match st, ret with
    | [.int x], some ty => if am_fit ty (.int x) = true then some (some (.int x)) else none
    | _, _ => none)
  | .lreturn => (match st, ret with
    | [.long x], some ty => if am_fit ty (.long x) = true then some (some (.long x)) else none
    | _, _ => none)
  | .areturn => (match st, ret with
    | [.ref x], some ty => if am_fit ty (.ref x) = true then some (some (.ref x)) else none
    | _, _ => none)
  | .return_ => (match st, ret with
    | [], none => some none
    | _, _ => none)
  | _ => none
/-- which kind of step an instruction is: 0 the stack, 1 a local is read, 2 one is written, 3 a branch, 4 a switch, 5 the heap, 6 the end, 7 a call, 8 a text -/
def am_kd (ins : Instr) (sw : List (Int32 × Nat)) : Nat := match ins with
  | .ldc _ => if sw.isEmpty then 0 else 8
  | .iload _ => 1
  | .iload_n _ => 1
  | .lload _ => 1
  | .lload_n _ => 1
  | .aload _ => 1
  | .aload_n _ => 1
  | .istore _ => 2
  | .istore_n _ => 2
  | .lstore _ => 2
  | .lstore_n _ => 2
  | .astore _ => 2
  | .astore_n _ => 2
  | .iinc _ _ => 2
  | .goto _ => 3
  | .ifCond _ _ => 3
  | .if_icmp _ _ => 3
  | .tableswitch _ _ _ _ => 4
  | .lookupswitch _ _ => 4
  | .getfield _ => 5
  | .putfield _ => 5
  | .new _ => 5
  | .newarray _ => 5
  | .arraylength => 5
  | .iaload => 5
  | .laload => 5
  | .baload => 5
  | .iastore => 5
  | .lastore => 5
  | .bastore => 5
  | .ireturn => 6
  | .lreturn => 6
  | .areturn => 6
  | .return_ => 6
  | .invokevirtual _ => 7
  | .invokespecial _ => 7
  | .invokestatic _ => 7
  | _ => 0
/-- the lengths of the instructions -/
def am_ln (ins : Instr) : Nat := match ins with
  | .bipush _ => 2
  | .sipush _ => 3
  | .ldc _ => 2
  | .ldc_w _ => 3
  | .ldc2_w _ => 3
  | .iload _ => 2
  | .lload _ => 2
  | .aload _ => 2
  | .istore _ => 2
  | .lstore _ => 2
  | .astore _ => 2
  | .iinc _ _ => 3
  | .goto _ => 3
  | .ifCond _ _ => 3
  | .if_icmp _ _ => 3
  | .getfield _ => 3
  | .putfield _ => 3
  | .new _ => 3
  | .newarray _ => 2
  | .invokevirtual _ => 3
  | .invokespecial _ => 3
  | .invokestatic _ => 3
  | _ => 1
section AMH
variable (bs : Nat) (nf : Nat → List FieldType) (sb sL : Nat) (sx : Nat → Int32)
def am_at (A : am_A) (o : Nat) : Option am_E := if bs ≤ o then A.1[o - bs]? else none
def am_up (A : am_A) (o : Nat) (e : am_E) : am_A := (A.1.set (o - bs) e, A.2)
def am_ob (A : am_A) (o ci : Nat) : Option (List Value) := match am_at bs A o with
  | some (.inr q) => if q.1 = ci then some q.2 else none
  | _ => none
def am_ia (A : am_A) (o : Nat) (ty : FieldType) : Option (Nat × (Nat → Int32)) := match am_at bs A o with
  | some (.inl (t, n, .inl f)) => if t = ty then some (n, f) else none
  | _ => none
def am_la (A : am_A) (o : Nat) : Option (Nat × (Nat → Int64)) := match am_at bs A o with
  | some (.inl (t, n, .inr (.inl f))) => if t = .long then some (n, f) else none
  | _ => none
def am_al (A : am_A) (o : Nat) : Option Nat := match am_at bs A o with
  | some (.inl (t, n, _)) => if t = .int ∨ t = .long ∨ t = .byte ∨ t = .boolean then some n else none
  | _ => none
def am_na (t : ArrayType) (n : Nat) : Option (FieldType × vp_A) := match t with
  | .int => some (.int, n, .inl (fun _ => 0))
  | .long => some (.long, n, .inr (.inl (fun _ => 0)))
  | .byte => some (.byte, n, .inl (fun _ => 0))
  | .boolean => some (.boolean, n, .inl (fun _ => 0))
  | _ => none
def am_get (a b : Nat) (st : List Value) (A : am_A) : Option (List Value × am_A) := match st with
  | .ref o :: r => (am_ob bs A o a).bind fun fs => (fs[b]?).map fun v => (v :: r, A)
  | _ => none
def am_put (a b : Nat) (st : List Value) (A : am_A) : Option (List Value × am_A) := match st with
  | v :: .ref o :: r => (am_ob bs A o a).bind fun fs => if b < fs.length ∧ am_fit ((nf a).getD b .int) v = true then some (r, am_up bs A o (.inr (a, fs.set b v))) else none
  | _ => none
def am_new (a : Nat) (st : List Value) (A : am_A) : Option (List Value × am_A) :=
  some (.ref (bs + A.1.length) :: st, (A.1 ++ [.inr (a, (nf a).map defaultValue)], A.2 + (nf a).length))
def am_nwa (t : ArrayType) (st : List Value) (A : am_A) : Option (List Value × am_A) := match st with
  | .int n :: r => if n < 0 ∨ 60000000 < n.toNatClampNeg then none else (am_na t n.toNatClampNeg).map fun x => (.ref (bs + A.1.length) :: r, (A.1 ++ [.inl x], A.2 + n.toNatClampNeg))
  | _ => none
def am_len (st : List Value) (A : am_A) : Option (List Value × am_A) := match st with
  | .ref o :: r => if o = sb then some (.int (Int32.ofNat sL) :: r, A) else (am_al bs A o).map fun n => (.int (Int32.ofNat n) :: r, A)
  | _ => none
def am_ial (st : List Value) (A : am_A) : Option (List Value × am_A) := match st with
  | .int i :: .ref o :: r => if o = sb then (if i < 0 ∨ sL ≤ i.toNatClampNeg then none else some (.int (sx i.toNatClampNeg) :: r, A)) else (am_ia bs A o .int).bind fun q => if i < 0 ∨ q.1 ≤ i.toNatClampNeg then none else some (.int (q.2 i.toNatClampNeg) :: r, A)
  | _ => none
def am_lal (st : List Value) (A : am_A) : Option (List Value × am_A) := match st with
  | .int i :: .ref o :: r => (am_la bs A o).bind fun q => if i < 0 ∨ q.1 ≤ i.toNatClampNeg then none else some (.long (q.2 i.toNatClampNeg) :: r, A)
  | _ => none
def am_bal (st : List Value) (A : am_A) : Option (List Value × am_A) := match st with
  | .int i :: .ref o :: r => (match am_ia bs A o .byte with
    | some q => if i < 0 ∨ q.1 ≤ i.toNatClampNeg then none else some (.int (q.2 i.toNatClampNeg) :: r, A)
    | none => (am_ia bs A o .boolean).bind fun q => if i < 0 ∨ q.1 ≤ i.toNatClampNeg then none else some (.int (q.2 i.toNatClampNeg) :: r, A))
  | _ => none
def am_ias (st : List Value) (A : am_A) : Option (List Value × am_A) := match st with
  | .int x :: .int i :: .ref o :: r => (am_ia bs A o .int).bind fun q => if i < 0 ∨ q.1 ≤ i.toNatClampNeg then none else some (r, am_up bs A o (.inl (.int, q.1, .inl (upd q.2 i.toNatClampNeg x))))
  | _ => none
def am_las (st : List Value) (A : am_A) : Option (List Value × am_A) := match st with
  | .long x :: .int i :: .ref o :: r => (am_la bs A o).bind fun q => if i < 0 ∨ q.1 ≤ i.toNatClampNeg then none else some (r, am_up bs A o (.inl (.long, q.1, .inr (.inl (vp_updL q.2 i.toNatClampNeg x)))))
  | _ => none
def am_bas (st : List Value) (A : am_A) : Option (List Value × am_A) := match st with
  | .int x :: .int i :: .ref o :: r => (match am_ia bs A o .byte with
    | some q => if i < 0 ∨ q.1 ≤ i.toNatClampNeg then none else some (r, am_up bs A o (.inl (.byte, q.1, .inl (upd q.2 i.toNatClampNeg (vp_nar .byte x)))))
    | none => (am_ia bs A o .boolean).bind fun q => if i < 0 ∨ q.1 ≤ i.toNatClampNeg then none else some (r, am_up bs A o (.inl (.boolean, q.1, .inl (upd q.2 i.toNatClampNeg (vp_nar .boolean x))))))
  | _ => none
def am_hp (ins : Instr) (a b : Nat) (st : List Value) (A : am_A) : Option (List Value × am_A) := match ins with
  | .getfield _ => am_get bs a b st A
  | .putfield _ => am_put bs nf a b st A
  | .new _ => am_new bs nf a st A
  | .newarray t => am_nwa bs t st A
  | .arraylength => am_len bs sb sL st A
  | .iaload => am_ial bs sb sL sx st A
  | .laload => am_lal bs st A
  | .baload => am_bal bs st A
  | .iastore => am_ias bs st A
  | .lastore => am_las bs st A
  | .bastore => am_bas bs st A
  | _ => none
/-- the words of a call, the receiver first, and what stays on the stack -/
def am_ca (ins : Instr) (b : Nat) (st : List Value) : Option (List Value × List Value) := match ins with
  | .invokestatic _ => if b ≤ st.length then some ((st.take b).reverse, st.drop b) else none
  | _ => (match st.drop b with
    | .ref o :: r => some (.ref o :: (st.take b).reverse, r)
    | _ => none)
/-- is what is called called by what may call it: a virtual call's receiver is of its class -/
def am_rc (ins : Instr) (A : am_A) (vs : List Value) (ci : Nat) : Bool := match ins with
  | .invokevirtual _ => (match vs with
    | .ref o :: _ => (am_ob bs A o ci).isSome
    | _ => false)
  | _ => true
variable (mth : Nat → Option am_T) (tbl : Nat → Nat → Option am_I) (sa : Nat) (sp : Nat → List Value → Option (Option Value))
def am_run : Nat → Nat → Nat → Nat → am_L → List Value → am_A → Option (Option Value × am_A)
  | 0, _, _, _, _, _, _ => none
  | f + 1, d, k, pc, lv, st, A => (mth k).bind fun M => (tbl k pc).bind fun I =>
    match am_kd I.1 I.2.2.2.2.2 with
    | 0 => (am_sk I.1 I.2.2.1 st).bind fun st' => am_run f d k (pc + I.2.1) lv st' A
    | 1 => (am_lo I.1 lv).bind fun v => am_run f d k (pc + I.2.1) lv (v :: st) A
    | 2 => (am_so I.1 M.2.2.1 lv st).bind fun q => am_run f d k (pc + I.2.1) q.1 q.2 A
    | 3 => (am_br I.1 st).bind fun q => am_run f d k (if q.1 = true then I.2.2.1 else pc + I.2.1) lv q.2 A
    | 4 => (am_st1 st).bind fun q => am_run f d k (am_sw q.1 I.2.2.2.2.2 I.2.2.1) lv q.2 A
    | 5 => (am_hp bs nf sb sL sx I.1 I.2.2.1 I.2.2.2.1 st A).bind fun q => am_run f d k (pc + I.2.1) lv q.1 q.2
    | 6 => (am_rt I.1 M.2.2.2.1 st).map fun v => (v, A)
    | 7 => (am_ca I.1 I.2.2.2.1 st).bind fun q => if ¬ (q.2.map fun v => v.category).sum ≤ 8 then none else
        match d with
        | 0 => none
        | d' + 1 =>
          if I.2.2.1 = 10000 then am_run f (d' + 1) k (pc + I.2.1) lv q.2 A
          else if 10000 < I.2.2.1 then (if d' < 8 then none else (sp I.2.2.1 q.1).bind fun w => am_run f (d' + 1) k (pc + I.2.1) lv (w.toList ++ q.2) A)
          else (mth I.2.2.1).bind fun N => if am_rc bs I.1 A q.1 N.2.2.2.2 = true ∧ (lg_sl q.1).length ≤ N.2.2.1 then
            (am_run f d' I.2.2.1 0 (lv_args 0 q.1) [] A).bind fun w => am_run f (d' + 1) k (pc + I.2.1) lv (w.1.toList ++ q.2) w.2
            else none
    | 8 => am_run f d k (pc + I.2.1) lv (.ref sa :: st) A
    | _ => none
end AMH
