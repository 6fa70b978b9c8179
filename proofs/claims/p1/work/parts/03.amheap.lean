/-! PART 03: the heap of the abstract machine in the JVM's -/
def am_tr (ca : FieldType → ClassId) (e : am_E) : va_E := match e with
  | .inl q => .inl (ca q.1, q.2)
  | .inr o => .inr o
def am_W (bs : Nat) (ca : FieldType → ClassId) (L : List am_E) : va_W := L.mapIdx (fun i e => (bs + i, am_tr ca e))
theorem am_W_get {bs : Nat} {ca : FieldType → ClassId} {L : List am_E} {i : Nat} : (am_W bs ca L)[i]? = (L[i]?).map (fun e => (bs + i, am_tr ca e)) := by
  unfold am_W
  rw [List.getElem?_mapIdx]
theorem am_W_set {bs : Nat} {ca : FieldType → ClassId} {L : List am_E} {i : Nat} {e : am_E} : (am_W bs ca L).set i (bs + i, am_tr ca e) = am_W bs ca (L.set i e) := by
  apply List.ext_getElem?
  intro j
  rw [List.getElem?_set, am_W_get, am_W_get, List.getElem?_set]
  by_cases h : i = j
  · subst h
    simp only [if_true, am_W, List.length_mapIdx]
    by_cases h2 : i < L.length
    · simp [h2]
    · simp [h2]
  · simp [h]
theorem am_W_app {bs : Nat} {ca : FieldType → ClassId} {L : List am_E} {e : am_E} : am_W bs ca (L ++ [e]) = am_W bs ca L ++ [(bs + L.length, am_tr ca e)] := by
  unfold am_W
  rw [List.mapIdx_concat]
theorem am_W_D {bs : Nat} {ca : FieldType → ClassId} {L : List am_E} : va_D (fun q => bs ≤ q) (am_W bs ca L) := by
  refine ⟨fun i j p q h1 h2 h3 => ?_, fun k q h => ?_⟩
  · rw [am_W_get] at h1 h2
    obtain ⟨_, _, rfl⟩ := Option.map_eq_some_iff.mp h1
    obtain ⟨_, _, rfl⟩ := Option.map_eq_some_iff.mp h2
    simpa using h3
  · rw [am_W_get] at h
    obtain ⟨_, _, rfl⟩ := Option.map_eq_some_iff.mp h
    exact Nat.le_add_right _ _
theorem am_W_at {bs : Nat} {ca : FieldType → ClassId} {A : am_A} {o : Nat} {e : am_E} (h : am_at bs A o = some e) : (am_W bs ca A.1)[o - bs]? = some (o, am_tr ca e) ∧ bs + (o - bs) = o := by
  unfold am_at at h
  split at h
  · rename_i hb
    rw [am_W_get, h]
    have e1 : bs + (o - bs) = o := by omega
    simp [e1]
  · cases h
theorem am_W_up {bs : Nat} {ca : FieldType → ClassId} {A : am_A} {o : Nat} {e e' : am_E} (h : am_at bs A o = some e) : (am_W bs ca A.1).set (o - bs) (o, am_tr ca e') = am_W bs ca (am_up bs A o e').1 := by
  have e1 := (am_W_at (ca := ca) h).2
  have h2 := am_W_set (bs := bs) (ca := ca) (L := A.1) (i := o - bs) (e := e')
  rw [e1] at h2
  exact h2
theorem am_ob_inv {bs : Nat} {A : am_A} {o ci : Nat} {fs : List Value} (h : am_ob bs A o ci = some fs) : am_at bs A o = some (.inr (ci, fs)) := by
  unfold am_ob at h
  split at h
  · rename_i q hq
    by_cases hc : q.1 = ci
    · rw [if_pos hc] at h
      cases h
      rw [hq, ← hc]
    · rw [if_neg hc] at h; cases h
  · cases h
theorem am_ia_inv {bs : Nat} {A : am_A} {o : Nat} {ty : FieldType} {q : Nat × (Nat → Int32)} (h : am_ia bs A o ty = some q) : am_at bs A o = some (.inl (ty, q.1, .inl q.2)) := by
  unfold am_ia at h
  split at h
  · rename_i t n f hq
    by_cases hc : t = ty
    · rw [if_pos hc] at h
      cases h
      rw [hq, hc]
    · rw [if_neg hc] at h; cases h
  · cases h
theorem am_la_inv {bs : Nat} {A : am_A} {o : Nat} {q : Nat × (Nat → Int64)} (h : am_la bs A o = some q) : am_at bs A o = some (.inl (.long, q.1, .inr (.inl q.2))) := by
  unfold am_la at h
  split at h
  · rename_i t n f hq
    by_cases hc : t = .long
    · rw [if_pos hc] at h
      cases h
      rw [hq, hc]
    · rw [if_neg hc] at h; cases h
  · cases h
theorem am_al_inv {bs : Nat} {A : am_A} {o n : Nat} (h : am_al bs A o = some n) : ∃ t x, am_at bs A o = some (.inl (t, n, x)) ∧ (t = .int ∨ t = .long ∨ t = .byte ∨ t = .boolean) := by
  unfold am_al at h
  split at h
  · rename_i t k x hq
    by_cases hc : t = .int ∨ t = .long ∨ t = .byte ∨ t = .boolean
    · rw [if_pos hc] at h
      cases h
      exact ⟨t, x, hq, hc⟩
    · rw [if_neg hc] at h; cases h
  · cases h
/-- what holds of every class that the tables have -/
def am_okC (cl : List vw_C) (nf : Nat → List FieldType) (Ts : List Jvm.Cond) : Prop := ∀ (ci : Nat) (C : String) (T : u_T) (N : Nat), cl[ci]? = some (C, T, N) →
  (∀ w ∈ u_ws C T N, w ∈ Ts) ∧ (∀ k, k < N → parseFieldDescriptor (T k).2.2.1 = some ((nf ci).getD k .int)) ∧ (∀ a, a < N → ∀ b, b < N → a ≠ b → (T a).2.1 ≠ (T b).2.1) ∧ (nf ci).length = N ∧ Jvm.Cond.instantiable C N ∈ Ts ∧ Jvm.Cond.initialized C ∈ Ts
/-- what an instruction that touches the heap links is what the tables say -/
def am_lk (cl : List vw_C) (Ts : List Jvm.Cond) (own mn : String) (ins : Instr) (a b : Nat) : Prop := match ins with
  | .getfield i => ∃ (C : String) (T : u_T) (N : Nat), cl[a]? = some (C, T, N) ∧ b < N ∧ (Jvm.Cond.fieldLink own i (T b).1 (T b).2.1 (T b).2.2.1 ∈ Ts ∨ ∃ host, Jvm.Cond.fieldLinkNest own i (T b).1 (T b).2.1 (T b).2.2.1 host ∈ Ts)
  | .putfield i => ∃ (C : String) (T : u_T) (N : Nat), cl[a]? = some (C, T, N) ∧ b < N ∧ Jvm.Cond.fieldLink own i (T b).1 (T b).2.1 (T b).2.2.1 ∈ Ts ∧ ((T b).2.2.2 = false ∨ ((T b).2.2.2 = true ∧ mn = "<init>" ∧ (T b).1 = own))
  | .new i => ∃ (C : String) (T : u_T) (N : Nat), cl[a]? = some (C, T, N) ∧ Jvm.Cond.classLink own i C ∈ Ts
  | .newarray t => Jvm.Cond.arrayClass (newarray.typeOf t) ∈ Ts
  | _ => True
abbrev am_tys (ca : FieldType → ClassId) : List (ClassId × FieldType) := [(ca .int, .int), (ca .long, .long), (ca .byte, .byte), (ca .boolean, .boolean)]
section AMP
variable {p : Program} {l : Launch} {e : Env} {R : Room} {s : State} {m : MethodId} {args : Array Value} {below : List Frame} {meth : Method} {c : Code} {H : Heap} {locs : List Loc} {cells slots : Nat} {Q : State → Prop}
variable {cc : ByteArray} {pc : Nat} {ls : Array Slot} {st st' : List Value} {ins : Instr} {a b nL n0 z0 : Nat} {own : String} {D : va_G} {cl : List vw_C} {ca : FieldType → ClassId} {bs : Nat} {nf : Nat → List FieldType} {sb sL : Nat} {sx : Nat → Int32} {Ts : List Jvm.Cond} {A A' : am_A}
/-- what the machine says of the heap's size -/
theorem am_sz {g : JFrame} (k : s.heap.size ≤ H.size → H.size ≤ s.heap.size + cells → W p l e R s m args below meth c H locs cells slots Q g) : W p l e R s m args below meth c H locs cells slots Q g := by
  intro T hT X
  obtain ⟨-, h1, h2, -⟩ := X.same
  exact k (by rw [← hT]; exact h1) (by rw [← hT]; exact h2) T hT X
theorem am_P_lt {L : List am_E} (hP : va_P D cl (am_W bs ca L) H) {i : Nat} (hi : i < L.length) : bs + i < H.size := by
  have h := hP i (bs + i, am_tr ca L[i]) (by rw [am_W_get, List.getElem?_eq_getElem hi]; rfl)
  exact h.lt
/-- a new cell's place -/
theorem am_q {L : List am_E} {q : Nat} {x : va_E} (hP : va_P D cl (am_W bs ca L ++ [(q, x)]) H) (hD : va_D (fun q => bs ≤ q) (am_W bs ca L ++ [(q, x)])) (hH : H.size ≤ bs + L.length + 1) : q = bs + L.length := by
  have hl : (am_W bs ca L).length = L.length := by simp [am_W]
  have h0 : (am_W bs ca L ++ [(q, x)])[L.length]? = some (q, x) := by rw [← hl]; simp
  have h1 : q < H.size := (hP _ _ h0).lt
  have h2 : bs ≤ q := hD.2 _ _ h0
  rcases Nat.lt_or_ge (q - bs) L.length with h | h
  · exfalso
    have h3 : (am_W bs ca L ++ [(q, x)])[q - bs]? = some (q, am_tr ca L[q - bs]) := by
      rw [List.getElem?_append_left (by rw [hl]; exact h), am_W_get, List.getElem?_eq_getElem h]
      have : bs + (q - bs) = q := by omega
      simp [this]
    have h4 := hD.1 _ _ _ _ h0 h3 rfl
    omega
  · omega
theorem am_ca_eq {ty : FieldType} {cA : ClassId} {t0 : Nat} (hty : ∀ C, ty ≠ .object C) (hK : va_K D cl (am_tys ca) s) (ht : (am_tys ca)[t0]? = some (ca ty, ty)) (hK1 : va_K D cl (am_tys ca ++ [(cA, ty)]) s) : cA = ca ty := by
  have h1 := (hK.2 t0 _ ht).2
  have h2 := (hK1.2 4 (cA, ty) rfl).2
  cases ty with
  | object C => exact absurd rfl (hty C)
  | _ => exact Option.some.inj (h2.symm.trans h1)
set_option maxHeartbeats 8000000 in
theorem am_hp_ok (okC : am_okC cl nf Ts) (hx : p.tables.exec = Jvm.exec) (hb : c.code = cc) (hown : s.vm.findClass own = some m.cls) (hts : ∀ w ∈ Ts, w.before args s = true) (hK : va_K D cl (am_tys ca) s) (hX : va_X sb sL sx s s.heap) (hsb : sb < bs) (hlk : am_lk cl Ts own meth.name ins a b)
    (h : am_hp bs nf sb sL sx ins a b st A = some (st', A')) (hd : decode cc pc = .ok (ins, am_ln ins)) (hP : va_P D cl (am_W bs ca A.1) H) (hS : va_S (fun q => bs ≤ q) s.heap H locs) (h0 : s.heap.size = bs + n0) (hn : n0 + cells = A.1.length) (hz : z0 + slots = A.2) (hR1 : A'.1.length ≤ n0 + R.cells) (hR2 : A'.2 ≤ z0 + R.slots)
    (kk : ∀ (H' : Heap) (locs' : List Loc) (cells' slots' : Nat), va_P D cl (am_W bs ca A'.1) H' → va_S (fun q => bs ≤ q) s.heap H' locs' → n0 + cells' = A'.1.length → z0 + slots' = A'.2 → W p l e R s m args below meth c H' locs' cells' slots' Q (F0 m (pc + am_ln ins) ls st')) : W p l e R s m args below meth c H locs cells slots Q (F0 m pc ls st) := by
  have hA : ∀ q, s.heap.size ≤ q → bs ≤ q := fun q hq => by omega
  have hsl : sb < s.heap.size := by omega
  have hbA : ¬ (fun q => bs ≤ q) sb := Nat.not_le.mpr hsb
  unfold am_hp at h
  split at h
  · -- getfield
    unfold am_get at h
    split at h
    · rename_i o r
      obtain ⟨fs, h1, h2⟩ := Option.bind_eq_some_iff.mp h
      obtain ⟨v, h3, h4⟩ := Option.map_eq_some_iff.mp h2
      cases h4
      obtain ⟨C, T, N, hc, hbN, hl⟩ := hlk
      obtain ⟨hin, hty, hnm, hlen, hi1, hi2⟩ := okC _ _ _ _ hc
      have he := (am_W_at (ca := ca) (am_ob_inv h1)).1
      rcases hl with hl | ⟨host, hl⟩
      · exact va_get (D := D) (cl := cl) hx hb hts hin hown hK hP (o - bs) he hc b hbN (hts _ hl) (fun _ h9 => h9) h3 hd (kk H locs cells slots hP hS hn hz)
      · exact va_getN (D := D) (cl := cl) hx hb hts hin hown hK hP (o - bs) he hc b hbN (hts _ hl) (fun _ h9 => h9) h3 hd (kk H locs cells slots hP hS hn hz)
    · cases h
  · -- putfield
    unfold am_put at h
    split at h
    · rename_i v o r
      obtain ⟨fs, h1, h2⟩ := Option.bind_eq_some_iff.mp h
      by_cases hf : b < fs.length ∧ am_fit ((nf a).getD b .int) v = true
      · rw [if_pos hf] at h2
        cases h2
        obtain ⟨C, T, N, hc, hbN, hl, hfin⟩ := hlk
        obtain ⟨hin, hty, hnm, hlen, hi1, hi2⟩ := okC _ _ _ _ hc
        have hat := am_ob_inv h1
        have he := (am_W_at (ca := ca) hat).1
        obtain ⟨hn1, hf1⟩ := am_fit_ok hf.2
        rcases hfin with hfin | ⟨hfin, hmn, hdecl⟩
        · refine va_put (D := D) (cl := cl) hx hb hts hin (fun k => (nf a).getD k .int) hty hnm hown hK hP am_W_D hS (o - bs) he hc b hbN (hts _ hl) (fun _ h9 => h9) hfin (hty b hbN) hn1 hf1 hf.1 hd (fun H1 locs1 hP1 _ hS1 => ?_)
          exact kk H1 locs1 cells slots (by rw [← am_W_up hat]; exact hP1) hS1 (by rw [hn]; simp [am_up]) hz
        · refine va_putF (D := D) (cl := cl) hx hb hts hin (fun k => (nf a).getD k .int) hty hnm hown hK hP am_W_D hS (o - bs) he hc b hbN (hts _ hl) (fun _ h9 => h9) hfin hmn hdecl (hty b hbN) hn1 hf1 hf.1 hd (fun H1 locs1 hP1 _ hS1 => ?_)
          exact kk H1 locs1 cells slots (by rw [← am_W_up hat]; exact hP1) hS1 (by rw [hn]; simp [am_up]) hz
      · rw [if_neg hf] at h2; cases h2
    · cases h
  · -- new
    unfold am_new at h
    cases h
    obtain ⟨C, T, N, hc, hl⟩ := hlk
    obtain ⟨hin, hty, hnm, hlen, hi1, hi2⟩ := okC _ _ _ _ hc
    simp only [List.length_append, List.length_cons, List.length_nil] at hR1
    have hfs : ∀ j, j < N → defaultValue ((nf a).getD j .int) = vp_V ((nf a).map defaultValue) j := by
      intro j hj
      have hj' : j < (nf a).length := by omega
      simp [vp_V, List.getD, hj']
    refine va_new (D := D) (cl := cl) hx hb hts hin (fun k => (nf a).getD k .int) hty hown (hts _ hl) (hts _ hi1) (hts _ hi2) hK hP am_W_D hS hA hc hfs (by omega) (by simp only at hR2; omega) hd (fun q H1 hP1 hD1 hS1 => ?_)
    refine am_sz (fun _ hs2 => ?_)
    have hq := am_q hP1 hD1 (by omega)
    subst hq
    refine kk H1 locs (cells + 1) (slots + N) (by rw [am_W_app]; exact hP1) hS1 (by simp; omega) (by simp only; omega)
  · -- newarray
    rename_i t
    unfold am_nwa at h
    split at h
    · rename_i n r
      by_cases hc : n < 0 ∨ 60000000 < n.toNatClampNeg
      · rw [if_pos hc] at h; cases h
      · rw [if_neg hc] at h
        obtain ⟨x, h1, h2⟩ := Option.map_eq_some_iff.mp h
        cases h2
        simp only [List.length_append, List.length_cons, List.length_nil] at hR1
        simp only at hR2
        have hn0 : ¬ n < 0 := fun z => hc (Or.inl z)
        have hnb : n.toNatClampNeg ≤ 60000000 := Nat.not_lt.mp (fun z => hc (Or.inr z))
        unfold am_na at h1
        split at h1
        · cases h1
          refine va_newa (D := D) (cl := cl) (a0 := (n.toNatClampNeg, .inl (fun _ => 0))) hx hb (hts _ hlk) (ty := .int) rfl hK hP am_W_D hS hA (fun cA => rfl) hn0 rfl (by simp [componentBytes]; omega) (by omega) (by omega) hd (fun q cA H1 hK1 hP1 hD1 hS1 => ?_)
          refine am_sz (fun _ hs2 => ?_)
          have hq := am_q hP1 hD1 (by omega)
          subst hq
          have hcA := am_ca_eq (t0 := 0) (ty := .int) (fun _ z => by cases z) hK rfl hK1
          subst hcA
          exact kk H1 locs (cells + 1) _ (by rw [am_W_app]; exact hP1) hS1 (by simp; omega) (by simp only; omega)
        · cases h1
          refine va_newa (D := D) (cl := cl) (a0 := (n.toNatClampNeg, .inr (.inl (fun _ => 0)))) hx hb (hts _ hlk) (ty := .long) rfl hK hP am_W_D hS hA (fun cA => rfl) hn0 rfl (by simp [componentBytes]; omega) (by omega) (by omega) hd (fun q cA H1 hK1 hP1 hD1 hS1 => ?_)
          refine am_sz (fun _ hs2 => ?_)
          have hq := am_q hP1 hD1 (by omega)
          subst hq
          have hcA := am_ca_eq (t0 := 1) (ty := .long) (fun _ z => by cases z) hK rfl hK1
          subst hcA
          exact kk H1 locs (cells + 1) _ (by rw [am_W_app]; exact hP1) hS1 (by simp; omega) (by simp only; omega)
        · cases h1
          refine va_newa (D := D) (cl := cl) (a0 := (n.toNatClampNeg, .inl (fun _ => 0))) hx hb (hts _ hlk) (ty := .byte) rfl hK hP am_W_D hS hA (fun cA => rfl) hn0 rfl (by simp [componentBytes]; omega) (by omega) (by omega) hd (fun q cA H1 hK1 hP1 hD1 hS1 => ?_)
          refine am_sz (fun _ hs2 => ?_)
          have hq := am_q hP1 hD1 (by omega)
          subst hq
          have hcA := am_ca_eq (t0 := 2) (ty := .byte) (fun _ z => by cases z) hK rfl hK1
          subst hcA
          exact kk H1 locs (cells + 1) _ (by rw [am_W_app]; exact hP1) hS1 (by simp; omega) (by simp only; omega)
        · cases h1
          refine va_newa (D := D) (cl := cl) (a0 := (n.toNatClampNeg, .inl (fun _ => 0))) hx hb (hts _ hlk) (ty := .boolean) rfl hK hP am_W_D hS hA (fun cA => rfl) hn0 rfl (by simp [componentBytes]; omega) (by omega) (by omega) hd (fun q cA H1 hK1 hP1 hD1 hS1 => ?_)
          refine am_sz (fun _ hs2 => ?_)
          have hq := am_q hP1 hD1 (by omega)
          subst hq
          have hcA := am_ca_eq (t0 := 3) (ty := .boolean) (fun _ z => by cases z) hK rfl hK1
          subst hcA
          exact kk H1 locs (cells + 1) _ (by rw [am_W_app]; exact hP1) hS1 (by simp; omega) (by simp only; omega)
        · cases h1
    · cases h
  · -- arraylength
    unfold am_len at h
    split at h
    · rename_i o r
      by_cases ho : o = sb
      · rw [if_pos ho] at h
        cases h
        subst ho
        exact va_slen hx hb hX hsl hbA hS hd (kk H locs cells slots hP hS hn hz)
      · rw [if_neg ho] at h
        obtain ⟨n, h1, h2⟩ := Option.map_eq_some_iff.mp h
        cases h2
        obtain ⟨t, x, h3, h4⟩ := am_al_inv h1
        have he := (am_W_at (ca := ca) h3).1
        rcases h4 with rfl | rfl | rfl | rfl
        · exact va_alen (D := D) (cl := cl) hx hb hK hP (o - bs) 0 he rfl rfl hd (kk H locs cells slots hP hS hn hz)
        · exact va_alen (D := D) (cl := cl) hx hb hK hP (o - bs) 1 he rfl rfl hd (kk H locs cells slots hP hS hn hz)
        · exact va_alen (D := D) (cl := cl) hx hb hK hP (o - bs) 2 he rfl rfl hd (kk H locs cells slots hP hS hn hz)
        · exact va_alen (D := D) (cl := cl) hx hb hK hP (o - bs) 3 he rfl rfl hd (kk H locs cells slots hP hS hn hz)
    · cases h
  · -- iaload
    unfold am_ial at h
    split at h
    · rename_i i o r
      by_cases ho : o = sb
      · rw [if_pos ho] at h
        by_cases hi : i < 0 ∨ sL ≤ i.toNatClampNeg
        · rw [if_pos hi] at h; cases h
        · rw [if_neg hi] at h
          cases h
          subst ho
          exact va_sld hx hb hX hsl hbA hS hi hd (kk H locs cells slots hP hS hn hz)
      · rw [if_neg ho] at h
        obtain ⟨q, h1, h2⟩ := Option.bind_eq_some_iff.mp h
        by_cases hi : i < 0 ∨ q.1 ≤ i.toNatClampNeg
        · rw [if_pos hi] at h2; cases h2
        · rw [if_neg hi] at h2
          cases h2
          exact va_iald (D := D) (cl := cl) hx hb hK hP (o - bs) 0 (am_W_at (ca := ca) (am_ia_inv h1)).1 rfl hi hd (kk H locs cells slots hP hS hn hz)
    · cases h
  · -- laload
    unfold am_lal at h
    split at h
    · rename_i i o r
      obtain ⟨q, h1, h2⟩ := Option.bind_eq_some_iff.mp h
      by_cases hi : i < 0 ∨ q.1 ≤ i.toNatClampNeg
      · rw [if_pos hi] at h2; cases h2
      · rw [if_neg hi] at h2
        cases h2
        exact va_lald (D := D) (cl := cl) hx hb hK hP (o - bs) 1 (am_W_at (ca := ca) (am_la_inv h1)).1 rfl hi hd (kk H locs cells slots hP hS hn hz)
    · cases h
  · -- baload
    unfold am_bal at h
    split at h
    · rename_i i o r
      split at h
      · rename_i q h1
        by_cases hi : i < 0 ∨ q.1 ≤ i.toNatClampNeg
        · rw [if_pos hi] at h; cases h
        · rw [if_neg hi] at h
          cases h
          exact va_bald (D := D) (cl := cl) hx hb hK hP (o - bs) 2 (am_W_at (ca := ca) (am_ia_inv h1)).1 rfl hi hd (kk H locs cells slots hP hS hn hz)
      · obtain ⟨q, h1, h2⟩ := Option.bind_eq_some_iff.mp h
        by_cases hi : i < 0 ∨ q.1 ≤ i.toNatClampNeg
        · rw [if_pos hi] at h2; cases h2
        · rw [if_neg hi] at h2
          cases h2
          exact va_zald (D := D) (cl := cl) hx hb hK hP (o - bs) 3 (am_W_at (ca := ca) (am_ia_inv h1)).1 rfl hi hd (kk H locs cells slots hP hS hn hz)
    · cases h
  · -- iastore
    unfold am_ias at h
    split at h
    · rename_i x i o r
      obtain ⟨q, h1, h2⟩ := Option.bind_eq_some_iff.mp h
      by_cases hi : i < 0 ∨ q.1 ≤ i.toNatClampNeg
      · rw [if_pos hi] at h2; cases h2
      · rw [if_neg hi] at h2
        cases h2
        have hat := am_ia_inv h1
        refine va_iast (D := D) (cl := cl) hx hb hK hP am_W_D hS (o - bs) 0 (am_W_at (ca := ca) hat).1 rfl hi hd (fun H1 locs1 hP1 _ hS1 => ?_)
        exact kk H1 locs1 cells slots (by rw [← am_W_up hat]; exact hP1) hS1 (by rw [hn]; simp [am_up]) hz
    · cases h
  · -- lastore
    unfold am_las at h
    split at h
    · rename_i x i o r
      obtain ⟨q, h1, h2⟩ := Option.bind_eq_some_iff.mp h
      by_cases hi : i < 0 ∨ q.1 ≤ i.toNatClampNeg
      · rw [if_pos hi] at h2; cases h2
      · rw [if_neg hi] at h2
        cases h2
        have hat := am_la_inv h1
        refine va_last (D := D) (cl := cl) hx hb hK hP am_W_D hS (o - bs) 1 (am_W_at (ca := ca) hat).1 rfl hi hd (fun H1 locs1 hP1 _ hS1 => ?_)
        exact kk H1 locs1 cells slots (by rw [← am_W_up hat]; exact hP1) hS1 (by rw [hn]; simp [am_up]) hz
    · cases h
  · -- bastore
    unfold am_bas at h
    split at h
    · rename_i x i o r
      split at h
      · rename_i q h1
        by_cases hi : i < 0 ∨ q.1 ≤ i.toNatClampNeg
        · rw [if_pos hi] at h; cases h
        · rw [if_neg hi] at h
          cases h
          have hat := am_ia_inv h1
          refine va_bast (D := D) (cl := cl) hx hb hK hP am_W_D hS (o - bs) 2 (am_W_at (ca := ca) hat).1 rfl hi hd (fun H1 locs1 hP1 _ hS1 => ?_)
          exact kk H1 locs1 cells slots (by rw [← am_W_up hat]; exact hP1) hS1 (by rw [hn]; simp [am_up]) hz
      · obtain ⟨q, h1, h2⟩ := Option.bind_eq_some_iff.mp h
        by_cases hi : i < 0 ∨ q.1 ≤ i.toNatClampNeg
        · rw [if_pos hi] at h2; cases h2
        · rw [if_neg hi] at h2
          cases h2
          have hat := am_ia_inv h1
          refine va_zast (D := D) (cl := cl) hx hb hK hP am_W_D hS (o - bs) 3 (am_W_at (ca := ca) hat).1 rfl hi hd (fun H1 locs1 hP1 _ hS1 => ?_)
          exact kk H1 locs1 cells slots (by rw [← am_W_up hat]; exact hP1) hS1 (by rw [hn]; simp [am_up]) hz
    · cases h
  · cases h
end AMP
