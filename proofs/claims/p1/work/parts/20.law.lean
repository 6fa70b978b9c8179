/-! PART 20: the law: what is left is pure -/
/-! THE CLAIM OUT OF ONE WALK OF THE LAW'S BODY. Your part is whole_start (and what it stands on); all else here is the same for every law, but numbers. -/
def R_law : String := "LazyHouseLaw"
def lw_P (b : Addr) (xs : List Int32) (args : Array Value) (s : State) : Prop := args = #[.ref b] ∧ s.IntsAt b xs ∧ xs.length ≤ 6 ∧ (Jvm.Cond.and given_1 narrow_1).before args s = true
def lw_Q (_ : Array Value) (s : State) (o : Outcome) (t : State) : Prop := o = .returned (some (.int 1)) ∧ Framed s o t [] 600000 7302250
def lw_Z (below : List Frame) (a : Array Value) (s : State) : State → Prop := fun t => ∃ o, t.status = .running ∧ Ended t below o ∧ lw_Q a s o t
/-- the law's own end, with 1 on the stack, nothing written that was there before, its room as the claim has it -/
theorem lw_ret {p : Program} {l : Launch} {e : Env} {s : State} {m : MethodId} {below : List Frame} {meth : Method} {c : Code} {b : Nat} (hx : p.tables.exec = Jvm.exec) (hb : c.code = code) (hr : meth.sig.returnType = ret) (hlocks : meth.locks = false) {pc : Nat} {H : Heap} {ls : Array Slot} (hdg : decode code pc = .ok (.ireturn, 1)) : W p l e room_1 s m #[Value.ref b] below meth c H [] 600000 7302250 (lw_Z below #[Value.ref b] s) (F0 m pc ls [.int 1]) := by
  intro T hT X
  obtain ⟨fs, hret, hrun, hended, hW, hframe⟩ := X.leave (v := some (.int 1)) (hlocks := hlocks) (fun h => by rw [hr] at h; cases h)
  have hmeth' : T.vm.method? m = some meth := X.method'
  refine ⟨T.setFrames fs, ?_, .returned (some (.int 1)), hrun, hended, rfl, ⟨_, rfl⟩, hW, hframe⟩
  jvm_step X.here [X.here.top, hx, hb, hdg, hmeth', hr, ret, narrow_b1]
  (try refine ⟨rfl, ?_⟩); (try refine ⟨rfl, ?_⟩)
  first | (intro acts; rw [hret _ acts rfl rfl rfl]) | rw [hret _ _ rfl rfl rfl]
  exact Steps.refl _
/-- what holds at the law's entry: the machine, the code, the tables' words (any of lw_tbl by 'hts w (by decide +kernel)'), the script of L ints xs at the cell b, what the Statement gives of the start (any of its parts by flat_of_before) -/
def lw_At (p : Program) (s : State) (m : MethodId) (meth : Method) (c : Code) (b L : Nat) (xs : Nat → Int32) : Prop :=
  p.tables.exec = Jvm.exec ∧ c.code = code ∧ meth.sig.returnType = ret ∧ c.maxLocals = 4 ∧ s.vm.findClass R_law = some m.cls ∧ (∀ w ∈ lw_tbl, w.before #[Value.ref b] s = true) ∧ va_X b L xs s s.heap ∧ b < s.heap.size ∧ meth.locks = false ∧ (Jvm.Cond.and given_1 narrow_1).before #[Value.ref b] s = true
/-- String's two methods, the text being at sa -/
def am_spA (sa j : Nat) (vs : List Value) : Option (Option Value) := match vs with
  | [.ref o] => if j = 10001 ∧ o = sa then some (some (.int 24)) else none
  | [.ref o, .int i] => if j = 10002 ∧ o = sa ∧ ¬ (i < 0 ∨ 24 ≤ i.toNatClampNeg) then some (some (.int (am_txt.getD i.toNatClampNeg 0))) else none
  | _ => none
theorem am_spA_ok {bs sb sa : Nat} : ∀ j vs w, am_sp j vs = some w → am_spA sa j (vs.map (am_tv (am_tr1 bs sb sa))) = some (w.map (am_tv (am_tr1 bs sb sa))) := by
  intro j vs w h
  have e1 : am_tr1 bs sb sa 1000000001 = sa := by unfold am_tr1; rw [if_neg (by omega), if_pos rfl]
  unfold am_sp at h
  split at h
  · split at h
    · rename_i o hc
      cases h
      obtain ⟨h1, h2⟩ := hc
      subst h1; subst h2
      simp [am_spA, am_tv, e1]
    · cases h
  · split at h
    · rename_i o i hc
      cases h
      obtain ⟨h1, h2, h3⟩ := hc
      subst h1; subst h2
      simp only [am_spA, am_tv, List.map_cons, List.map_nil, e1, Option.map_some]
      rw [if_pos ⟨trivial, trivial, h3⟩]
    · cases h
  · cases h
/-- the arrays' classes -/
theorem am_arr {args : Array Value} {s : State} {ty : FieldType} (hty : ∀ C, ty ≠ .object C) (h : (Jvm.Cond.arrayClass ty).before args s = true) : ∃ cA, ArrOfT s cA ty ∧ va_RA s cA ty := by
  obtain ⟨cA, k, comp, h1, h2, h3⟩ := Cond.arrayClass_spec h
  refine ⟨cA, fun n z => ⟨fun k h => (by cases h), k, h2, comp, h3⟩, ?_⟩
  cases ty with
  | object C => exact absurd rfl (hty C)
  | _ => exact h1
/-- WHAT IS LEFT: that the law's run at base 0 answers 1, within the room -/
def am_Pure : Prop := ∀ (L : Nat) (xs : Nat → Int32), L ≤ 6 → ∃ (f : Nat) (A' : am_A), am_rn L xs f 1000 96 0 [(0, .ref 1000000000)] [] ([], 0) = some (some (.int 1), A') ∧ A'.1.length ≤ 600000 ∧ A'.2 ≤ 7302250
set_option maxHeartbeats 4000000 in
set_option maxRecDepth 100000 in
/-- whole_start, open: the text's two methods, and the pure run -/
theorem whole_start_open {p : Program} {e : Env} {s : State} {m : MethodId} {below : List Frame} {meth : Method} {c : Code} (l : Launch) {b L : Nat} {xs : Nat → Int32} (hL : L ≤ 6) (C0 : lw_At p s m meth c b L xs) (hmn : meth.name = "law") (Xt : State → Heap → Prop) (sa : Nat) (hX : am_okX s.heap.size Xt) (hXs : Xt s s.heap) (hT : am_okT l sa Xt am_stx) (hSp : am_okS l am_Ts s.heap.size (am_spA sa) Xt am_slk) (hpure : am_Pure) : W p l e room_1 s m #[Value.ref b] below meth c s.heap [] 0 0 (lw_Z below #[Value.ref b] s) (entryFrame m ([Value.ref b] : List Value).toArray 4) := by
  obtain ⟨hx, hb, hr, hml, hown, hts, hXx, hbl, hlocks, hgv⟩ := C0
  have htT : ∀ w ∈ am_Ts, w.before #[Value.ref b] s = true := fun w hw => hts w (am_Ts_in w hw)
  -- the classes
  have hD : ∃ (dC : Nat → ClassId) (dI : Nat → Nat → Nat), ∀ (k : Nat) (q : vw_C), am_cl[k]? = some q → u_Kn s q.1 q.2.1 q.2.2 (dC k) (dI k) := by
    have h1 : ∀ k : Nat, ∃ q : ClassId × (Nat → Nat), ∀ r : vw_C, am_cl[k]? = some r → u_Kn s r.1 r.2.1 r.2.2 q.1 q.2 := by
      intro k
      cases hk : am_cl[k]? with
      | none => exact ⟨(0, fun _ => 0), fun r hr => by cases hr⟩
      | some r =>
        obtain ⟨C, T, N⟩ := r
        obtain ⟨h1, h2, h3, h4, h5, h6⟩ := am_okC_all k C T N hk
        obtain ⟨cC, iS, hKn⟩ := u_known htT h1 (htT _ h5)
        exact ⟨(cC, iS), fun r hr => by cases hr; exact hKn⟩
    obtain ⟨g, hg⟩ := Classical.axiomOfChoice h1
    exact ⟨fun k => (g k).1, fun k => (g k).2, fun k q h => hg k q h⟩
  obtain ⟨dC, dI, hKc⟩ := hD
  obtain ⟨cI, i1, i2⟩ := am_arr (ty := .int) (fun _ z => by cases z) (htT _ (am_Tf_ok 1078 _ rfl rfl))
  obtain ⟨cJ, j1, j2⟩ := am_arr (ty := .long) (fun _ z => by cases z) (htT _ (am_Tf_ok 1215 _ rfl rfl))
  obtain ⟨cB, b1, b2⟩ := am_arr (ty := .byte) (fun _ z => by cases z) (htT _ (am_Tf_ok 1042 _ rfl rfl))
  obtain ⟨cZ, z1, z2⟩ := am_arr (ty := .boolean) (fun _ z => by cases z) (htT _ (am_Tf_ok 6165 _ rfl rfl))
  obtain ⟨ca, e1, e2, e3, e4⟩ : ∃ ca : FieldType → ClassId, ca .int = cI ∧ ca .long = cJ ∧ ca .byte = cB ∧ ca .boolean = cZ := ⟨fun t => match t with
    | .int => cI
    | .long => cJ
    | .byte => cB
    | _ => cZ, rfl, rfl, rfl, rfl⟩
  subst e1; subst e2; subst e3; subst e4
  have hK : va_K (dC, dI) am_cl (am_tys ca) s := by
    refine ⟨hKc, fun k q h => ?_⟩
    match k, h with
    | 0, h => cases h; exact ⟨i1, i2⟩
    | 1, h => cases h; exact ⟨j1, j2⟩
    | 2, h => cases h; exact ⟨b1, b2⟩
    | 3, h => cases h; exact ⟨z1, z2⟩
    | n + 4, h => simp [am_tys] at h
  have hKn : am_Kn am_cl am_Ts (dC, dI) ca b L xs Xt s := ⟨hK, hXx, hXs, fun w hw hn => va_Nw.of (am_nst_tab hn) (htT w hw)⟩
  obtain ⟨f, A', hrun, hA1, hA2⟩ := hpure L xs hL
  have hsh := am_shift (bs := s.heap.size) (sb := b) (sa := sa) (nf := am_nf) hbl am_spA_ok f 1000 96 0 _ _ _ A' (some (.int 1)) hrun (by omega)
  have hwalk := am_walk (l := l) (mth := am_mth) (tbl := am_tbl) (cl := am_cl) (nf := am_nf) (Ts := am_Ts) (D := (dC, dI)) (ca := ca) (bs := s.heap.size) (sb := b) (sL := L) (sx := xs) (sa := sa) (sp := am_spA sa) (Xt := Xt) (stx := am_stx) (slk := am_slk) am_okC_all am_good_ok am_okI_all hX hT hSp hbl f
  have hl := lv_entry ([.ref b]) (n := 4) (Nat.le_of_ble_eq_true rfl)
  rw [lg_entry_eq]
  have hP : va_P (dC, dI) am_cl (am_W s.heap.size ca []) s.heap := fun k q h => by simp [am_W] at h
  have e5 : am_tr1 s.heap.size b sa 1000000000 = b := by unfold am_tr1; rw [if_pos rfl]
  have hsh' : am_run s.heap.size am_nf b L xs am_mth am_tbl sa (am_spA sa) f 1000 96 0 [(0, .ref b)] [] ([], 0) = some (some (.int 1), am_tA (am_tr1 s.heap.size b sa) A') := by
    have h9 := hsh
    simp only [am_tl, List.map_cons, List.map_nil, am_tv, e5, am_tA, Option.map_some] at h9
    exact h9
  refine hwalk p e room_1 s m #[Value.ref b] below meth c _ 96 1000 0 am_m96 [(0, .ref b)] [] ([], 0) (am_tA (am_tr1 s.heap.size b sa) A') (some (.int 1)) _ s.heap [] 0 0 0 0 hx hb hml hown htT hmn hKn rfl hsh' hl hP va_S.rf rfl rfl rfl (by decide) (by decide) (by simp only [am_tA, List.length_map]; show _ ≤ 0 + 600000; omega) (by show A'.2 ≤ 0 + 7302250; omega) ?_
  intro pc ls st H locs cells slots ins hd hrt hP1 hS hc1 hc2
  have hins : ins = .ireturn ∧ st = [.int 1] := by
    unfold am_rt at hrt
    split at hrt
    · split at hrt
      · split at hrt
        · cases hrt; exact ⟨rfl, rfl⟩
        · cases hrt
      · cases hrt
    · split at hrt
      · split at hrt
        · cases hrt
        · cases hrt
      · cases hrt
    · split at hrt
      · split at hrt
        · cases hrt
        · cases hrt
      · cases hrt
    · split at hrt
      · cases hrt
      · cases hrt
    · cases hrt
  obtain ⟨rfl, rfl⟩ := hins
  refine va_forget (fun q hq => hS.2.2 q hq) ?_
  simp only [am_tA, List.length_map] at hc1
  refine W.widen (k := 600000) (n := 7302250) (by omega) (by simp only at hc2; omega) ?_
  exact lw_ret hx hb hr hlocks hd
