/-! PART 05: WHAT THE ABSTRACT MACHINE RUNS, THE JVM RUNS -/
theorem am_kd7 {ins : Instr} {sw : List (Int32 × Nat)} (h : am_kd ins sw = 7) : am_ln ins = 3 ∧ am_kd ins [] = 7 := by
  unfold am_kd at h
  split at h <;> first | (cases h; done) | exact ⟨rfl, rfl⟩ | (split at h <;> cases h)
theorem am_kd4 {ins : Instr} {sw : List (Int32 × Nat)} (h : am_kd ins sw = 4) : (∃ d ps, ins = .lookupswitch d ps) ∨ ∃ d lo hi os, ins = .tableswitch d lo hi os := by
  unfold am_kd at h
  split at h <;> first | (cases h; done) | exact Or.inl ⟨_, _, rfl⟩ | exact Or.inr ⟨_, _, _, _, rfl⟩ | (split at h <;> cases h)
theorem am_kd8 {ins : Instr} {sw : List (Int32 × Nat)} (h : am_kd ins sw = 8) : ∃ i, ins = .ldc i ∧ ¬ sw.isEmpty = true := by
  unfold am_kd at h
  split at h <;> first | (cases h; done) | (split at h <;> first | (cases h; done) | exact ⟨_, rfl, by assumption⟩)
theorem am_kd0 {i : Nat} {sw : List (Int32 × Nat)} (h : am_kd (.ldc i) sw = 0) : sw.isEmpty = true := by
  by_cases hs : sw.isEmpty = true
  · exact hs
  · simp [am_kd, hs] at h
section AMZ
variable {l : Launch} {mth : Nat → Option am_T} {tbl : Nat → Nat → Option am_I} {cl : List vw_C} {nf : Nat → List FieldType} {Ts : List Jvm.Cond} {D : va_G} {ca : FieldType → ClassId} {bs sb sL : Nat} {sx : Nat → Int32} {sa : Nat} {sp : Nat → List Value → Option (Option Value)} {Xt : State → Heap → Prop} {stx : Nat → String → Prop} {slk : Nat → String → Instr → Nat → Prop}
variable {p : Program} {e : Env} {R : Room} {s : State} {m : MethodId} {args : Array Value} {below : List Frame} {meth : Method} {c : Code} {H : Heap} {locs : List Loc} {cells slots : Nat} {Q : State → Prop} {cc : ByteArray} {pc : Nat} {ls : Array Slot} {st : List Value} {ins : Instr}
set_option maxHeartbeats 1000000 in
theorem am_sw_ok {len a : Nat} {x : Int32} {sw : List (Int32 × Nat)} (hx : p.tables.exec = Jvm.exec) (hb : c.code = cc) (hdec : decode cc pc = .ok (ins, len)) (hkd : am_kd ins sw = 4) (hsw : am_swk ins len pc a sw)
    (K : W p l e R s m args below meth c H locs cells slots Q (F0 m (am_sw x sw a) ls st)) : W p l e R s m args below meth c H locs cells slots Q (F0 m pc ls (.int x :: st)) := by
  rcases am_kd4 hkd with ⟨d, ps, rfl⟩ | ⟨dd, lo, hi, os, rfl⟩
  · obtain ⟨s1, s2, s3⟩ := hsw
    exact lv_lookup hx hb hdec s1 rfl (am_swl_ok s2 x _ _ s3) K
  · obtain ⟨s1, s2, s3⟩ := hsw
    obtain ⟨i1, i2⟩ := am_swr_ok (a := a) x _ _ _ s2
    by_cases hin : x.toInt < lo ∨ hi < x.toInt
    · have e1 := i1 (by omega)
      rw [e1] at K
      exact lv_tableOut hx hb hdec hin s1 K
    · have hj : (x.toInt - lo).toNat < os.toList.length := by omega
      have ho : os[(x.toInt - lo).toNat]? = some os.toList[(x.toInt - lo).toNat] := by
        rw [← Array.getElem?_toList, List.getElem?_eq_getElem hj]
      exact lv_tableIn hx hb hdec (fun z => hin (Or.inl z)) (fun z => hin (Or.inr z)) ho (i2 (x.toInt - lo).toNat _ (by omega) (List.getElem?_eq_getElem hj)) K
set_option maxHeartbeats 2000000 in
/-- a call of a method of the tables -/
theorem am_call_ok {own : String} {b d n0 nL : Nat} {N : am_T} {q : List Value × List Value} {A A1 : am_A} {v : Option Value} (hg : am_good Ts) (okM : am_okM Ts N) (hX : am_okX bs Xt) (hsb : sb < bs) (hx : p.tables.exec = Jvm.exec) (hb : c.code = cc) (hml : c.maxLocals = nL) (hls : ls.size = nL) (hown : s.vm.findClass own = some m.cls) (hts : ∀ w ∈ Ts, w.before args s = true) (hK : am_Kn cl Ts D ca sb sL sx Xt s)
    (hMet : Met l N.1 (Jvm.Cond.code N.1 N.2.1 N.2.2.1 N.2.2.2.1 :: Ts.filter goodWord) (am_rm d (A1.1.length - A.1.length) (A1.2 - A.2)) (am_Pre cl Ts D ca bs sb sL sx Xt A q.1) (am_Post cl D ca bs v A1) (A1.1.length - A.1.length) (A1.2 - A.2) (fun q => bs ≤ q))
    (hpar : (parseMethodDescriptor N.1.desc).map (fun d => d.parameters.length) = some b) (hlc : (match ins with
      | .invokevirtual i => Jvm.Cond.methodLink own i N.1 ∈ Ts ∧ Jvm.Cond.instanceMethod N.1 ∈ Ts ∧ Jvm.Cond.selects N.1.cls N.1 N.1 ∈ Ts ∧ ∃ (T : u_T) (n : Nat), cl[N.2.2.2.2]? = some (N.1.cls, T, n)
      | .invokespecial i => Jvm.Cond.methodLink own i N.1 ∈ Ts ∧ Jvm.Cond.instanceMethod N.1 ∈ Ts ∧ N.1.name = "<init>" ∧ N.2.2.2.1 = none
      | .invokestatic i => Jvm.Cond.methodLink own i N.1 ∈ Ts ∧ Jvm.Cond.static N.1 ∈ Ts
      | _ => False)) (hdec : decode cc pc = .ok (ins, 3)) (h1 : am_ca ins b st = some q) (hrc : am_rc bs ins A q.1 N.2.2.2.2 = true) (hcat : (q.2.map fun v => v.category).sum ≤ 8) (hP : va_P D cl (am_W bs ca A.1) H) (hS : va_S (fun q => bs ≤ q) s.heap H locs) (h0 : s.heap.size = bs + n0) (hn : n0 + cells = A.1.length)
    (hf : cells + (A1.1.length - A.1.length) ≤ R.cells ∧ slots + (A1.2 - A.2) ≤ R.slots) (hd1 : d + 1 ≤ R.frames) (hd2 : (d + 1) * 80 ≤ R.locals)
    (K2 : ∀ (H1 : Heap) (locs1 : List Loc), va_P D cl (am_W bs ca A1.1) H1 → va_S (fun q => bs ≤ q) s.heap H1 locs1 → W p l e R s m args below meth c H1 locs1 (cells + (A1.1.length - A.1.length)) (slots + (A1.2 - A.2)) Q (F0 m (pc + 3) ls (v.toList ++ q.2))) : W p l e R s m args below meth c H locs cells slots Q (F0 m pc ls st) := by
  obtain ⟨k1, k2, k3, k4, k5⟩ := okM
  have hG : GoodIn Ts (Jvm.Cond.code N.1 N.2.1 N.2.2.1 N.2.2.2.1 :: Ts.filter goodWord) := fun x hxm => by
    rcases List.mem_cons.mp hxm with rfl | hxm
    · exact ⟨k3, (hg _ k3).elim good_of_word (fun z => by cases z)⟩
    · exact ⟨(List.mem_filter.mp hxm).1, good_of_word (List.mem_filter.mp hxm).2⟩
  have hroom : (am_rm d (A1.1.length - A.1.length) (A1.2 - A.2)).frames + 1 ≤ R.frames ∧ 8 + (N.2.2.1 + 11) + (am_rm d (A1.1.length - A.1.length) (A1.2 - A.2)).locals ≤ R.locals := ⟨hd1, by show 8 + (N.2.2.1 + 11) + d * 80 ≤ R.locals; omega⟩
  have hbl : FrameBlind (am_Pre cl Ts D ca bs sb sL sx Xt A q.1) := fun a' U g mk z => ⟨z.1, am_Kn_call hX z.2.1, z.2.2.1, z.2.2.2⟩
  refine am_sz (fun _ hs2 => ?_)
  have hHs : H.size = bs + A.1.length := by
    have h9 : bs + A.1.length ≤ H.size := by
      rcases Nat.eq_zero_or_pos A.1.length with z | z
      · have := hS.1; omega
      · have := am_P_lt hP (i := A.1.length - 1) (by omega); omega
    omega
  have hpre : ∀ U : State, U.heap = H → s.WarmedH U.vm → am_Pre cl Ts D ca bs sb sL sx Xt A q.1 q.1.toArray U := fun U hU hW =>
    ⟨rfl, am_Kn_warm hX hsb hW (fun x hx' => by rw [hU]; exact hS.2.1 x (by omega) (Nat.not_le.mpr hx')) hK, by rw [hU]; exact hHs, by rw [hU]; exact hP⟩
  rcases am_ca_inv h1 with ⟨⟨i, rfl⟩, As, hAs, hq1, rfl⟩ | ⟨hne, o, As, hAs, hq1, rfl⟩
  · obtain ⟨l1, l2⟩ := hlc
    rw [hq1] at hMet hpre hbl
    have hB : CallB R s args own i N.1 N.2.1 N.2.2.1 N.2.2.2.1 (Jvm.Cond.code N.1 N.2.1 N.2.2.1 N.2.2.2.1 :: Ts.filter goodWord) (am_rm d (A1.1.length - A.1.length) (A1.2 - A.2)) (A1.1.length - A.1.length) (A1.2 - A.2) b := callB_of b hts hG rfl rfl rfl (hts _ k4) (hts _ l1) ⟨k2.1, k2.2, hpar⟩ hroom
    exact am_callg (va_runS (own := own) (As := As) (rest := q.2) ⟨hx, hb, hml, hown, hts⟩ hMet ⟨hB, hts _ l2⟩ ⟨hbl, hpre⟩ rfl hAs hls rfl (lv_room hcat) hdec hf) hS K2
  · rw [hq1] at hMet hpre hbl hrc
    split at hlc
    · rename_i i
      obtain ⟨l1, l2, l3, T, n, l4⟩ := hlc
      obtain ⟨fs, hob⟩ : ∃ fs, am_ob bs A o N.2.2.2.2 = some fs := Option.isSome_iff_exists.mp hrc
      have hB : CallB R s args own i N.1 N.2.1 N.2.2.1 N.2.2.2.1 (Jvm.Cond.code N.1 N.2.1 N.2.2.1 N.2.2.2.1 :: Ts.filter goodWord) (am_rm d (A1.1.length - A.1.length) (A1.2 - A.2)) (A1.1.length - A.1.length) (A1.2 - A.2) b := callB_of b hts hG rfl rfl rfl (hts _ k4) (hts _ l1) ⟨k2.1, k2.2, hpar⟩ hroom
      exact am_callg (va_runV (own := own) (C := N.1.cls) (As := As) (rest := q.2) ⟨hx, hb, hml, hown, hts⟩ hMet ⟨hB, hts _ l2, hts _ l3⟩ ⟨hbl, va_recv hK.1 hP l4 (am_W_at (ca := ca) (am_ob_inv hob)).1, hpre⟩ rfl hAs hls rfl (lv_room hcat) hdec hf) hS K2
    · rename_i i
      obtain ⟨l1, l2, l3, l4⟩ := hlc
      obtain ⟨y, by2, mL, rt, ci⟩ := N
      dsimp only at l4
      subst l4
      have hB : CallB R s args own i y by2 mL none (Jvm.Cond.code y by2 mL none :: Ts.filter goodWord) (am_rm d (A1.1.length - A.1.length) (A1.2 - A.2)) (A1.1.length - A.1.length) (A1.2 - A.2) b := callB_of b hts hG rfl rfl rfl (hts _ k4) (hts _ l1) ⟨k2.1, k2.2, hpar⟩ hroom
      exact am_callg (va_runI (own := own) (As := As) (rest := q.2) ⟨hx, hb, hml, hown, hts⟩ hMet ⟨hB, l3, hts _ l2⟩ ⟨hbl, hpre⟩ rfl hAs hls rfl (lv_room hcat) hdec hf) hS K2
    · exact absurd rfl (hne _)
    · exact hlc.elim
end AMZ
section AMV
variable {l : Launch} {mth : Nat → Option am_T} {tbl : Nat → Nat → Option am_I} {cl : List vw_C} {nf : Nat → List FieldType} {Ts : List Jvm.Cond} {D : va_G} {ca : FieldType → ClassId} {bs sb sL : Nat} {sx : Nat → Int32} {sa : Nat} {sp : Nat → List Value → Option (Option Value)} {Xt : State → Heap → Prop} {stx : Nat → String → Prop} {slk : Nat → String → Instr → Nat → Prop}
set_option maxHeartbeats 2000000 in
theorem am_walk (okC : am_okC cl nf Ts) (hg : am_good Ts) (okI : ∀ k M pc I, mth k = some M → tbl k pc = some I → am_okI mth cl Ts stx slk M pc I) (hX : am_okX bs Xt) (hT : am_okT l sa Xt stx) (hSp : am_okS l Ts bs sp Xt slk) (hsb : sb < bs) : ∀ f, am_Walk l mth tbl cl nf Ts D ca bs sb sL sx sa sp Xt f := by
  intro f
  induction f with
  | zero =>
    intro p e R s m args below meth c Q k d pc M lv st A A' v ls H locs cells slots n0 z0 _ _ _ _ _ _ _ _ h
    simp [am_run] at h
  | succ f ih =>
    intro p e R s m args below meth c Q k d pc M lv st A A' v ls H locs cells slots n0 z0 hx hb hml hown hts hmn hK hM h hl hP hS h0 hn hz hd1 hd2 hR1 hR2 kk
    have hmono := am_run_mono _ _ _ _ _ _ _ _ _ h
    rw [am_run] at h
    obtain ⟨M', hM', h⟩ := Option.bind_eq_some_iff.mp h
    obtain rfl : M = M' := Option.some.inj (hM.symm.trans hM')
    obtain ⟨I, hI, h⟩ := Option.bind_eq_some_iff.mp h
    obtain ⟨hdec, hlen, hkc, htg, hsw, hlk, hlc⟩ := okI k M pc I hM hI
    obtain ⟨ins, len, a, b, cI, sw⟩ := I
    dsimp only at hdec hlen hkc htg hsw hlk hlc h
    clear hM' hI okI
    split at h
    · -- the stack
      rename_i hkd
      have hln : len = am_ln ins := hlen.resolve_left (by rw [hkd]; decide)
      subst hln
      obtain ⟨q, h1, h2⟩ := Option.bind_eq_some_iff.mp h
      refine am_sk_ok (own := M.1.cls) hx hb hown ?_ h1 hdec (ih p e R s m args below meth c Q k d _ M lv q A A' v ls H locs cells slots n0 z0 hx hb hml hown hts hmn hK hM h2 hl hP hS h0 hn hz hd1 hd2 hR1 hR2 kk)
      unfold am_kc
      unfold am_kct at hkc
      split
      · dsimp only at hkc
        rw [if_pos (am_kd0 hkd)] at hkc
        exact hts _ hkc
      · exact hts _ hkc
      · exact hts _ hkc
      · trivial
    · -- a local is read
      rename_i hkd
      have hln : len = am_ln ins := hlen.resolve_left (by rw [hkd]; decide)
      subst hln
      obtain ⟨q, h1, h2⟩ := Option.bind_eq_some_iff.mp h
      exact am_lo_ok hx hb hl h1 hdec (ih p e R s m args below meth c Q k d _ M lv _ A A' v ls H locs cells slots n0 z0 hx hb hml hown hts hmn hK hM h2 hl hP hS h0 hn hz hd1 hd2 hR1 hR2 kk)
    · -- a local is written
      rename_i hkd
      have hln : len = am_ln ins := hlen.resolve_left (by rw [hkd]; decide)
      subst hln
      obtain ⟨q, h1, h2⟩ := Option.bind_eq_some_iff.mp h
      exact am_so_ok hx hb hl h1 hdec (fun ls' hl' => ih p e R s m args below meth c Q k d _ M _ _ A A' v ls' H locs cells slots n0 z0 hx hb hml hown hts hmn hK hM h2 hl' hP hS h0 hn hz hd1 hd2 hR1 hR2 kk)
    · -- a branch
      rename_i hkd
      have hln : len = am_ln ins := hlen.resolve_left (by rw [hkd]; decide)
      subst hln
      obtain ⟨q, h1, h2⟩ := Option.bind_eq_some_iff.mp h
      exact am_br_ok hx hb htg h1 hdec (ih p e R s m args below meth c Q k d _ M lv _ A A' v ls H locs cells slots n0 z0 hx hb hml hown hts hmn hK hM h2 hl hP hS h0 hn hz hd1 hd2 hR1 hR2 kk)
    · -- a switch
      rename_i hkd
      obtain ⟨q, h1, h2⟩ := Option.bind_eq_some_iff.mp h
      have hst : st = .int q.1 :: q.2 := by
        unfold am_st1 at h1
        split at h1
        · cases h1; rfl
        · cases h1
      subst hst
      exact am_sw_ok hx hb hdec hkd hsw (ih p e R s m args below meth c Q k d _ M lv _ A A' v ls H locs cells slots n0 z0 hx hb hml hown hts hmn hK hM h2 hl hP hS h0 hn hz hd1 hd2 hR1 hR2 kk)
    · -- the heap
      rename_i hkd
      have hln : len = am_ln ins := hlen.resolve_left (by rw [hkd]; decide)
      subst hln
      obtain ⟨q, h1, h2⟩ := Option.bind_eq_some_iff.mp h
      have hm2 := am_run_mono _ _ _ _ _ _ _ _ _ h2
      exact am_hp_ok (st' := q.1) (A' := q.2) okC hx hb hown hts hK.1 hK.2.1 hsb (by rw [hmn]; exact hlk) h1 hdec hP hS h0 hn hz (Nat.le_trans hm2.1 hR1) (Nat.le_trans hm2.2 hR2) (fun H' locs' cells' slots' hP' hS' hn' hz' => ih p e R s m args below meth c Q k d _ M lv _ _ A' v ls H' locs' cells' slots' n0 z0 hx hb hml hown hts hmn hK hM h2 hl hP' hS' h0 hn' hz' hd1 hd2 hR1 hR2 kk)
    · -- the end
      rename_i hkd
      have hln : len = am_ln ins := hlen.resolve_left (by rw [hkd]; decide)
      subst hln
      obtain ⟨q, h1, h2⟩ := Option.map_eq_some_iff.mp h
      cases h2
      exact kk pc ls st H locs cells slots ins hdec h1 hP hS hn hz
    · -- a call
      rename_i hkd
      obtain ⟨hl3, hkd0⟩ := am_kd7 hkd
      have hln : len = 3 := (hlen.resolve_left (by rw [hkd]; decide)).trans hl3
      subst hln
      unfold am_lc at hlc
      rw [if_pos hkd0] at hlc
      obtain ⟨q, h1, h2⟩ := Option.bind_eq_some_iff.mp h
      by_cases hcat : ¬ (q.2.map fun v => v.category).sum ≤ 8
      · rw [if_pos hcat] at h2; cases h2
      · rw [if_neg hcat] at h2
        have hcat := Decidable.not_not.mp hcat
        cases d with
        | zero => cases h2
        | succ d' =>
          dsimp only at h2
          by_cases ha : a = 10000
          · rw [if_pos ha] at h2 hlc
            obtain ⟨hb0, i, rfl, l1, l2, l3⟩ := hlc
            subst hb0
            rcases am_ca_inv h1 with ⟨⟨i', hi'⟩, _⟩ | ⟨_, o, As, hAs, hq1, hst⟩
            · cases hi'
            · have hAs0 : As = [] := List.length_eq_zero_iff.mp hAs
              subst hAs0
              have hst' : st = .ref o :: q.2 := hst
              subst hst'
              have hrm := lv_room (m := m) (pc := pc) (ls := ls) (rest := .ref o :: q.2) hcat
              exact W.objInit hx hb hown (hts _ l1) (hts _ l2) (hts _ l3) (g := F0 m pc ls (.ref o :: q.2)) rfl (by rw [hml]; exact hl.1) rfl hdec (by omega) (by omega) (ih p e R s m args below meth c Q k (d' + 1) _ M lv _ A A' v ls H locs cells slots n0 z0 hx hb hml hown hts hmn hK hM h2 hl hP hS h0 hn hz hd1 hd2 hR1 hR2 kk)
          · rw [if_neg ha] at h2 hlc
            by_cases ha2 : 10000 < a
            · rw [if_pos ha2] at h2 hlc
              by_cases hd8 : d' < 8
              · rw [if_pos hd8] at h2; cases h2
              · rw [if_neg hd8] at h2
                obtain ⟨w, h3, h4⟩ := Option.bind_eq_some_iff.mp h2
                exact hSp p e R s m args below meth c H locs cells slots Q M.2.1 pc M.2.2.1 ls st M.1.cls ins a b q w hx hb hml hl.1 hown hts hK.2.2.1 hlc h1 hcat h3 hdec hS (by omega) (by omega) (by omega) (by omega) (by omega) (ih p e R s m args below meth c Q k (d' + 1) _ M lv _ A A' v ls H locs cells slots n0 z0 hx hb hml hown hts hmn hK hM h4 hl hP hS h0 hn hz hd1 hd2 hR1 hR2 kk)
            · rw [if_neg ha2] at h2 hlc
              obtain ⟨N, h3, h4⟩ := Option.bind_eq_some_iff.mp h2
              obtain ⟨okM, hpar, hlc⟩ := hlc N h3
              by_cases hrc : am_rc bs ins A q.1 N.2.2.2.2 = true ∧ (lg_sl q.1).length ≤ N.2.2.1
              · rw [if_pos hrc] at h4
                obtain ⟨w, h5, h6⟩ := Option.bind_eq_some_iff.mp h4
                have mo1 := am_run_mono _ _ _ _ _ _ _ _ _ h5
                have mo2 := am_run_mono _ _ _ _ _ _ _ _ _ h6
                have hMet := am_met_of (l := l) (mth := mth) (tbl := tbl) (cl := cl) (nf := nf) (Ts := Ts) (D := D) (ca := ca) (bs := bs) (sb := sb) (sL := sL) (sx := sx) (sa := sa) (sp := sp) (Xt := Xt) hg hX ih h3 okM hrc.2 h5
                exact am_call_ok (own := M.1.cls) (nL := M.2.2.1) (n0 := n0) hg okM hX hsb hx hb hml hl.1 hown hts hK hMet hpar hlc hdec h1 hrc.1 hcat hP hS h0 hn ⟨by omega, by omega⟩ hd1 hd2 (fun H1 locs1 hP1 hS1 =>
                  ih p e R s m args below meth c Q k (d' + 1) _ M lv _ w.2 A' v ls H1 locs1 _ _ n0 z0 hx hb hml hown hts hmn hK hM h6 hl hP1 hS1 h0 (by omega) (by omega) hd1 hd2 hR1 hR2 kk)
              · rw [if_neg hrc] at h4; cases h4
    · -- a text
      rename_i hkd
      obtain ⟨i, rfl, hs⟩ := am_kd8 hkd
      have hln : len = 2 := hlen.resolve_left (by rw [hkd]; decide)
      subst hln
      have K := ih p e R s m args below meth c Q k d _ M lv _ A A' v ls H locs cells slots n0 z0 hx hb hml hown hts hmn hK hM h hl hP hS h0 hn hz hd1 hd2 hR1 hR2 kk
      unfold am_kct at hkc
      dsimp only at hkc
      rw [if_neg hs] at hkc
      exact hT p e R s m args below meth c H locs cells slots Q M.2.1 pc ls st M.1.cls i hx hb hown hK.2.2.1 hkc hdec K
    · cases h
end AMV
