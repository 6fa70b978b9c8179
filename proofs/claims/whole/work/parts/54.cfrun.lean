/-! PART 54: the class's own machine, and that the abstract machine does what it does -/
def cf_gf (a b : Nat) (st : List Value) (s : cf_S) : Option (List Value × cf_S) := match st with
  | .ref o :: r => if cf_cls o = some a ∧ b < (am_nf a).length then some (cf_fv s o a b :: r, s) else none
  | _ => none
def cf_pf (a b : Nat) (st : List Value) (s : cf_S) : Option (List Value × cf_S) := match st with
  | .int x :: .ref o :: r => if (cf_cls o = some a ∧ b < (am_nf a).length ∧ a ≠ 3 ∧ a ≠ 10 ∧ a ≠ 11) ∧ am_fit ((am_nf a).getD b .int) (.int x) = true then some (r, cf_si s o b x) else none
  | .long x :: .ref o :: r => if (cf_cls o = some a ∧ b < (am_nf a).length ∧ a ≠ 3 ∧ a ≠ 10 ∧ a ≠ 11) ∧ am_fit ((am_nf a).getD b .int) (.long x) = true then some (r, cf_sj s o b x) else none
  | _ => none
def cf_hp (ins : Instr) (a b : Nat) (st : List Value) (s : cf_S) : Option (List Value × cf_S) := match ins with
  | .getfield _ => cf_gf a b st s
  | .putfield _ => cf_pf a b st s
  | _ => none
/-- the leaves, in one step -/
def cf_prim (a : Nat) (vs : List Value) (s : cf_S) : Option (Option Value × cf_S) := match vs with
  | [.ref o] =>
    if a = 118 ∧ cf_cls o = some 3 then some (some (.int (s.1 o 1)), s)
    else if a = 119 ∧ cf_cls o = some 3 ∧ (s.1 o 2 = 0 ∨ s.1 o 2 = 1) then some (some (.int (s.1 o 2)), s)
    else if a = 270 ∧ cf_cls o = some 10 then some (some (.int (s.1 o 2)), s)
    else if a = 272 ∧ cf_cls o = some 10 ∧ cf_N s + 1 < 1000000000 then some (some (.int (tb_new s o)), tb_add s o)
    else if a = 143 ∧ o = 26 then some (none, hp_sw s) else none
  | [.ref o, .int i] =>
    if a = 120 ∧ cf_cls o = some 3 then some (some (.int (by_g s o i)), s)
    else if a = 121 ∧ cf_cls o = some 3 then some (none, by_c s o i)
    else if a = 122 ∧ cf_cls o = some 3 then some (none, by_a s o i)
    else if a = 271 ∧ cf_cls o = some 10 then some (none, tb_cut s o i)
    else if a = 280 ∧ cf_cls o = some 11 then some (some (.long (wd_g s o i)), s)
    else if a = 279 ∧ cf_cls o = some 11 ∧ cf_N s + 1 < 1000000000 then some (none, wd_f s o i) else none
  | [.ref o, .ref q] => if a = 124 ∧ cf_cls o = some 3 ∧ q = 1000000001 then some (none, by_L s o) else none
  | [.ref o, .int r, .int f] => if a = 273 ∧ cf_cls o = some 10 then some (some (.int (tb_get s o r f)), s) else none
  | [.ref o, .int r, .int f, .int v] => if a = 274 ∧ cf_cls o = some 10 then some (none, tb_set s o r f v) else none
  | [.ref o, .int i, .long v] => if a = 281 ∧ cf_cls o = some 11 then some (none, wd_s s o i v) else none
  | [.int t, .int v] => if a = 275 then some (some (.long (rf_word t v)), s) else none
  | [.long w] => if a = 276 then some (some (.int (rf_isOf w)), s) else if a = 277 then some (some (.int w.toInt32), s) else none
  | _ => none
def cf_ps : List Nat := [118, 119, 120, 121, 122, 124, 143, 270, 271, 272, 273, 274, 275, 276, 277, 279, 280, 281]
def cf_rc (ins : Instr) (vs : List Value) (ci : Nat) : Bool := match ins with
  | .invokevirtual _ => (match vs with
    | .ref o :: _ => decide (cf_cls o = some ci)
    | _ => false)
  | _ => true
def cf_run : Nat → Nat → Nat → Nat → am_L → List Value → cf_S → Option (Option Value × cf_S)
  | 0, _, _, _, _, _, _ => none
  | f + 1, d, k, pc, lv, st, s => (am_mth k).bind fun M => (am_tbl k pc).bind fun I =>
    match am_kd I.1 I.2.2.2.2.2 with
    | 0 => (am_sk I.1 I.2.2.1 st).bind fun st' => cf_run f d k (pc + I.2.1) lv st' s
    | 1 => (am_lo I.1 lv).bind fun v => cf_run f d k (pc + I.2.1) lv (v :: st) s
    | 2 => (am_so I.1 M.2.2.1 lv st).bind fun q => cf_run f d k (pc + I.2.1) q.1 q.2 s
    | 3 => (am_br I.1 st).bind fun q => cf_run f d k (if q.1 = true then I.2.2.1 else pc + I.2.1) lv q.2 s
    | 4 => (am_st1 st).bind fun q => cf_run f d k (am_sw q.1 I.2.2.2.2.2 I.2.2.1) lv q.2 s
    | 5 => (cf_hp I.1 I.2.2.1 I.2.2.2.1 st s).bind fun q => cf_run f d k (pc + I.2.1) lv q.1 q.2
    | 6 => (am_rt I.1 M.2.2.2.1 st).map fun v => (v, s)
    | 7 => (am_ca I.1 I.2.2.2.1 st).bind fun q => if ¬ (q.2.map fun v => v.category).sum ≤ 8 ∨ 10000 ≤ I.2.2.1 then none else
        match d with
        | 0 => none
        | d' + 1 => (am_mth I.2.2.1).bind fun N => if cf_rc I.1 q.1 N.2.2.2.2 = true ∧ (lg_sl q.1).length ≤ N.2.2.1 then
            (if I.2.2.1 ∈ cf_ps then (if d' < 9 then none else (cf_prim I.2.2.1 q.1 s).bind fun w => cf_run f (d' + 1) k (pc + I.2.1) lv (w.1.toList ++ q.2) w.2)
             else (cf_run f d' I.2.2.1 0 (lv_args 0 q.1) [] s).bind fun w => cf_run f (d' + 1) k (pc + I.2.1) lv (w.1.toList ++ q.2) w.2)
            else none
    | 8 => cf_run f d k (pc + I.2.1) lv (.ref 1000000001 :: st) s
    | _ => none
section CS
variable {sL : Nat} {sx : Nat → Int32}
theorem cf_hp_ok {ins : Instr} {a b : Nat} {st st' : List Value} {s s' : cf_S} {A : am_A} (h : cf_hp ins a b st s = some (st', s')) (hH : cf_H s A) : ∃ A', am_hp 0 am_nf 1000000000 sL sx ins a b st A = some (st', A') ∧ cf_H s' A' ∧ cf_F A A' := by
  unfold cf_hp at h
  split at h
  · unfold cf_gf at h
    split at h
    · split at h
      · rename_i hc
        cases h
        refine ⟨A, ?_, hH, cf_F.rf⟩
        simp only [am_hp, am_get, am_ob_of (hH.1 _ a hc.1), Option.bind_some]
        unfold cf_fs
        simp [hc.2]
      · cases h
    · cases h
  · unfold cf_pf at h
    split at h
    · split at h
      · rename_i x o r hc
        cases h
        obtain ⟨⟨ho, hb, hc3⟩, hf⟩ := hc
        have hft : (am_nf a).getD b .int = .int ∨ (am_nf a).getD b .int = .boolean := by
          unfold am_fit at hf
          dsimp only at hf
          split at hf
          · left; assumption
          · right; assumption
          · cases hf
        have e : (cf_fs s o a).set b (.int x) = cf_fs (cf_si s o b x) o a := by
          unfold cf_fs
          refine cf_map_set hb ?_ (fun c hcb => ?_)
          · unfold cf_fv
            rcases hft with z | z <;> rw [z] <;> simp [cf_si, cf_ui]
          · unfold cf_fv
            have e1 : (cf_si s o b x).1 o c = s.1 o c := by simp [cf_si, cf_ui, hcb]
            rw [e1]
            rfl
        refine ⟨am_up 0 A o (.inr (a, cf_fs (cf_si s o b x) o a)), ?_, cf_H_obj hH ho hc3 rfl (fun p hp => ?_) (fun p hp => rfl), cf_F.up (Or.inl (cf_cls_lt ho))⟩
        · simp only [am_hp, am_put, am_ob_of (hH.1 _ a ho), Option.bind_some]
          rw [if_pos ⟨by unfold cf_fs; simpa using hb, hf⟩, e]
        · funext c
          simp [cf_si, cf_ui, hp]
      · cases h
    · split at h
      · rename_i x o r hc
        cases h
        obtain ⟨⟨ho, hb, hc3⟩, hf⟩ := hc
        have hft : (am_nf a).getD b .int = .long := by
          unfold am_fit at hf
          dsimp only at hf
          split at hf
          · assumption
          · cases hf
        have e : (cf_fs s o a).set b (.long x) = cf_fs (cf_sj s o b x) o a := by
          unfold cf_fs
          refine cf_map_set hb ?_ (fun c hcb => ?_)
          · unfold cf_fv
            rw [hft]; simp [cf_sj]
          · unfold cf_fv
            have e1 : (cf_sj s o b x).2.1 o c = s.2.1 o c := by simp [cf_sj, hcb]
            rw [e1]
            rfl
        refine ⟨am_up 0 A o (.inr (a, cf_fs (cf_sj s o b x) o a)), ?_, cf_H_obj hH ho hc3 rfl (fun p hp => rfl) (fun p hp => ?_), cf_F.up (Or.inl (cf_cls_lt ho))⟩
        · simp only [am_hp, am_put, am_ob_of (hH.1 _ a ho), Option.bind_some]
          rw [if_pos ⟨by unfold cf_fs; simpa using hb, hf⟩, e]
        · funext c
          simp [cf_sj, hp]
      · cases h
    · cases h
  · cases h
theorem cf_prim_ok {a d : Nat} {vs : List Value} {s s' : cf_S} {r : Option Value} {A : am_A} (h : cf_prim a vs s = some (r, s')) (hH : cf_H s A) (hd : 9 ≤ d) : am_R sL sx d a (0, lv_args 0 vs, [], A) (fun v A' => v = r ∧ cf_H s' A' ∧ cf_F A A') := by
  unfold cf_prim at h
  split at h
  · rename_i o
    split at h
    · rename_i hc; obtain ⟨rfl, ho⟩ := hc; cases h
      have h0 := am_ob_of (hH.1 o 3 ho)
      rw [cf_fs3] at h0
      exact am_R_imp (c_Bytes_length h0) (fun v A' e => ⟨e.2, by rw [e.1]; exact hH, by rw [e.1]; exact cf_F.rf⟩)
    split at h
    · rename_i hc; obtain ⟨rfl, ho, hf⟩ := hc; cases h
      have h0 := am_ob_of (hH.1 o 3 ho)
      rw [cf_fs3] at h0
      exact am_R_imp (c_Bytes_isOver hf h0) (fun v A' e => ⟨e.2, by rw [e.1]; exact hH, by rw [e.1]; exact cf_F.rf⟩)
    split at h
    · rename_i hc; obtain ⟨rfl, ho⟩ := hc; cases h
      have h0 := am_ob_of (hH.1 o 10 ho)
      rw [cf_fs10] at h0
      exact am_R_imp (c_Table_rows h0) (fun v A' e => ⟨e.2, by rw [e.1]; exact hH, by rw [e.1]; exact cf_F.rf⟩)
    split at h
    · rename_i hc; obtain ⟨rfl, ho, hr⟩ := hc; cases h
      exact cp_tadd hH ho hr
    split at h
    · rename_i hc; obtain ⟨rfl, rfl⟩ := hc; cases h
      exact cp_sw hH
    · cases h
  · rename_i o i
    split at h
    · rename_i hc; obtain ⟨rfl, ho⟩ := hc; cases h
      exact am_R_imp (cp_at hH ho) (fun v A' e => ⟨e.1, by rw [e.2]; exact hH, by rw [e.2]; exact cf_F.rf⟩)
    split at h
    · rename_i hc; obtain ⟨rfl, ho⟩ := hc; cases h
      exact cp_cut hH ho
    split at h
    · rename_i hc; obtain ⟨rfl, ho⟩ := hc; cases h
      exact cp_add hH ho
    split at h
    · rename_i hc; obtain ⟨rfl, ho⟩ := hc; cases h
      exact cp_tcut hH ho
    split at h
    · rename_i hc; obtain ⟨rfl, ho⟩ := hc; cases h
      exact am_R_imp (cp_wget hH ho) (fun v A' e => ⟨e.1, by rw [e.2]; exact hH, by rw [e.2]; exact cf_F.rf⟩)
    split at h
    · rename_i hc; obtain ⟨rfl, ho, hr⟩ := hc; cases h
      exact cp_fit hH ho hr
    · cases h
  · rename_i o q
    split at h
    · rename_i hc; obtain ⟨rfl, ho, rfl⟩ := hc; cases h
      obtain ⟨e, rfl⟩ := Nat.exists_eq_add_of_le hd
      rw [show 9 + e = (8 + e) + 1 by omega]
      exact cp_let (by omega) hH ho
    · cases h
  · split at h
    · rename_i hc; obtain ⟨rfl, ho⟩ := hc; cases h
      exact am_R_imp (cp_get hH ho) (fun v A' e => ⟨e.1, by rw [e.2]; exact hH, by rw [e.2]; exact cf_F.rf⟩)
    · cases h
  · split at h
    · rename_i hc; obtain ⟨rfl, ho⟩ := hc; cases h
      exact cp_set hH ho
    · cases h
  · split at h
    · rename_i hc; obtain ⟨rfl, ho⟩ := hc; cases h
      exact cp_wset hH ho
    · cases h
  · split at h
    · rename_i hc; subst hc; cases h
      exact am_R_imp c_Word_of (fun v A' e => ⟨e.2, by rw [e.1]; exact hH, by rw [e.1]; exact cf_F.rf⟩)
    · cases h
  · split at h
    · rename_i hc; subst hc; cases h
      exact am_R_imp c_Word_tag (fun v A' e => ⟨e.2, by rw [e.1]; exact hH, by rw [e.1]; exact cf_F.rf⟩)
    split at h
    · rename_i hc; subst hc; cases h
      exact am_R_imp c_Word_value (fun v A' e => ⟨e.2, by rw [e.1]; exact hH, by rw [e.1]; exact cf_F.rf⟩)
    · cases h
  · cases h
theorem am_R_st {d k pc : Nat} {lv : am_L} {st : List Value} {A : am_A} {c' : am_C} {Q : Option Value → am_A → Prop} (he : ∀ f, am_rn sL sx (f + 1) d k pc lv st A = am_rn sL sx f d k c'.1 c'.2.1 c'.2.2.1 c'.2.2.2) (hR : am_R sL sx d k c' Q) : am_R sL sx d k (pc, lv, st, A) Q := by
  obtain ⟨f, v, A', hf, hq⟩ := hR
  exact ⟨f + 1, v, A', (he f).trans hf, hq⟩
theorem am_R_callI {d k pc : Nat} {lv : am_L} {st : List Value} {A : am_A} {M N : am_T} {I : am_I} {q : List Value × List Value} {Q Q' : Option Value → am_A → Prop} (hM : am_mth k = some M) (hT : am_tbl k pc = some I) (hkd : am_kd I.1 I.2.2.2.2.2 = 7) (ha : I.2.2.1 < 10000) (hN : am_mth I.2.2.1 = some N) (hca : am_ca I.1 I.2.2.2.1 st = some q) (hcat : (q.2.map fun v => v.category).sum ≤ 8) (hrc : am_rc 0 I.1 A q.1 N.2.2.2.2 = true ∧ (lg_sl q.1).length ≤ N.2.2.1)
    (hR : am_R sL sx d I.2.2.1 (0, lv_args 0 q.1, [], A) Q') (kk : ∀ v A', Q' v A' → am_R sL sx (d + 1) k (pc + I.2.1, lv, v.toList ++ q.2, A') Q) : am_R sL sx (d + 1) k (pc, lv, st, A) Q := by
  obtain ⟨f, v, A1, hf, hq⟩ := hR
  obtain ⟨g, w, A2, hg, hQ⟩ := kk v A1 hq
  refine ⟨max f g + 1, w, A2, ?_, hQ⟩
  show am_run 0 am_nf 1000000000 sL sx am_mth am_tbl 1000000001 am_sp (max f g + 1) (d + 1) k pc lv st A = _
  rw [am_run, hM, hT]
  simp only [Option.bind_some, hkd, hca]
  rw [if_neg (Decidable.not_not.mpr hcat), if_neg (by omega), if_neg (by omega), hN]
  simp only [Option.bind_some]
  rw [if_pos hrc, am_run_le hf (Nat.le_max_left f g)]
  exact am_run_le hg (Nat.le_max_right f g)
theorem cf_rc_ok {ins : Instr} {vs : List Value} {ci : Nat} {s : cf_S} {A : am_A} (hH : cf_H s A) (h : cf_rc ins vs ci = true) : am_rc 0 ins A vs ci = true := by
  unfold cf_rc at h
  unfold am_rc
  split at h
  · split at h
    · simp only [am_ob_of (hH.1 _ ci (of_decide_eq_true h)), Option.isSome_some]
    · cases h
  · rename_i hn
    split
    · exact absurd rfl (hn _)
    · rfl
set_option maxHeartbeats 2000000 in
theorem cf_sound : ∀ (f d k pc : Nat) (lv : am_L) (st : List Value) (s s' : cf_S) (v : Option Value) (A : am_A), cf_run f d k pc lv st s = some (v, s') → cf_H s A → am_R sL sx d k (pc, lv, st, A) (fun v' A' => v' = v ∧ cf_H s' A' ∧ cf_F A A') := by
  intro f
  induction f with
  | zero => intro d k pc lv st s s' v A h; simp [cf_run] at h
  | succ f ih =>
    intro d k pc lv st s s' v A h hH
    rw [cf_run] at h
    obtain ⟨M, hM, h⟩ := Option.bind_eq_some_iff.mp h
    obtain ⟨I, hI, h⟩ := Option.bind_eq_some_iff.mp h
    have un : ∀ g, am_rn sL sx (g + 1) d k pc lv st A = am_run 0 am_nf 1000000000 sL sx am_mth am_tbl 1000000001 am_sp (g + 1) d k pc lv st A := fun _ => rfl
    split at h
    · rename_i hk
      obtain ⟨q, h1, h2⟩ := Option.bind_eq_some_iff.mp h
      refine am_R_st (c' := (pc + I.2.1, lv, q, A)) (fun g => ?_) (ih _ _ _ _ _ _ _ _ _ h2 hH)
      rw [un, am_run, hM, hI]; simp only [Option.bind_some, hk, h1]
    · rename_i hk
      obtain ⟨q, h1, h2⟩ := Option.bind_eq_some_iff.mp h
      refine am_R_st (c' := (pc + I.2.1, lv, q :: st, A)) (fun g => ?_) (ih _ _ _ _ _ _ _ _ _ h2 hH)
      rw [un, am_run, hM, hI]; simp only [Option.bind_some, hk, h1]
    · rename_i hk
      obtain ⟨q, h1, h2⟩ := Option.bind_eq_some_iff.mp h
      refine am_R_st (c' := (pc + I.2.1, q.1, q.2, A)) (fun g => ?_) (ih _ _ _ _ _ _ _ _ _ h2 hH)
      rw [un, am_run, hM, hI]; simp only [Option.bind_some, hk, h1]
    · rename_i hk
      obtain ⟨q, h1, h2⟩ := Option.bind_eq_some_iff.mp h
      refine am_R_st (c' := (if q.1 = true then I.2.2.1 else pc + I.2.1, lv, q.2, A)) (fun g => ?_) (ih _ _ _ _ _ _ _ _ _ h2 hH)
      rw [un, am_run, hM, hI]; simp only [Option.bind_some, hk, h1]
    · rename_i hk
      obtain ⟨q, h1, h2⟩ := Option.bind_eq_some_iff.mp h
      refine am_R_st (c' := (am_sw q.1 I.2.2.2.2.2 I.2.2.1, lv, q.2, A)) (fun g => ?_) (ih _ _ _ _ _ _ _ _ _ h2 hH)
      rw [un, am_run, hM, hI]; simp only [Option.bind_some, hk, h1]
    · rename_i hk
      obtain ⟨q, h1, h2⟩ := Option.bind_eq_some_iff.mp h
      obtain ⟨A1, e1, hH1, hF1⟩ := cf_hp_ok (sL := sL) (sx := sx) (st' := q.1) (s' := q.2) h1 hH
      refine am_R_st (c' := (pc + I.2.1, lv, q.1, A1)) (fun g => ?_) (am_R_imp (ih _ _ _ _ _ _ _ _ A1 h2 hH1) (fun v' A' e => ⟨e.1, e.2.1, hF1.tr e.2.2⟩))
      rw [un, am_run, hM, hI]; simp only [Option.bind_some, hk, e1]
    · rename_i hk
      obtain ⟨q, h1, h2⟩ := Option.map_eq_some_iff.mp h
      cases h2
      refine ⟨1, v, A, ?_, rfl, hH, cf_F.rf⟩
      show am_run 0 am_nf 1000000000 sL sx am_mth am_tbl 1000000001 am_sp 1 d k pc lv st A = _
      rw [am_run, hM, hI]; simp only [Option.bind_some, hk, h1, Option.map_some]
    · rename_i hk
      obtain ⟨q, h1, h2⟩ := Option.bind_eq_some_iff.mp h
      by_cases hc : ¬ (q.2.map fun v => v.category).sum ≤ 8 ∨ 10000 ≤ I.2.2.1
      · rw [if_pos hc] at h2; cases h2
      · rw [if_neg hc] at h2
        have hc1 : (q.2.map fun v => v.category).sum ≤ 8 := Decidable.not_not.mp (fun z => hc (Or.inl z))
        have hc2 : I.2.2.1 < 10000 := Nat.lt_of_not_le (fun z => hc (Or.inr z))
        cases d with
        | zero => cases h2
        | succ d' =>
          dsimp only at h2
          obtain ⟨N, h3, h4⟩ := Option.bind_eq_some_iff.mp h2
          by_cases hrc : cf_rc I.1 q.1 N.2.2.2.2 = true ∧ (lg_sl q.1).length ≤ N.2.2.1
          · rw [if_pos hrc] at h4
            by_cases hp : I.2.2.1 ∈ cf_ps
            · rw [if_pos hp] at h4
              by_cases hd : d' < 9
              · rw [if_pos hd] at h4; cases h4
              · rw [if_neg hd] at h4
                obtain ⟨w, h5, h6⟩ := Option.bind_eq_some_iff.mp h4
                refine am_R_callI hM hI hk hc2 h3 h1 hc1 ⟨cf_rc_ok hH hrc.1, hrc.2⟩ (cf_prim_ok (r := w.1) (s' := w.2) h5 hH (by omega)) (fun v' A' e => ?_)
                obtain ⟨rfl, hH1, hF1⟩ := e
                exact am_R_imp (ih _ _ _ _ _ _ _ _ A' h6 hH1) (fun v' A' e => ⟨e.1, e.2.1, hF1.tr e.2.2⟩)
            · rw [if_neg hp] at h4
              obtain ⟨w, h5, h6⟩ := Option.bind_eq_some_iff.mp h4
              refine am_R_callI hM hI hk hc2 h3 h1 hc1 ⟨cf_rc_ok hH hrc.1, hrc.2⟩ (ih _ _ _ _ _ _ _ _ A h5 hH) (fun v' A' e => ?_)
              obtain ⟨rfl, hH1, hF1⟩ := e
              exact am_R_imp (ih _ _ _ _ _ _ _ _ A' h6 hH1) (fun v' A' e => ⟨e.1, e.2.1, hF1.tr e.2.2⟩)
          · rw [if_neg hrc] at h4; cases h4
    · rename_i hk
      refine am_R_st (c' := (pc + I.2.1, lv, .ref 1000000001 :: st, A)) (fun g => ?_) (ih _ _ _ _ _ _ _ _ _ h hH)
      rw [un, am_run, hM, hI]; simp only [Option.bind_some, hk]
    · cases h
end CS
