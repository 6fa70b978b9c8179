/-! PART 18: to run a method of the system, at base 0: blocks, branches, calls -/
theorem am_run_more {bs : Nat} {nf : Nat → List FieldType} {sb sL : Nat} {sx : Nat → Int32} {mth : Nat → Option am_T} {tbl : Nat → Nat → Option am_I} {sa : Nat} {sp : Nat → List Value → Option (Option Value)} :
    ∀ (f d k pc : Nat) (lv : am_L) (st : List Value) (A : am_A) (x : Option Value × am_A), am_run bs nf sb sL sx mth tbl sa sp f d k pc lv st A = some x → am_run bs nf sb sL sx mth tbl sa sp (f + 1) d k pc lv st A = some x := by
  intro f
  induction f with
  | zero => intro d k pc lv st A x h; simp [am_run] at h
  | succ f ih =>
    intro d k pc lv st A x h
    rw [am_run] at h ⊢
    obtain ⟨M, hM, h⟩ := Option.bind_eq_some_iff.mp h
    obtain ⟨I, hI, h⟩ := Option.bind_eq_some_iff.mp h
    refine Option.bind_eq_some_iff.mpr ⟨M, hM, Option.bind_eq_some_iff.mpr ⟨I, hI, ?_⟩⟩
    split at h
    · obtain ⟨q, h1, h2⟩ := Option.bind_eq_some_iff.mp h; exact Option.bind_eq_some_iff.mpr ⟨q, h1, ih _ _ _ _ _ _ _ h2⟩
    · obtain ⟨q, h1, h2⟩ := Option.bind_eq_some_iff.mp h; exact Option.bind_eq_some_iff.mpr ⟨q, h1, ih _ _ _ _ _ _ _ h2⟩
    · obtain ⟨q, h1, h2⟩ := Option.bind_eq_some_iff.mp h; exact Option.bind_eq_some_iff.mpr ⟨q, h1, ih _ _ _ _ _ _ _ h2⟩
    · obtain ⟨q, h1, h2⟩ := Option.bind_eq_some_iff.mp h; exact Option.bind_eq_some_iff.mpr ⟨q, h1, ih _ _ _ _ _ _ _ h2⟩
    · obtain ⟨q, h1, h2⟩ := Option.bind_eq_some_iff.mp h; exact Option.bind_eq_some_iff.mpr ⟨q, h1, ih _ _ _ _ _ _ _ h2⟩
    · obtain ⟨q, h1, h2⟩ := Option.bind_eq_some_iff.mp h; exact Option.bind_eq_some_iff.mpr ⟨q, h1, ih _ _ _ _ _ _ _ h2⟩
    · exact h
    · obtain ⟨q, h1, h2⟩ := Option.bind_eq_some_iff.mp h
      refine Option.bind_eq_some_iff.mpr ⟨q, h1, ?_⟩
      split at h2
      · cases h2
      · rename_i hc
        rw [if_neg hc]
        cases d with
        | zero => cases h2
        | succ d' =>
          dsimp only at h2 ⊢
          split at h2
          · rename_i ha
            rw [if_pos ha]
            exact ih _ _ _ _ _ _ _ h2
          · rename_i ha
            rw [if_neg ha]
            split at h2
            · rename_i ha2
              rw [if_pos ha2]
              split at h2
              · cases h2
              · rename_i h8
                rw [if_neg h8]
                obtain ⟨w, h3, h4⟩ := Option.bind_eq_some_iff.mp h2
                exact Option.bind_eq_some_iff.mpr ⟨w, h3, ih _ _ _ _ _ _ _ h4⟩
            · rename_i ha2
              rw [if_neg ha2]
              obtain ⟨N, h3, h4⟩ := Option.bind_eq_some_iff.mp h2
              refine Option.bind_eq_some_iff.mpr ⟨N, h3, ?_⟩
              split at h4
              · rename_i hrc
                rw [if_pos hrc]
                obtain ⟨w, h5, h6⟩ := Option.bind_eq_some_iff.mp h4
                exact Option.bind_eq_some_iff.mpr ⟨w, ih _ _ _ _ _ _ _ h5, ih _ _ _ _ _ _ _ h6⟩
              · cases h4
    · exact ih _ _ _ _ _ _ _ h
    · cases h
theorem am_run_le {bs : Nat} {nf : Nat → List FieldType} {sb sL : Nat} {sx : Nat → Int32} {mth : Nat → Option am_T} {tbl : Nat → Nat → Option am_I} {sa : Nat} {sp : Nat → List Value → Option (Option Value)} {f g d k pc : Nat} {lv : am_L} {st : List Value} {A : am_A} {x : Option Value × am_A} (h : am_run bs nf sb sL sx mth tbl sa sp f d k pc lv st A = some x) (hg : f ≤ g) : am_run bs nf sb sL sx mth tbl sa sp g d k pc lv st A = some x := by
  obtain ⟨n, rfl⟩ := Nat.exists_eq_add_of_le hg
  clear hg
  induction n with
  | zero => exact h
  | succ n ih => exact am_run_more _ _ _ _ _ _ _ _ ih
/-- the letters of the text -/
def am_txt : List Int32 := [108, 101, 116, 105, 110, 99, 97, 115, 101, 111, 102, 109, 97, 105, 110, 84, 114, 117, 101, 70, 97, 108, 115, 101]
/-- String.length and String.charAt of the text -/
def am_sp (j : Nat) (vs : List Value) : Option (Option Value) := match vs with
  | [.ref o] => if j = 10001 ∧ o = 1000000001 then some (some (.int 24)) else none
  | [.ref o, .int i] => if j = 10002 ∧ o = 1000000001 ∧ ¬ (i < 0 ∨ 24 ≤ i.toNatClampNeg) then some (some (.int (am_txt.getD i.toNatClampNeg 0))) else none
  | _ => none
abbrev am_C : Type := Nat × am_L × List Value × am_A
section RC
variable (sL : Nat) (sx : Nat → Int32)
abbrev am_rn : Nat → Nat → Nat → Nat → am_L → List Value → am_A → Option (Option Value × am_A) := am_run 0 am_nf 1000000000 sL sx am_mth am_tbl 1000000001 am_sp
/-- the method k, at depth d, from a state on, comes to its end, with Q of its answer and the heap -/
def am_R (d k : Nat) (c : am_C) (Q : Option Value → am_A → Prop) : Prop := ∃ f v A', am_rn sL sx f d k c.1 c.2.1 c.2.2.1 c.2.2.2 = some (v, A') ∧ Q v A'
/-- one step that is no call and no end -/
def am_nx (t : List (Nat × am_I)) (nL : Nat) (c : am_C) : Option am_C := (am_look t c.1).bind fun I =>
  match am_kd I.1 I.2.2.2.2.2 with
  | 0 => (am_sk I.1 I.2.2.1 c.2.2.1).map fun st' => (c.1 + I.2.1, c.2.1, st', c.2.2.2)
  | 1 => (am_lo I.1 c.2.1).map fun v => (c.1 + I.2.1, c.2.1, v :: c.2.2.1, c.2.2.2)
  | 2 => (am_so I.1 nL c.2.1 c.2.2.1).map fun q => (c.1 + I.2.1, q.1, q.2, c.2.2.2)
  | 3 => (am_br I.1 c.2.2.1).map fun q => (if q.1 = true then I.2.2.1 else c.1 + I.2.1, c.2.1, q.2, c.2.2.2)
  | 4 => (am_st1 c.2.2.1).map fun q => (am_sw q.1 I.2.2.2.2.2 I.2.2.1, c.2.1, q.2, c.2.2.2)
  | 5 => (am_hp 0 am_nf 1000000000 sL sx I.1 I.2.2.1 I.2.2.2.1 c.2.2.1 c.2.2.2).map fun q => (c.1 + I.2.1, c.2.1, q.1, q.2)
  | 8 => some (c.1 + I.2.1, c.2.1, .ref 1000000001 :: c.2.2.1, c.2.2.2)
  | _ => none
def am_nxs (t : List (Nat × am_I)) (nL : Nat) : Nat → am_C → Option am_C
  | 0, c => some c
  | n + 1, c => (am_nx sL sx t nL c).bind (am_nxs t nL n)
variable {sL sx}
theorem am_R_nx {d k : Nat} {M : am_T} {t : List (Nat × am_I)} {c c' : am_C} {Q : Option Value → am_A → Prop} (hk : am_prog[k]? = some (M, t)) (h : am_nx sL sx t M.2.2.1 c = some c') (hR : am_R sL sx d k c' Q) : am_R sL sx d k c Q := by
  obtain ⟨f, v, A', hf, hq⟩ := hR
  refine ⟨f + 1, v, A', ?_, hq⟩
  have hM : am_mth k = some M := by unfold am_mth; rw [hk]; rfl
  unfold am_nx at h
  obtain ⟨I, hI, h⟩ := Option.bind_eq_some_iff.mp h
  have hT : am_tbl k c.1 = some I := by unfold am_tbl; rw [hk]; exact hI
  show am_run 0 am_nf 1000000000 sL sx am_mth am_tbl 1000000001 am_sp (f + 1) d k c.1 c.2.1 c.2.2.1 c.2.2.2 = _
  rw [am_run, hM, hT]
  simp only [Option.bind_some]
  split at h
  · obtain ⟨q, h1, rfl⟩ := Option.map_eq_some_iff.mp h; simp only [*, Option.bind_some] <;> exact hf
  · obtain ⟨q, h1, rfl⟩ := Option.map_eq_some_iff.mp h; simp only [*, Option.bind_some] <;> exact hf
  · obtain ⟨q, h1, rfl⟩ := Option.map_eq_some_iff.mp h; simp only [*, Option.bind_some] <;> exact hf
  · obtain ⟨q, h1, rfl⟩ := Option.map_eq_some_iff.mp h; simp only [*, Option.bind_some] <;> exact hf
  · obtain ⟨q, h1, rfl⟩ := Option.map_eq_some_iff.mp h; simp only [*, Option.bind_some] <;> exact hf
  · obtain ⟨q, h1, rfl⟩ := Option.map_eq_some_iff.mp h; simp only [*, Option.bind_some] <;> exact hf
  · cases h; simp only [*] <;> exact hf
  · cases h
/-- a block of n steps -/
theorem am_R_blk {d k : Nat} {M : am_T} {t : List (Nat × am_I)} {Q : Option Value → am_A → Prop} (hk : am_prog[k]? = some (M, t)) : ∀ (n : Nat) {c c' : am_C}, am_nxs sL sx t M.2.2.1 n c = some c' → am_R sL sx d k c' Q → am_R sL sx d k c Q := by
  intro n
  induction n with
  | zero => intro c c' h hR; cases h; exact hR
  | succ n ih =>
    intro c c' h hR
    obtain ⟨c1, h1, h2⟩ := Option.bind_eq_some_iff.mp h
    exact am_R_nx hk h1 (ih h2 hR)
/-- the end -/
theorem am_R_ret {d k : Nat} {M : am_T} {t : List (Nat × am_I)} {c : am_C} {Q : Option Value → am_A → Prop} {I : am_I} {v : Option Value} (hk : am_prog[k]? = some (M, t)) (hI : am_look t c.1 = some I) (hkd : am_kd I.1 I.2.2.2.2.2 = 6) (hv : am_rt I.1 M.2.2.2.1 c.2.2.1 = some v) (hQ : Q v c.2.2.2) : am_R sL sx d k c Q := by
  refine ⟨1, v, c.2.2.2, ?_, hQ⟩
  have hM : am_mth k = some M := by unfold am_mth; rw [hk]; rfl
  have hT : am_tbl k c.1 = some I := by unfold am_tbl; rw [hk]; exact hI
  show am_run 0 am_nf 1000000000 sL sx am_mth am_tbl 1000000001 am_sp 1 d k c.1 c.2.1 c.2.2.1 c.2.2.2 = _
  rw [am_run, hM, hT]
  simp only [Option.bind_some, hkd, hv, Option.map_some]
/-- a call -/
theorem am_R_call {d k a b pc : Nat} {lv : am_L} {st : List Value} {A : am_A} {M N : am_T} {t t' : List (Nat × am_I)} {ins : Instr} {cI : Nat} {sw : List (Int32 × Nat)} {q : List Value × List Value} {Q Q' : Option Value → am_A → Prop} (hk : am_prog[k]? = some (M, t)) (hI : am_look t pc = some (ins, 3, a, b, cI, sw)) (hkd : am_kd ins sw = 7) (ha : a < 10000) (hN : am_prog[a]? = some (N, t')) (hca : am_ca ins b st = some q) (hcat : (q.2.map fun v => v.category).sum ≤ 8) (hrc : am_rc 0 ins A q.1 N.2.2.2.2 = true ∧ (lg_sl q.1).length ≤ N.2.2.1)
    (hR : am_R sL sx d a (0, lv_args 0 q.1, [], A) Q') (kk : ∀ v A', Q' v A' → am_R sL sx (d + 1) k (pc + 3, lv, v.toList ++ q.2, A') Q) : am_R sL sx (d + 1) k (pc, lv, st, A) Q := by
  obtain ⟨f, v, A1, hf, hq⟩ := hR
  obtain ⟨g, w, A2, hg, hQ⟩ := kk v A1 hq
  refine ⟨max f g + 1, w, A2, ?_, hQ⟩
  have hM : am_mth k = some M := by unfold am_mth; rw [hk]; rfl
  have hN' : am_mth a = some N := by unfold am_mth; rw [hN]; rfl
  have hT : am_tbl k pc = some (ins, 3, a, b, cI, sw) := by unfold am_tbl; rw [hk]; exact hI
  show am_run 0 am_nf 1000000000 sL sx am_mth am_tbl 1000000001 am_sp (max f g + 1) (d + 1) k pc lv st A = _
  rw [am_run, hM, hT]
  simp only [Option.bind_some, hkd, hca]
  rw [if_neg (Decidable.not_not.mpr hcat), if_neg (by omega), if_neg (by omega), hN']
  simp only [Option.bind_some]
  rw [if_pos hrc, am_run_le hf (Nat.le_max_left f g)]
  exact am_run_le hg (Nat.le_max_right f g)
/-- Object.<init> -/
theorem am_R_obj {d k b pc o : Nat} {lv : am_L} {r : List Value} {A : am_A} {M : am_T} {t : List (Nat × am_I)} {i cI : Nat} {Q : Option Value → am_A → Prop} (hk : am_prog[k]? = some (M, t)) (hI : am_look t pc = some (.invokespecial i, 3, 10000, 0, cI, [])) (hcat : (r.map fun v => v.category).sum ≤ 8) (hR : am_R sL sx (d + 1) k (pc + 3, lv, r, A) Q) : am_R sL sx (d + 1) k (pc, lv, .ref o :: r, A) Q := by
  obtain ⟨f, v, A1, hf, hq⟩ := hR
  refine ⟨f + 1, v, A1, ?_, hq⟩
  have hM : am_mth k = some M := by unfold am_mth; rw [hk]; rfl
  have hT : am_tbl k pc = some (.invokespecial i, 3, 10000, 0, cI, []) := by unfold am_tbl; rw [hk]; exact hI
  show am_run 0 am_nf 1000000000 sL sx am_mth am_tbl 1000000001 am_sp (f + 1) (d + 1) k pc lv (.ref o :: r) A = _
  rw [am_run, hM, hT]
  simp only [Option.bind_some, am_kd, am_ca, List.drop_zero, List.take_zero, List.reverse_nil]
  rw [if_neg (Decidable.not_not.mpr hcat), if_pos trivial]
  exact hf
/-- a call of String's -/
theorem am_R_sp {d k a b pc : Nat} {lv : am_L} {st : List Value} {A : am_A} {M : am_T} {t : List (Nat × am_I)} {ins : Instr} {cI : Nat} {sw : List (Int32 × Nat)} {q : List Value × List Value} {w : Option Value} {Q : Option Value → am_A → Prop} (hk : am_prog[k]? = some (M, t)) (hI : am_look t pc = some (ins, 3, a, b, cI, sw)) (hkd : am_kd ins sw = 7) (ha : 10000 < a) (hca : am_ca ins b st = some q) (hcat : (q.2.map fun v => v.category).sum ≤ 8) (hd : 8 ≤ d) (hw : am_sp a q.1 = some w)
    (hR : am_R sL sx (d + 1) k (pc + 3, lv, w.toList ++ q.2, A) Q) : am_R sL sx (d + 1) k (pc, lv, st, A) Q := by
  obtain ⟨f, v, A1, hf, hq⟩ := hR
  refine ⟨f + 1, v, A1, ?_, hq⟩
  have hM : am_mth k = some M := by unfold am_mth; rw [hk]; rfl
  have hT : am_tbl k pc = some (ins, 3, a, b, cI, sw) := by unfold am_tbl; rw [hk]; exact hI
  show am_run 0 am_nf 1000000000 sL sx am_mth am_tbl 1000000001 am_sp (f + 1) (d + 1) k pc lv st A = _
  rw [am_run, hM, hT]
  simp only [Option.bind_some, hkd, hca]
  rw [if_neg (Decidable.not_not.mpr hcat), if_neg (by omega), if_pos ha, if_neg (by omega), hw]
  exact hf
theorem am_R_imp {d k : Nat} {c : am_C} {Q Q' : Option Value → am_A → Prop} (h : am_R sL sx d k c Q) (hq : ∀ v A, Q v A → Q' v A) : am_R sL sx d k c Q' := by
  obtain ⟨f, v, A', hf, h1⟩ := h
  exact ⟨f, v, A', hf, hq v A' h1⟩
/-- a branch on what a number says -/
theorem am_R_if {d k p q : Nat} {b : Prop} {dec : Decidable b} {lv : am_L} {st : List Value} {A : am_A} {Q : Option Value → am_A → Prop} (ht : b → am_R sL sx d k (p, lv, st, A) Q) (hf : ¬ b → am_R sL sx d k (q, lv, st, A) Q) : am_R sL sx d k (if b then p else q, lv, st, A) Q := by
  by_cases h : b
  · rw [if_pos h]; exact ht h
  · rw [if_neg h]; exact hf h
end RC
