/-! PART 23: the reference's own machine: one object, 47 rows that are never replaced; its heap is four functions of a field's number (ints, longs, int rows, long rows) -/
abbrev rf_o : Nat := 40
abbrev rf_S : Type := (Nat → Int32) × (Nat → Int64) × (Nat → Nat → Int32) × (Nat → Nat → Int64)
/-- the fields that are rows, in the order of their making; where each stands there; how long each is -/
def rf_fo : List Nat := [0, 2, 12, 13, 14, 15, 17, 19, 20, 21, 22, 24, 25, 27, 28, 29, 31, 32, 33, 34, 36, 37, 38, 42, 43, 44, 45, 46, 49, 50, 51, 52, 53, 54, 55, 58, 63, 64, 66, 67, 68, 69, 70, 71, 78, 81, 83]
def rf_po : List Nat := [0, 0, 1, 0, 0, 0, 0, 0, 0, 0, 0, 0, 2, 3, 4, 5, 0, 6, 0, 7, 8, 9, 10, 0, 11, 12, 0, 13, 14, 15, 0, 16, 17, 18, 19, 0, 20, 21, 22, 0, 0, 0, 23, 24, 25, 26, 27, 0, 0, 28, 29, 30, 31, 32, 33, 34, 0, 0, 35, 0, 0, 0, 0, 36, 37, 0, 38, 39, 40, 41, 42, 43, 0, 0, 0, 0, 0, 0, 44, 0, 0, 45, 0, 46]
def rf_ln : List Nat := [2000, 0, 2000, 0, 0, 0, 0, 0, 0, 0, 0, 0, 2100, 2100, 2100, 2100, 0, 9000, 0, 9000, 2101, 131072, 1100, 0, 1100, 1100, 0, 1100, 1100, 1100, 0, 1100, 1100, 1100, 1100, 0, 1100, 1100, 2100, 0, 0, 0, 700, 700, 700, 700, 700, 0, 0, 36000, 36000, 36001, 36000, 36000, 36000, 36000, 0, 0, 47000, 0, 0, 0, 0, 700, 700, 0, 1600, 1600, 1600, 1600, 1601, 6000, 0, 0, 0, 0, 0, 0, 1100, 0, 0, 1500, 0, 1100]
abbrev rf_ft (b : Nat) : FieldType := am_Y0.getD b .int
abbrev rf_ad (b : Nat) : Nat := rf_o + 1 + rf_po.getD b 0
abbrev rf_len (b : Nat) : Nat := rf_ln.getD b 0
def rf_fv (s : rf_S) (b : Nat) : Value := match rf_ft b with
  | .int => .int (s.1 b)
  | .boolean => .int (s.1 b)
  | .long => .long (s.2.1 b)
  | .array _ => .ref (rf_ad b)
  | _ => .null
/-- which row stands at an address -/
def rf_of (q : Nat) : Option Nat := if rf_o < q then rf_fo[q - rf_o - 1]? else none
theorem rf_tab : ∀ j, j < 47 → (rf_fo.getD j 100 < 84 ∧ rf_po.getD (rf_fo.getD j 100) 0 = j) := by decide +kernel
theorem rf_of_inv {q b : Nat} (h : rf_of q = some b) : b < 84 ∧ q = rf_ad b ∧ rf_po.getD b 0 < 47 := by
  unfold rf_of at h
  split at h
  · rename_i hq
    have hlt : q - rf_o - 1 < 47 := (List.getElem?_eq_some_iff.mp h).1
    have := rf_tab _ hlt
    rw [show rf_fo.getD (q - rf_o - 1) 100 = b by simp only [List.getD, h, Option.getD_some]] at this
    refine ⟨this.1, ?_, by rw [this.2]; exact hlt⟩
    unfold rf_ad
    rw [this.2]
    omega
  · cases h
/-- the picture of the reference in the heap -/
def rf_H (s : rf_S) (A : am_A) : Prop := am_ob 0 A rf_o 0 = some ((List.range 84).map (rf_fv s)) ∧ ∀ b, rf_of (rf_ad b) = some b → (rf_ft b = .array .int → am_ia 0 A (rf_ad b) .int = some (rf_len b, s.2.2.1 b)) ∧ (rf_ft b = .array .boolean → am_ia 0 A (rf_ad b) .boolean = some (rf_len b, s.2.2.1 b)) ∧ (rf_ft b = .array .long → am_la 0 A (rf_ad b) = some (rf_len b, s.2.2.2 b))
/-- nothing else changes -/
def rf_F (A A' : am_A) : Prop := A'.1.length = A.1.length ∧ A'.2 = A.2 ∧ ∀ q, (q < rf_o ∨ rf_o + 47 < q) → A'.1[q]? = A.1[q]?
theorem rf_F.rf {A : am_A} : rf_F A A := ⟨rfl, rfl, fun _ _ => rfl⟩
theorem rf_F.tr {A B C : am_A} (h : rf_F A B) (g : rf_F B C) : rf_F A C := ⟨g.1.trans h.1, g.2.1.trans h.2.1, fun q hq => (g.2.2 q hq).trans (h.2.2 q hq)⟩
theorem rf_F.up {A : am_A} {q : Nat} {e : am_E} (h1 : rf_o ≤ q) (h2 : q ≤ rf_o + 47) : rf_F A (am_up 0 A q e) := by
  refine ⟨by simp [am_up], rfl, fun x hx => ?_⟩
  simp only [am_up, Nat.sub_zero]
  rw [List.getElem?_set_ne (by omega)]
def rf_gf (a b : Nat) (st : List Value) (s : rf_S) : Option (List Value × rf_S) := match st with
  | .ref q :: r => if q = rf_o ∧ a = 0 ∧ b < 84 then some (rf_fv s b :: r, s) else none
  | _ => none
def rf_pf (a b : Nat) (st : List Value) (s : rf_S) : Option (List Value × rf_S) := match st with
  | .int x :: .ref q :: r => if q = rf_o ∧ a = 0 ∧ b < 84 ∧ am_fit (rf_ft b) (.int x) = true then some (r, (upd s.1 b x, s.2)) else none
  | .long x :: .ref q :: r => if q = rf_o ∧ a = 0 ∧ b < 84 ∧ am_fit (rf_ft b) (.long x) = true then some (r, (s.1, vp_updL s.2.1 b x, s.2.2)) else none
  | _ => none
def rf_il (ty : FieldType) (st : List Value) (s : rf_S) : Option (List Value × rf_S) := match st with
  | .int i :: .ref q :: r => (rf_of q).bind fun b => if rf_ft b = .array ty ∧ ¬ (i < 0 ∨ rf_len b ≤ i.toNatClampNeg) then some (.int (s.2.2.1 b i.toNatClampNeg) :: r, s) else none
  | _ => none
def rf_ll (st : List Value) (s : rf_S) : Option (List Value × rf_S) := match st with
  | .int i :: .ref q :: r => (rf_of q).bind fun b => if rf_ft b = .array .long ∧ ¬ (i < 0 ∨ rf_len b ≤ i.toNatClampNeg) then some (.long (s.2.2.2 b i.toNatClampNeg) :: r, s) else none
  | _ => none
def rf_upB (f : Nat → Nat → Int32) (b i : Nat) (x : Int32) : Nat → Nat → Int32 := fun c => if c = b then upd (f b) i x else f c
def rf_upL (f : Nat → Nat → Int64) (b i : Nat) (x : Int64) : Nat → Nat → Int64 := fun c => if c = b then vp_updL (f b) i x else f c
def rf_is (ty : FieldType) (st : List Value) (s : rf_S) : Option (List Value × rf_S) := match st with
  | .int x :: .int i :: .ref q :: r => (rf_of q).bind fun b => if rf_ft b = .array ty ∧ ¬ (i < 0 ∨ rf_len b ≤ i.toNatClampNeg) then some (r, (s.1, s.2.1, rf_upB s.2.2.1 b i.toNatClampNeg (if ty = .int then x else vp_nar ty x), s.2.2.2)) else none
  | _ => none
def rf_ls (st : List Value) (s : rf_S) : Option (List Value × rf_S) := match st with
  | .long x :: .int i :: .ref q :: r => (rf_of q).bind fun b => if rf_ft b = .array .long ∧ ¬ (i < 0 ∨ rf_len b ≤ i.toNatClampNeg) then some (r, (s.1, s.2.1, s.2.2.1, rf_upL s.2.2.2 b i.toNatClampNeg x)) else none
  | _ => none
def rf_hp (ins : Instr) (a b : Nat) (st : List Value) (s : rf_S) : Option (List Value × rf_S) := match ins with
  | .getfield _ => rf_gf a b st s
  | .putfield _ => rf_pf a b st s
  | .iaload => rf_il .int st s
  | .baload => rf_il .boolean st s
  | .laload => rf_ll st s
  | .iastore => rf_is .int st s
  | .bastore => rf_is .boolean st s
  | .lastore => rf_ls st s
  | _ => none
theorem rf_at_up {A : am_A} {o q : Nat} {e : am_E} (hne : q ≠ o) : am_at 0 (am_up 0 A o e) q = am_at 0 A q := by
  unfold am_at am_up
  rw [if_pos (Nat.zero_le _), if_pos (Nat.zero_le _)]
  simp only [Nat.sub_zero]
  rw [List.getElem?_set_ne (by omega)]
theorem rf_at_self {A : am_A} {o : Nat} {e e' : am_E} (h : am_at 0 A o = some e') : am_at 0 (am_up 0 A o e) o = some e := by
  unfold am_at at h ⊢
  unfold am_up
  rw [if_pos (Nat.zero_le _)] at h ⊢
  simp only [Nat.sub_zero] at h ⊢
  have hlt := (List.getElem?_eq_some_iff.mp h).1
  simp [hlt]
theorem rf_map_set {s s' : rf_S} {b : Nat} {v : Value} (hb : b < 84) (h1 : rf_fv s' b = v) (h2 : ∀ c, c ≠ b → rf_fv s' c = rf_fv s c) : ((List.range 84).map (rf_fv s)).set b v = (List.range 84).map (rf_fv s') := by
  apply List.ext_getElem?
  intro j
  rw [List.getElem?_set]
  by_cases hj : b = j
  · subst hj
    simp [hb, h1]
  · rw [if_neg hj]
    by_cases hl : j < 84
    · simp [hl, h2 j (fun z => hj z.symm)]
    · simp [hl]
theorem rf_fvb {s : rf_S} {s' : rf_S} (h1 : s'.1 = s.1) (h2 : s'.2.1 = s.2.1) : rf_fv s' = rf_fv s := by
  funext b
  unfold rf_fv
  rw [h1, h2]
theorem rf_ne {b c : Nat} (hb : rf_of (rf_ad b) = some b) (hc : rf_of (rf_ad c) = some c) (h : rf_ad b = rf_ad c) : b = c := by
  rw [h, hc] at hb
  exact (Option.some.inj hb).symm
set_option maxHeartbeats 2000000 in
theorem rf_hp_ok {sL : Nat} {sx : Nat → Int32} {ins : Instr} {a b : Nat} {st st' : List Value} {s s' : rf_S} {A : am_A} (h : rf_hp ins a b st s = some (st', s')) (hH : rf_H s A) : ∃ A', am_hp 0 am_nf 1000000000 sL sx ins a b st A = some (st', A') ∧ rf_H s' A' ∧ rf_F A A' := by
  unfold rf_hp at h
  split at h
  · unfold rf_gf at h
    split at h
    · split at h
      · rename_i q r hc
        cases h
        obtain ⟨rfl, rfl, hb⟩ := hc
        refine ⟨A, ?_, hH, rf_F.rf⟩
        simp only [am_hp, am_get, hH.1, Option.bind_some]
        simp [hb]
      · cases h
    · cases h
  · unfold rf_pf at h
    split at h
    · split at h
      · rename_i x q r hc
        cases h
        obtain ⟨rfl, rfl, hb, hf⟩ := hc
        have hat := am_ob_inv hH.1
        have hft : rf_ft b = .int ∨ rf_ft b = .boolean := by
          unfold am_fit at hf
          dsimp only at hf
          split at hf
          · left; assumption
          · right; assumption
          · cases hf
        refine ⟨am_up 0 A rf_o (.inr (0, (List.range 84).map (rf_fv (upd s.1 b x, s.2)))), ?_, ⟨?_, fun c hc => ?_⟩, rf_F.up (Nat.le_refl _) (by omega)⟩
        · simp only [am_hp, am_put, hH.1, Option.bind_some, List.length_map, List.length_range]
          rw [if_pos ⟨hb, hf⟩, rf_map_set hb]
          · unfold rf_fv
            rcases hft with z | z <;> rw [z] <;> simp [upd]
          · intro c hcb
            unfold rf_fv
            simp [upd, hcb]
        · unfold am_ob
          rw [rf_at_self hat]
          simp
        · have hne : rf_ad c ≠ rf_o := by unfold rf_ad; omega
          obtain ⟨q1, q2, q3⟩ := hH.2 c hc
          unfold am_ia am_la
          rw [rf_at_up hne]
          exact ⟨q1, q2, q3⟩
      · cases h
    · split at h
      · rename_i x q r hc
        cases h
        obtain ⟨rfl, rfl, hb, hf⟩ := hc
        have hat := am_ob_inv hH.1
        have hft : rf_ft b = .long := by
          unfold am_fit at hf
          dsimp only at hf
          split at hf
          · assumption
          · cases hf
        refine ⟨am_up 0 A rf_o (.inr (0, (List.range 84).map (rf_fv (s.1, vp_updL s.2.1 b x, s.2.2)))), ?_, ⟨?_, fun c hc => ?_⟩, rf_F.up (Nat.le_refl _) (by omega)⟩
        · simp only [am_hp, am_put, hH.1, Option.bind_some, List.length_map, List.length_range]
          rw [if_pos ⟨hb, hf⟩, rf_map_set hb]
          · unfold rf_fv
            rw [hft]; simp [vp_updL]
          · intro c hcb
            unfold rf_fv
            simp [vp_updL, hcb]
        · unfold am_ob
          rw [rf_at_self hat]
          simp
        · have hne : rf_ad c ≠ rf_o := by unfold rf_ad; omega
          obtain ⟨q1, q2, q3⟩ := hH.2 c hc
          unfold am_ia am_la
          rw [rf_at_up hne]
          exact ⟨q1, q2, q3⟩
      · cases h
    · cases h
  · unfold rf_il at h
    split at h
    · obtain ⟨c, h1, h2⟩ := Option.bind_eq_some_iff.mp h
      split at h2
      · rename_i i q r hc
        cases h2
        obtain ⟨hcl, rfl, hpo⟩ := rf_of_inv h1
        refine ⟨A, ?_, hH, rf_F.rf⟩
        have hr := (hH.2 c h1).1 hc.1
        simp only [am_hp, am_ial, hr, Option.bind_some]
        have hsb : ¬ rf_ad c = 1000000000 := by
          have ho : rf_o = 40 := rfl
          unfold rf_ad
          omega
        rw [if_neg hsb, if_neg hc.2]
      · cases h2
    · cases h
  · unfold rf_il at h
    split at h
    · obtain ⟨c, h1, h2⟩ := Option.bind_eq_some_iff.mp h
      split at h2
      · rename_i i q r hc
        cases h2
        obtain ⟨hcl, rfl, hpo⟩ := rf_of_inv h1
        refine ⟨A, ?_, hH, rf_F.rf⟩
        have hr := (hH.2 c h1).2.1 hc.1
        have hby : am_ia 0 A (rf_ad c) .byte = none := by
          have h3 := am_ia_inv hr
          unfold am_ia
          rw [h3]
          rfl
        simp only [am_hp, am_bal, hby, hr, Option.bind_some]
        rw [if_neg hc.2]
      · cases h2
    · cases h
  · unfold rf_ll at h
    split at h
    · obtain ⟨c, h1, h2⟩ := Option.bind_eq_some_iff.mp h
      split at h2
      · rename_i i q r hc
        cases h2
        obtain ⟨hcl, rfl, hpo⟩ := rf_of_inv h1
        refine ⟨A, ?_, hH, rf_F.rf⟩
        have hr := (hH.2 c h1).2.2 hc.1
        simp only [am_hp, am_lal, hr, Option.bind_some]
        rw [if_neg hc.2]
      · cases h2
    · cases h
  · unfold rf_is at h
    split at h
    · obtain ⟨c, h1, h2⟩ := Option.bind_eq_some_iff.mp h
      split at h2
      · rename_i x i q r hc
        cases h2
        obtain ⟨hcl, rfl, hpo⟩ := rf_of_inv h1
        have hr := (hH.2 c h1).1 hc.1
        have hat := am_ia_inv hr
        have hne : rf_o ≠ rf_ad c := by unfold rf_ad; omega
        refine ⟨am_up 0 A (rf_ad c) (.inl (.int, rf_len c, .inl (upd (s.2.2.1 c) i.toNatClampNeg x))), ?_, ⟨?_, fun d hd => ?_⟩, rf_F.up (by unfold rf_ad; omega) (by unfold rf_ad; omega)⟩
        · simp only [am_hp, am_ias, hr, Option.bind_some]
          rw [if_neg hc.2]
        · unfold am_ob
          rw [rf_at_up hne]
          have := hH.1
          unfold am_ob at this
          rw [rf_fvb (s := s)]
          · exact this
          · rfl
          · rfl
        · by_cases hdc : d = c
          · subst hdc
            refine ⟨fun _ => ?_, fun z => ?_, fun z => ?_⟩
            · unfold am_ia
              rw [rf_at_self hat]
              simp [rf_upB]
            · rw [hc.1] at z; cases z
            · rw [hc.1] at z; cases z
          · have hne2 : rf_ad d ≠ rf_ad c := fun z => hdc (rf_ne hd h1 z)
            obtain ⟨q1, q2, q3⟩ := hH.2 d hd
            unfold am_ia am_la
            rw [rf_at_up hne2]
            simp only [rf_upB, if_neg hdc]
            exact ⟨q1, q2, q3⟩
      · cases h2
    · cases h
  · unfold rf_is at h
    split at h
    · obtain ⟨c, h1, h2⟩ := Option.bind_eq_some_iff.mp h
      split at h2
      · rename_i x i q r hc
        cases h2
        obtain ⟨hcl, rfl, hpo⟩ := rf_of_inv h1
        have hr := (hH.2 c h1).2.1 hc.1
        have hat := am_ia_inv hr
        have hne : rf_o ≠ rf_ad c := by unfold rf_ad; omega
        have hby : am_ia 0 A (rf_ad c) .byte = none := by
          unfold am_ia
          rw [hat]
          rfl
        refine ⟨am_up 0 A (rf_ad c) (.inl (.boolean, rf_len c, .inl (upd (s.2.2.1 c) i.toNatClampNeg (vp_nar .boolean x)))), ?_, ⟨?_, fun d hd => ?_⟩, rf_F.up (by unfold rf_ad; omega) (by unfold rf_ad; omega)⟩
        · simp only [am_hp, am_bas, hby, hr, Option.bind_some]
          rw [if_neg hc.2]
        · unfold am_ob
          rw [rf_at_up hne]
          have := hH.1
          unfold am_ob at this
          rw [rf_fvb (s := s)]
          · exact this
          · rfl
          · rfl
        · by_cases hdc : d = c
          · subst hdc
            refine ⟨fun z => ?_, fun _ => ?_, fun z => ?_⟩
            · rw [hc.1] at z; cases z
            · unfold am_ia
              rw [rf_at_self hat]
              simp [rf_upB]
            · rw [hc.1] at z; cases z
          · have hne2 : rf_ad d ≠ rf_ad c := fun z => hdc (rf_ne hd h1 z)
            obtain ⟨q1, q2, q3⟩ := hH.2 d hd
            unfold am_ia am_la
            rw [rf_at_up hne2]
            simp only [rf_upB, if_neg hdc]
            exact ⟨q1, q2, q3⟩
      · cases h2
    · cases h
  · unfold rf_ls at h
    split at h
    · obtain ⟨c, h1, h2⟩ := Option.bind_eq_some_iff.mp h
      split at h2
      · rename_i x i q r hc
        cases h2
        obtain ⟨hcl, rfl, hpo⟩ := rf_of_inv h1
        have hr := (hH.2 c h1).2.2 hc.1
        have hat := am_la_inv hr
        have hne : rf_o ≠ rf_ad c := by unfold rf_ad; omega
        refine ⟨am_up 0 A (rf_ad c) (.inl (.long, rf_len c, .inr (.inl (vp_updL (s.2.2.2 c) i.toNatClampNeg x)))), ?_, ⟨?_, fun d hd => ?_⟩, rf_F.up (by unfold rf_ad; omega) (by unfold rf_ad; omega)⟩
        · simp only [am_hp, am_las, hr, Option.bind_some]
          rw [if_neg hc.2]
        · unfold am_ob
          rw [rf_at_up hne]
          have := hH.1
          unfold am_ob at this
          rw [rf_fvb (s := s)]
          · exact this
          · rfl
          · rfl
        · by_cases hdc : d = c
          · subst hdc
            refine ⟨fun z => ?_, fun z => ?_, fun _ => ?_⟩
            · rw [hc.1] at z; cases z
            · rw [hc.1] at z; cases z
            · unfold am_la
              rw [rf_at_self hat]
              simp [rf_upL]
          · have hne2 : rf_ad d ≠ rf_ad c := fun z => hdc (rf_ne hd h1 z)
            obtain ⟨q1, q2, q3⟩ := hH.2 d hd
            unfold am_ia am_la
            rw [rf_at_up hne2]
            simp only [rf_upL, if_neg hdc]
            exact ⟨q1, q2, q3⟩
      · cases h2
    · cases h
  · cases h
