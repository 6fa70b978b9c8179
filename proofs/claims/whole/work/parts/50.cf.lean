/-! PART 50: the class's own machine: its objects stand at fixed places (0 .. 39); rows of Bytes, Table, Words are pictures by their owner -/
/-- the class of the object at a place; rows: none -/
def cf_cl : List (Option Nat) := [some 1, some 3, none, some 7, some 3, none, some 10, none, some 10, none, some 10, none, some 10, none, some 10, none, some 10, none, some 10, none, some 10, none, some 6, some 8, some 2, some 5, some 4, some 11, none, some 11, none, some 9, some 11, none, some 3, none, some 11, none, some 11, none]
def cf_cls (o : Nat) : Option Nat := cf_cl.getD o none
/-- what an object's fields refer to -/
def cf_rfs : List (List Nat) := [[1, 3, 22, 24, 25], [], [], [4, 0, 6, 8, 10, 12, 14, 16, 18, 20], [], [], [], [], [], [], [], [], [], [], [], [], [], [], [], [], [], [], [3, 18, 23], [3, 4], [3, 18], [3, 18, 20, 26, 31, 34, 36, 38], [], [], [], [], [], [32]]
/-- a table's width; a row of bytes' limit -/
def cf_wds : List Nat := [1, 1, 1, 1, 1, 1, 4, 1, 2, 1, 3, 1, 2, 1, 3, 1, 4, 1, 16, 1, 1]
def cf_wd (o : Nat) : Nat := cf_wds.getD o 1
def cf_lms : List Nat := [0, 2000, 0, 0, 2024, 0, 0, 0, 0, 0, 0, 0, 0, 0, 0, 0, 0, 0, 0, 0, 0, 0, 0, 0, 0, 0, 0, 0, 0, 0, 0, 0, 0, 0, 1500]
def cf_lim (o : Nat) : Nat := cf_lms.getD o 0
/-- ints, longs by object and field; bytes by owner; tables by owner, row, field; words by owner; rows' places, lengths; the heap's cells (27 or 29); cells and slots made -/
abbrev cf_S : Type := (Nat → Nat → Int32) × (Nat → Nat → Int64) × (Nat → Nat → Int32) × (Nat → Nat → Nat → Int32) × (Nat → Nat → Int64) × (Nat → Nat) × (Nat → Nat) × Nat × Nat × Nat
abbrev cf_f (s : cf_S) : Nat → Nat → Int32 := s.2.2.1
abbrev cf_t (s : cf_S) : Nat → Nat → Nat → Int32 := s.2.2.2.1
abbrev cf_g (s : cf_S) : Nat → Nat → Int64 := s.2.2.2.2.1
abbrev cf_q (s : cf_S) : Nat → Nat := s.2.2.2.2.2.1
abbrev cf_n (s : cf_S) : Nat → Nat := s.2.2.2.2.2.2.1
abbrev cf_h (s : cf_S) : Nat := s.2.2.2.2.2.2.2.1
abbrev cf_N (s : cf_S) : Nat := s.2.2.2.2.2.2.2.2.1
abbrev cf_Z (s : cf_S) : Nat := s.2.2.2.2.2.2.2.2.2
def cf_rf (s : cf_S) (o b : Nat) : Nat := if o = 26 then (if b = 0 then cf_h s else 56 - cf_h s) else (cf_rfs.getD o []).getD b 0
def cf_fv (s : cf_S) (o c b : Nat) : Value := match (am_nf c).getD b .int with
  | .int => .int (s.1 o b)
  | .boolean => .int (s.1 o b)
  | .long => .long (s.2.1 o b)
  | .array _ => .ref (cf_q s o)
  | .object _ => .ref (cf_rf s o b)
  | _ => .null
def cf_fs (s : cf_S) (o c : Nat) : List Value := (List.range (am_nf c).length).map (cf_fv s o c)
theorem cf_fs3 {s : cf_S} {o : Nat} : cf_fs s o 3 = [.ref (cf_q s o), .int (s.1 o 1), .int (s.1 o 2)] := rfl
theorem cf_fs10 {s : cf_S} {o : Nat} : cf_fs s o 10 = [.int (s.1 o 0), .ref (cf_q s o), .int (s.1 o 2)] := rfl
theorem cf_fs11 {s : cf_S} {o : Nat} : cf_fs s o 11 = [.ref (cf_q s o)] := rfl
theorem cf_fs4 {s : cf_S} {o : Nat} : cf_fs s o 4 = [.ref (cf_rf s o 0), .ref (cf_rf s o 1), .int (s.1 o 2), .int (s.1 o 3), .int (s.1 o 4)] := rfl
theorem cf_fs_eq {s s' : cf_S} {p c : Nat} (h1 : ∀ b, s'.1 p b = s.1 p b) (h2 : ∀ b, s'.2.1 p b = s.2.1 p b) (h3 : cf_q s' p = cf_q s p) (h4 : ∀ b, cf_rf s' p b = cf_rf s p b) : cf_fs s' p c = cf_fs s p c := by
  unfold cf_fs
  congr 1
  funext b
  unfold cf_fv
  rw [h1, h2, h3, h4]
/-- owners of rows -/
def cf_ow (o : Nat) : Prop := cf_cls o = some 3 ∨ cf_cls o = some 10 ∨ cf_cls o = some 11
/-- a row's place: no object's, none of the reference's -/
def cf_pl (q : Nat) : Prop := (q < 40 ∧ cf_cls q = none) ∨ 88 ≤ q
/-- a row as its owner's picture says -/
def cf_r3 (s : cf_S) (A : am_A) (o : Nat) : Prop := ∃ (f : Nat → Int32) (L : Nat), am_at 0 A (cf_q s o) = some (.inl (.byte, cf_lim o, .inl f)) ∧ s.1 o 1 = nI L ∧ L ≤ cf_lim o ∧ ∀ i, i < L → f i &&& 255 = cf_f s o i
def cf_r10 (s : cf_S) (A : am_A) (o : Nat) : Prop := ∃ (f : Nat → Int32) (R : Nat), am_at 0 A (cf_q s o) = some (.inl (.int, cf_n s o, .inl f)) ∧ s.1 o 0 = nI (cf_wd o) ∧ s.1 o 2 = nI R ∧ R * cf_wd o ≤ cf_n s o ∧ ∀ i, i < R * cf_wd o → f i = cf_t s o (i / cf_wd o) (i % cf_wd o)
def cf_r11 (s : cf_S) (A : am_A) (o : Nat) : Prop := ∃ f : Nat → Int64, am_at 0 A (cf_q s o) = some (.inl (.long, cf_n s o, .inr (.inl f))) ∧ ∀ i, i < cf_n s o → f i = cf_g s o i
/-- the picture -/
def cf_H (s : cf_S) (A : am_A) : Prop :=
  (∀ o c, cf_cls o = some c → am_at 0 A o = some (.inr (c, cf_fs s o c))) ∧
  (∀ o, cf_cls o = some 3 → cf_r3 s A o) ∧ (∀ o, cf_cls o = some 10 → cf_r10 s A o) ∧ (∀ o, cf_cls o = some 11 → cf_r11 s A o) ∧
  (∀ o p, cf_ow o → cf_ow p → cf_q s o = cf_q s p → o = p) ∧ (∀ o, cf_ow o → cf_pl (cf_q s o)) ∧ (∀ o, cf_ow o → cf_n s o ≤ 4194304) ∧
  (cf_h s = 27 ∨ cf_h s = 29) ∧ A.1.length = cf_N s ∧ A.2 = cf_Z s ∧ cf_N s < 1000000000 ∧ 88 ≤ cf_N s
/-- the reference's cells stay -/
def cf_F (A A' : am_A) : Prop := ∀ p, 40 ≤ p → p < 88 → A'.1[p]? = A.1[p]?
theorem cf_F.rf {A : am_A} : cf_F A A := fun _ _ _ => rfl
theorem cf_F.tr {A B C : am_A} (h : cf_F A B) (g : cf_F B C) : cf_F A C := fun p h1 h2 => (g p h1 h2).trans (h p h1 h2)
theorem cf_cls_lt {o c : Nat} (h : cf_cls o = some c) : o < 40 := by
  unfold cf_cls at h
  by_cases ho : o < 40
  · exact ho
  · rw [List.getD_eq_getElem?_getD, List.getElem?_eq_none (show cf_cl.length ≤ o by show 40 ≤ o; omega)] at h
    cases h
theorem cf_cls_pl {o c q : Nat} (h : cf_cls o = some c) (hq : cf_pl q) : o ≠ q := by
  rintro rfl
  rcases hq with z | z
  · rw [h] at z; cases z.2
  · have := cf_cls_lt h; omega
theorem cf_F.up {A : am_A} {q : Nat} {e : am_E} (h : q < 40 ∨ 88 ≤ q) : cf_F A (am_up 0 A q e) := by
  intro p h1 h2
  simp only [am_up, Nat.sub_zero]
  rw [List.getElem?_set_ne (by omega)]
theorem cf_F.app {A : am_A} {e : am_E} {n : Nat} (h : 88 ≤ A.1.length) : cf_F A (am_app A e n) := by
  intro p h1 h2
  unfold am_app
  rw [List.getElem?_append_left (by omega)]
theorem cf_pl_F {q : Nat} (h : cf_pl q) : q < 40 ∨ 88 ≤ q := h.elim (fun z => Or.inl z.1) Or.inr
/-- to show a new picture: what is touched is one owner o (or none) -/
theorem cf_H_mk {s s' : cf_S} {A A' : am_A} (o : Nat) (hH : cf_H s A)
    (hobj : ∀ p c, cf_cls p = some c → am_at 0 A' p = some (.inr (c, cf_fs s' p c)))
    (hoth : ∀ p, cf_ow p → p ≠ o → cf_q s' p = cf_q s p ∧ am_at 0 A' (cf_q s p) = am_at 0 A (cf_q s p) ∧ cf_n s' p = cf_n s p ∧ s'.1 p = s.1 p ∧ cf_f s' p = cf_f s p ∧ cf_t s' p = cf_t s p ∧ cf_g s' p = cf_g s p)
    (h3 : cf_cls o = some 3 → cf_r3 s' A' o) (h10 : cf_cls o = some 10 → cf_r10 s' A' o) (h11 : cf_cls o = some 11 → cf_r11 s' A' o)
    (hin : ∀ p, cf_ow p → p ≠ o → cf_ow o → cf_q s' o ≠ cf_q s p) (hpl : cf_ow o → cf_pl (cf_q s' o)) (hn : cf_ow o → cf_n s' o ≤ 4194304)
    (hh : cf_h s' = 27 ∨ cf_h s' = 29) (hN : A'.1.length = cf_N s') (hZ : A'.2 = cf_Z s') (hN1 : cf_N s' < 1000000000) (hN2 : 88 ≤ cf_N s') : cf_H s' A' := by
  obtain ⟨_, g3, g10, g11, gi, gp, gn, _⟩ := hH
  refine ⟨hobj, fun p hp => ?_, fun p hp => ?_, fun p hp => ?_, fun p r hp hr he => ?_, fun p hp => ?_, fun p hp => ?_, hh, hN, hZ, hN1, hN2⟩
  · by_cases hpo : p = o
    · subst hpo; exact h3 hp
    · obtain ⟨e1, e2, e3, e4, e5, e6, e7⟩ := hoth p (Or.inl hp) hpo
      obtain ⟨f, L, a1, a2, a3, a4⟩ := g3 p hp
      refine ⟨f, L, ?_, ?_, a3, ?_⟩
      · rw [e1, e2]; exact a1
      · rw [e4]; exact a2
      · rw [e5]; exact a4
  · by_cases hpo : p = o
    · subst hpo; exact h10 hp
    · obtain ⟨e1, e2, e3, e4, e5, e6, e7⟩ := hoth p (Or.inr (Or.inl hp)) hpo
      obtain ⟨f, R, a1, a2, a3, a4, a5⟩ := g10 p hp
      refine ⟨f, R, ?_, ?_, ?_, ?_, ?_⟩
      · rw [e1, e2, e3]; exact a1
      · rw [e4]; exact a2
      · rw [e4]; exact a3
      · rw [e3]; exact a4
      · rw [e6]; exact a5
  · by_cases hpo : p = o
    · subst hpo; exact h11 hp
    · obtain ⟨e1, e2, e3, e4, e5, e6, e7⟩ := hoth p (Or.inr (Or.inr hp)) hpo
      obtain ⟨f, a1, a2⟩ := g11 p hp
      refine ⟨f, ?_, ?_⟩
      · rw [e1, e2, e3]; exact a1
      · rw [e3, e7]; exact a2
  · by_cases hpo : p = o
    · subst hpo
      by_cases hro : r = p
      · exact hro.symm
      · rw [(hoth r hr hro).1] at he
        exact absurd he (hin r hr hro hp)
    · by_cases hro : r = o
      · subst hro
        rw [(hoth p hp hpo).1] at he
        exact absurd he.symm (hin p hp hpo hr)
      · rw [(hoth p hp hpo).1, (hoth r hr hro).1] at he
        exact gi p r hp hr he
  · by_cases hpo : p = o
    · subst hpo; exact hpl hp
    · rw [(hoth p hp hpo).1]; exact gp p hp
  · by_cases hpo : p = o
    · subst hpo; exact hn hp
    · rw [(hoth p hp hpo).2.2.1]; exact gn p hp
/-- what the reference's methods leave -/
theorem cf_H_ref {s : cf_S} {A A' : am_A} (hH : cf_H s A) (hF : rf_F A A') : cf_H s A' := by
  have e : ∀ p, (p < 40 ∨ 88 ≤ p) → am_at 0 A' p = am_at 0 A p := by
    intro p hp
    unfold am_at
    rw [if_pos (Nat.zero_le _), if_pos (Nat.zero_le _)]
    refine hF.2.2 _ ?_
    have : rf_o = 40 := rfl
    omega
  refine cf_H_mk 0 hH (fun p c hp => ?_) (fun p hp _ => ⟨rfl, e _ (cf_pl_F (hH.2.2.2.2.2.1 p hp)), rfl, rfl, rfl, rfl, rfl⟩) (fun z => by cases z) (fun z => by cases z) (fun z => by cases z) (fun p hp _ ho => ?_) (fun ho => hH.2.2.2.2.2.1 0 ho) (fun ho => hH.2.2.2.2.2.2.1 0 ho) hH.2.2.2.2.2.2.2.1 (hF.1.trans hH.2.2.2.2.2.2.2.2.1) (hF.2.1.trans hH.2.2.2.2.2.2.2.2.2.1) hH.2.2.2.2.2.2.2.2.2.2.1 hH.2.2.2.2.2.2.2.2.2.2.2
  · rw [e p (Or.inl (cf_cls_lt hp))]
    exact hH.1 p c hp
  · rcases ho with z | z | z <;> cases z
/-- an int field of an object without rows; a long field -/
def cf_ui (f : Nat → Nat → Int32) (o b : Nat) (x : Int32) : Nat → Nat → Int32 := fun p c => if p = o ∧ c = b then x else f p c
def cf_si (s : cf_S) (o b : Nat) (x : Int32) : cf_S := (cf_ui s.1 o b x, s.2)
def cf_sj (s : cf_S) (o b : Nat) (x : Int64) : cf_S := (s.1, fun p c => if p = o ∧ c = b then x else s.2.1 p c, s.2.2)
theorem cf_map_set {n b : Nat} {v : Value} {f g : Nat → Value} (hb : b < n) (h1 : g b = v) (h2 : ∀ c, c ≠ b → g c = f c) : ((List.range n).map f).set b v = (List.range n).map g := by
  apply List.ext_getElem?
  intro j
  rw [List.getElem?_set]
  by_cases hj : b = j
  · subst hj
    simp [hb, h1]
  · rw [if_neg hj]
    by_cases hl : j < n
    · simp [hl, h2 j (fun z => hj z.symm)]
    · simp [hl]
theorem cf_at_len {A : am_A} {o : Nat} {e : am_E} : (am_up 0 A o e).1.length = A.1.length := by simp [am_up]
theorem cf_H_obj {s s' : cf_S} {A : am_A} {o c : Nat} (hH : cf_H s A) (ho : cf_cls o = some c) (hc : c ≠ 3 ∧ c ≠ 10 ∧ c ≠ 11) (h2 : s'.2.2 = s.2.2) (hI : ∀ p, p ≠ o → s'.1 p = s.1 p) (hJ : ∀ p, p ≠ o → s'.2.1 p = s.2.1 p) : cf_H s' (am_up 0 A o (.inr (c, cf_fs s' o c))) := by
  have hno : ¬ cf_ow o := by
    rintro (z | z | z) <;> rw [ho] at z <;> cases z
    · exact hc.1 rfl
    · exact hc.2.1 rfl
    · exact hc.2.2 rfl
  have hrf : ∀ p b, cf_rf s' p b = cf_rf s p b := by
    intro p b
    unfold cf_rf cf_h
    rw [h2]
  have hq : cf_q s' = cf_q s := by unfold cf_q; rw [h2]
  refine cf_H_mk o hH (fun p c' hp => ?_) (fun p hp hpo => ⟨by rw [hq], rf_at_up (cf_cls_pl ho (hH.2.2.2.2.2.1 p hp)).symm, by unfold cf_n; rw [h2], hI p hpo, by unfold cf_f; rw [h2], by unfold cf_t; rw [h2], by unfold cf_g; rw [h2]⟩)
    (fun z => absurd (Or.inl z) hno) (fun z => absurd (Or.inr (Or.inl z)) hno) (fun z => absurd (Or.inr (Or.inr z)) hno) (fun _ _ _ z => absurd z hno) (fun z => absurd z hno) (fun z => absurd z hno)
    (by unfold cf_h; rw [h2]; exact hH.2.2.2.2.2.2.2.1) (by rw [cf_at_len, hH.2.2.2.2.2.2.2.2.1]; unfold cf_N; rw [h2]) (by unfold cf_Z; rw [h2]; exact hH.2.2.2.2.2.2.2.2.2.1) (by unfold cf_N; rw [h2]; exact hH.2.2.2.2.2.2.2.2.2.2.1) (by unfold cf_N; rw [h2]; exact hH.2.2.2.2.2.2.2.2.2.2.2)
  by_cases hpo : p = o
  · subst hpo
    rw [ho] at hp
    cases hp
    exact rf_at_self (hH.1 p c ho)
  · rw [rf_at_up hpo, hH.1 p c' hp, cf_fs_eq (fun b => by rw [hI p hpo]) (fun b => by rw [hJ p hpo]) (by rw [hq]) (hrf p)]
