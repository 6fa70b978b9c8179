/-! PART 51: the leaves, over the picture -/
section CP
variable {sL : Nat} {sx : Nat → Int32}
theorem am_ob_of {A : am_A} {o c : Nat} {fs : List Value} (h : am_at 0 A o = some (.inr (c, fs))) : am_ob 0 A o c = some fs := by
  unfold am_ob; rw [h]; simp
theorem am_ia_of {A : am_A} {o n : Nat} {ty : FieldType} {f : Nat → Int32} (h : am_at 0 A o = some (.inl (ty, n, .inl f))) : am_ia 0 A o ty = some (n, f) := by
  unfold am_ia; rw [h]; simp
theorem am_la_of {A : am_A} {o n : Nat} {f : Nat → Int64} (h : am_at 0 A o = some (.inl (.long, n, .inr (.inl f)))) : am_la 0 A o = some (n, f) := by
  unfold am_la; rw [h]; simp
theorem cf_at_lt {A : am_A} {o : Nat} {e : am_E} (h : am_at 0 A o = some e) : o < A.1.length := by
  unfold am_at at h
  rw [if_pos (Nat.zero_le _)] at h
  exact (List.getElem?_eq_some_iff.mp h).1
theorem cf_lim_lt (o : Nat) : cf_lim o ≤ 2024 := by
  unfold cf_lim
  by_cases h : o < 35
  · have : ∀ j, j < 35 → cf_lms.getD j 0 ≤ 2024 := by decide
    exact this o h
  · rw [List.getD_eq_getElem?_getD, List.getElem?_eq_none (show cf_lms.length ≤ o by show 35 ≤ o; omega)]
    exact Nat.zero_le _
theorem cf_wd_in (o : Nat) : 1 ≤ cf_wd o ∧ cf_wd o ≤ 16 := by
  unfold cf_wd
  by_cases h : o < 21
  · have : ∀ j, j < 21 → 1 ≤ cf_wds.getD j 1 ∧ cf_wds.getD j 1 ≤ 16 := by decide
    exact this o h
  · rw [List.getD_eq_getElem?_getD, List.getElem?_eq_none (show cf_wds.length ≤ o by show 21 ≤ o; omega)]
    decide
/-- a byte of a row -/
def by_g (s : cf_S) (o : Nat) (i : Int32) : Int32 := if i < 0 ∨ s.1 o 1 ≤ i then -1 else cf_f s o i.toNatClampNeg
theorem cp_at {d o : Nat} {i : Int32} {s : cf_S} {A : am_A} (hH : cf_H s A) (ho : cf_cls o = some 3) : am_R sL sx d 120 (0, [(0, .ref o), (1, .int i)], [], A) (fun r A' => r = some (.int (by_g s o i)) ∧ A' = A) := by
  obtain ⟨f, L, a1, a2, a3, a4⟩ := hH.2.1 o ho
  have hl := cf_lim_lt o
  have h0 := am_ob_of (hH.1 o 3 ho)
  rw [cf_fs3, a2] at h0
  have hN := hH.2.2.2.2.2.2.2.2.1
  have hN1 := hH.2.2.2.2.2.2.2.2.2.2.1
  have := cf_at_lt a1
  refine am_R_imp (c_Bytes_at (i := i) h0 (am_ia_of a1) (by omega) (by show cf_lim o < _; omega)) (fun r A' h => ⟨?_, h.1⟩)
  rcases h.2 with ⟨z, e⟩ | ⟨z, e⟩
  · rw [e]
    unfold by_g
    rw [a2, if_pos]
    rcases z with z | z | z
    · exact Or.inl z
    · exact Or.inr z
    · exact Or.inr (Int32.le_trans (nI_le a3 (by omega)) z)
  · rw [e]
    unfold by_g
    have g1 : ¬ (i < 0 ∨ s.1 o 1 ≤ i) := by
      rw [a2]
      rintro (y | y)
      · exact z (Or.inl y)
      · exact z (Or.inr (Or.inl y))
    rw [if_neg g1]
    rw [a2] at g1
    obtain ⟨j, hj, rfl⟩ := nI_of (fun y => g1 (Or.inl y))
    have : j < L := Nat.lt_of_not_le (fun y => g1 (Or.inr (nI_le (a := L) (b := j) y (by omega))))
    rw [nI_clamp hj]
    dsimp only
    rw [a4 j this]
/-- Bytes.cut -/
def by_c (s : cf_S) (o : Nat) (n : Int32) : cf_S := (fun p b => if p = o ∧ ¬ (n < 0 ∨ s.1 o 1 < n) ∧ (b = 1 ∨ b = 2) then (if b = 1 then n else 0) else s.1 p b, s.2)
theorem cp_cut {d o : Nat} {n : Int32} {s : cf_S} {A : am_A} (hH : cf_H s A) (ho : cf_cls o = some 3) : am_R sL sx d 121 (0, [(0, .ref o), (1, .int n)], [], A) (fun r A' => r = none ∧ cf_H (by_c s o n) A' ∧ cf_F A A') := by
  have h0 := am_ob_of (hH.1 o 3 ho)
  rw [cf_fs3] at h0
  refine am_R_imp (c_Bytes_cut (n := n) h0) (fun r A' h => ⟨h.1, ?_⟩)
  rcases h.2 with ⟨z, e⟩ | ⟨z, e⟩
  · rw [e]
    have : by_c s o n = s := by
      unfold by_c
      have : (fun p b => if p = o ∧ ¬ (n < 0 ∨ s.1 o 1 < n) ∧ (b = 1 ∨ b = 2) then (if b = 1 then n else 0) else s.1 p b) = s.1 := by
        funext p b
        rw [if_neg (fun y => y.2.1 z)]
      rw [this]
    rw [this]
    exact ⟨hH, cf_F.rf⟩
  · rw [e]
    obtain ⟨f, L, a1, a2, a3, a4⟩ := hH.2.1 o ho
    have hpl := hH.2.2.2.2.2.1
    refine ⟨cf_H_mk o hH (fun p c hp => ?_) (fun p hp hpo => ⟨rfl, rf_at_up (cf_cls_pl ho (hpl p hp)).symm, rfl, ?_, rfl, rfl, rfl⟩) (fun _ => ?_) (fun z => by rw [ho] at z; cases z) (fun z => by rw [ho] at z; cases z) (fun p hp hpo ho' z => hpo (hH.2.2.2.2.1 _ _ hp ho' z.symm)) (fun _ => hpl o (Or.inl ho)) (fun z => hH.2.2.2.2.2.2.1 o z) hH.2.2.2.2.2.2.2.1 (by rw [cf_at_len]; exact hH.2.2.2.2.2.2.2.2.1) hH.2.2.2.2.2.2.2.2.2.1 hH.2.2.2.2.2.2.2.2.2.2.1 hH.2.2.2.2.2.2.2.2.2.2.2, cf_F.up (Or.inl (cf_cls_lt ho))⟩
    · by_cases hpo : p = o
      · subst hpo
        rw [ho] at hp
        cases hp
        rw [rf_at_self (hH.1 p 3 ho), cf_fs3]
        unfold by_c
        simp [z]
      · rw [rf_at_up hpo, hH.1 p c hp, cf_fs_eq (s' := by_c s o n)]
        · intro b; unfold by_c; simp [hpo]
        · intro b; rfl
        · rfl
        · intro b; rfl
    · funext b; unfold by_c; simp [hpo]
    · rw [a2] at z
      obtain ⟨j, hj, rfl⟩ := nI_of (fun y => z (Or.inl y))
      have hl := cf_lim_lt o
      have hjL : j ≤ L := Nat.le_of_not_lt (fun y => z (Or.inr (nI_lt (a := L) (b := j) y hj)))
      refine ⟨f, j, ?_, ?_, by omega, fun i hi => a4 i (by omega)⟩
      · rw [show cf_q (by_c s o (nI j)) o = cf_q s o from rfl, rf_at_up (cf_cls_pl ho (hpl o (Or.inl ho))).symm]; exact a1
      · unfold by_c
        rw [a2]
        simp [z]
theorem cf_byte (x : Int32) : vp_nar .byte x.toInt8.toInt32 &&& 255 = x &&& 255 := by
  rw [pk_vb]
  apply Int32.toBitVec.inj
  rw [Int32.toBitVec_and, Int32.toBitVec_and]
  have : (x.toInt8.toInt32).toBitVec = (x.toBitVec.signExtend 8).signExtend 32 := rfl
  rw [this]
  apply BitVec.eq_of_getLsbD_eq
  intro i hi
  rw [BitVec.getLsbD_and, BitVec.getLsbD_and, BitVec.getLsbD_signExtend, BitVec.getLsbD_signExtend]
  by_cases h8 : i < 8
  · simp [h8, hi]
  · have : (255 : Int32).toBitVec.getLsbD i = false := by
      have : ∀ j, j < 32 → ¬ j < 8 → (255 : Int32).toBitVec.getLsbD j = false := by decide
      exact this i hi h8
    rw [this, Bool.and_false, Bool.and_false]
/-- Bytes.add -/
def by_a (s : cf_S) (o : Nat) (x : Int32) : cf_S := (fun p b => if p = o ∧ b = 1 ∧ s.1 o 1 < nI (cf_lim o) then s.1 o 1 + 1 else if p = o ∧ b = 2 ∧ ¬ s.1 o 1 < nI (cf_lim o) then 1 else s.1 p b, s.2.1, fun p i => if p = o ∧ i = (s.1 o 1).toNatClampNeg then x &&& 255 else s.2.2.1 p i, s.2.2.2)
theorem by_a_f {s : cf_S} {o p i : Nat} {x : Int32} : cf_f (by_a s o x) p i = if p = o ∧ i = (s.1 o 1).toNatClampNeg then x &&& 255 else cf_f s p i := rfl
theorem by_a_i {s : cf_S} {o p b : Nat} {x : Int32} : (by_a s o x).1 p b = if p = o ∧ b = 1 ∧ s.1 o 1 < nI (cf_lim o) then s.1 o 1 + 1 else if p = o ∧ b = 2 ∧ ¬ s.1 o 1 < nI (cf_lim o) then 1 else s.1 p b := rfl
theorem cp_add {d o : Nat} {x : Int32} {s : cf_S} {A : am_A} (hH : cf_H s A) (ho : cf_cls o = some 3) : am_R sL sx d 122 (0, [(0, .ref o), (1, .int x)], [], A) (fun r A' => r = none ∧ cf_H (by_a s o x) A' ∧ cf_F A A') := by
  obtain ⟨f, L, a1, a2, a3, a4⟩ := hH.2.1 o ho
  have hl := cf_lim_lt o
  have h0 := am_ob_of (hH.1 o 3 ho)
  rw [cf_fs3, a2] at h0
  have hN := hH.2.2.2.2.2.2.2.2.1
  have hN1 := hH.2.2.2.2.2.2.2.2.2.2.1
  have hlt := cf_at_lt a1
  have hpl := hH.2.2.2.2.2.1
  have hqo := cf_cls_pl ho (hpl o (Or.inl ho))
  refine am_R_imp (c_Bytes_add (b := x) h0 (am_ia_of a1) (by omega) hqo (by show cf_lim o < _; omega)) (fun r A' h => ⟨h.1, ?_⟩)
  have hoth : ∀ p, p ≠ o → (by_a s o x).1 p = s.1 p := by
    intro p hpo; funext b; rw [by_a_i]; simp [hpo]
  have hothf : ∀ p, p ≠ o → cf_f (by_a s o x) p = cf_f s p := by
    intro p hpo; funext b; rw [by_a_f]; simp [hpo]
  rcases h.2 with ⟨z, e⟩ | ⟨z, e⟩
  · rw [e]
    have hLl : L = cf_lim o := by
      rcases z with z | z
      · exact absurd z (nI_pos (by omega))
      · have : cf_lim o ≤ L := (nI_leI (by omega) (by omega)).mp z
        omega
    have hn : ¬ s.1 o 1 < nI (cf_lim o) := by
      rw [a2, hLl]
      exact nI_nlt (Nat.le_refl _) (by omega)
    refine ⟨cf_H_mk o hH (fun p c hp => ?_) (fun p hp hpo => ⟨rfl, rf_at_up (cf_cls_pl ho (hpl p hp)).symm, rfl, hoth p hpo, hothf p hpo, rfl, rfl⟩) (fun _ => ?_) (fun z => by rw [ho] at z; cases z) (fun z => by rw [ho] at z; cases z) (fun p hp hpo ho' z => hpo (hH.2.2.2.2.1 _ _ hp ho' z.symm)) (fun _ => hpl o (Or.inl ho)) (fun z => hH.2.2.2.2.2.2.1 o z) hH.2.2.2.2.2.2.2.1 (by rw [cf_at_len]; exact hH.2.2.2.2.2.2.2.2.1) hH.2.2.2.2.2.2.2.2.2.1 hH.2.2.2.2.2.2.2.2.2.2.1 hH.2.2.2.2.2.2.2.2.2.2.2, cf_F.up (Or.inl (cf_cls_lt ho))⟩
    · by_cases hpo : p = o
      · subst hpo
        rw [ho] at hp
        cases hp
        rw [rf_at_self (hH.1 p 3 ho), cf_fs3, ← a2]
        unfold by_a
        simp [hn]
      · rw [rf_at_up hpo, hH.1 p c hp, cf_fs_eq (s' := by_a s o x)]
        · intro b; rw [hoth p hpo]
        · intro b; rfl
        · rfl
        · intro b; rfl
    · refine ⟨f, L, ?_, ?_, a3, fun i hi => ?_⟩
      · rw [show cf_q (by_a s o x) o = cf_q s o from rfl, rf_at_up hqo.symm]; exact a1
      · unfold by_a
        simp only [hn, and_false, if_false]
        simp [a2]
      · rw [a4 i hi, by_a_f, a2, nI_clamp (by omega)]
        simp [show i ≠ L by omega]
  · rw [e]
    have hLl : L < cf_lim o := Nat.lt_of_not_le (fun y => z (Or.inr (nI_le (a := cf_lim o) (b := L) y (by omega))))
    have hn : s.1 o 1 < nI (cf_lim o) := by
      rw [a2]
      exact nI_lt hLl (by omega)
    refine ⟨cf_H_mk o hH (fun p c hp => ?_) (fun p hp hpo => ⟨rfl, ?_, rfl, hoth p hpo, hothf p hpo, rfl, rfl⟩) (fun _ => ?_) (fun z => by rw [ho] at z; cases z) (fun z => by rw [ho] at z; cases z) (fun p hp hpo ho' z => hpo (hH.2.2.2.2.1 _ _ hp ho' z.symm)) (fun _ => hpl o (Or.inl ho)) (fun z => hH.2.2.2.2.2.2.1 o z) hH.2.2.2.2.2.2.2.1 (by rw [cf_at_len, cf_at_len]; exact hH.2.2.2.2.2.2.2.2.1) hH.2.2.2.2.2.2.2.2.2.1 hH.2.2.2.2.2.2.2.2.2.2.1 hH.2.2.2.2.2.2.2.2.2.2.2, cf_F.tr (cf_F.up (cf_pl_F (hpl o (Or.inl ho)))) (cf_F.up (Or.inl (cf_cls_lt ho)))⟩
    · by_cases hpo : p = o
      · subst hpo
        rw [ho] at hp
        cases hp
        rw [rf_at_self ((rf_at_up hqo).trans (hH.1 p 3 ho)), cf_fs3, ← a2]
        unfold by_a
        simp [hn]
      · rw [rf_at_up hpo, rf_at_up (cf_cls_pl hp (hpl o (Or.inl ho))), hH.1 p c hp, cf_fs_eq (s' := by_a s o x)]
        · intro b; rw [hoth p hpo]
        · intro b; rfl
        · rfl
        · intro b; rfl
    · rw [rf_at_up (cf_cls_pl ho (hpl p hp)).symm, rf_at_up (fun z => hpo (hH.2.2.2.2.1 _ _ hp (Or.inl ho) z))]
    · refine ⟨upd f (nI L).toNatClampNeg (vp_nar .byte x.toInt8.toInt32), L + 1, ?_, ?_, by omega, fun i hi => ?_⟩
      · rw [show cf_q (by_a s o x) o = cf_q s o from rfl, rf_at_up hqo.symm]; exact rf_at_self a1
      · unfold by_a
        simp only [hn, and_true, if_true, true_and]
        simp [a2, nI_1]
      · rw [by_a_f, a2, nI_clamp (by omega)]
        by_cases hiL : i = L
        · subst hiL
          simp [upd, cf_byte]
        · simp only [upd, hiL, if_false, and_false]
          exact a4 i (by omega)
end CP
