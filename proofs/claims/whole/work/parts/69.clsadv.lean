/-! PART 69: the class's spelled and advance -/
/-- two pieces of the letters are the same -/
def tx_eq (s : cf_S) (a l p m : Nat) : Prop := l = m ∧ ∀ i, i < l → by_g s 4 (nI (a + i)) = by_g s 4 (nI (p + i))
theorem c_sp79 {d o p l j : Nat} {x4 : Int32} {s : cf_S} {Q : Int32 → cf_S → Prop} (hj : j < 2 ^ 31) (hl : l < 2 ^ 31) (Keq : j = l → Q x4 s)
    (Kne : ¬ j = l → cf_R (d + 10) 234 (3, [(0, .ref 3), (1, .ref o), (2, .int (nI p)), (3, .int (nI l)), (4, .int (x4 + 1))], [], s) (cf_qI Q)) : wc_Program_spelled_79 d o (nI p) (nI l) x4 (nI j) s Q := by
  unfold wc_Program_spelled_79
  simp only [rc_i1]
  exact ⟨fun z => Kne (fun y => z (by rw [y])), fun z => Keq ((nI_eq hj hl).mp z)⟩
theorem c_sp41 {d o a p l : Nat} {x4 : Int32} {s : cf_S} {Q : Int32 → cf_S → Prop} (hl : l < 2 ^ 30) (Keq : (∀ i, i < l → by_g s 4 (nI (a + i)) = by_g s 4 (nI (p + i))) → Q x4 s)
    (Kne : ¬ (∀ i, i < l → by_g s 4 (nI (a + i)) = by_g s 4 (nI (p + i))) → cf_R (d + 10) 234 (3, [(0, .ref 3), (1, .ref o), (2, .int (nI p)), (3, .int (nI l)), (4, .int (x4 + 1))], [], s) (cf_qI Q)) : ∀ (k j : Nat), j + k = l → (∀ i, i < j → by_g s 4 (nI (a + i)) = by_g s 4 (nI (p + i))) →
    cf_R (d + 10) 234 (41, [(0, .ref 3), (1, .ref o), (2, .int (nI p)), (3, .int (nI l)), (4, .int x4), (5, .int (nI a)), (6, .int (nI j))], [], s) (cf_qI Q) := by
  intro k
  induction k with
  | zero =>
    intro j hj hI
    refine wc_Program_spelled_41_ok ?_
    unfold wc_Program_spelled_41
    refine ⟨fun _ => c_sp79 (by omega) (by omega) (fun _ => Keq (fun i hi => hI i (by omega))) (fun z => absurd (by omega) z), fun z => absurd (nI_le (by omega) (by omega)) z⟩
  | succ k ih =>
    intro j hj hI
    refine wc_Program_spelled_41_ok ?_
    unfold wc_Program_spelled_41
    simp only [nI_add, rc_i1, nI_1]
    refine ⟨fun z => absurd z (nI_ge (by omega) (by omega)), fun _ => ⟨fun z => c_sp79 (by omega) (by omega) (fun y => by omega) (fun _ => Kne (fun y => z (y j (by omega)))), fun z => ih (j + 1) (by omega) (fun i hi => ?_)⟩⟩
    by_cases hij : i = j
    · subst hij; exact z
    · exact hI i (by omega)
theorem tb_get_in {s : cf_S} {o R r j : Nat} (h2 : s.1 o 2 = nI R) (hr : r < R) (hR : R < 2 ^ 31) (hj : j < cf_wd o) : tb_get s o (nI r) (nI j) = cf_t s o r j := by
  have hw := cf_wd_in o
  unfold tb_get
  rw [h2, if_neg, nI_clamp (by omega), nI_clamp (by omega)]
  rintro (z | z | z | z)
  · exact nI_pos (by omega) z
  · exact nI_ge hr hR z
  · exact nI_pos (by omega) z
  · exact nI_ge hj (by omega) z
/-- spelled(table, place, many) -/
theorem c_spelled {d o p l m : Nat} {A L : Nat → Nat} {s : cf_S} {Q : Int32 → cf_S → Prop} (ho : cf_cls o = some 10) (hw : 2 ≤ cf_wd o) (h2 : s.1 o 2 = nI (m + 1)) (hm : (m + 2) * cf_wd o ≤ 1048576) (hN : cf_N s + 1 < 1000000000) (hl : l < 2 ^ 30) (hA : ∀ r, 1 ≤ r → r ≤ m → cf_t s o r 0 = nI (A r) ∧ cf_t s o r 1 = nI (L r) ∧ A r < 2 ^ 20 ∧ L r < 2 ^ 20)
    (K1 : ∀ r, 1 ≤ r → r ≤ m → tx_eq s (A r) (L r) p l → Q (nI r) s)
    (K2 : (∀ r, 1 ≤ r → r ≤ m → ¬ tx_eq s (A r) (L r) p l) → Q (nI (m + 1)) (tb_set (tb_set (tb_add s o) o (nI (m + 1)) 0 (nI p)) o (nI (m + 1)) 1 (nI l))) : cf_I (d + 10) 234 [(0, .ref 3), (1, .ref o), (2, .int (nI p)), (3, .int (nI l))] s Q := by
  have hm2 : m + 2 ≤ 1048576 := by
    have : (m + 2) * 1 ≤ (m + 2) * cf_wd o := Nat.mul_le_mul_left _ (by omega)
    omega
  have hnew : tb_new s o = nI (m + 1) := by
    unfold tb_new
    rw [if_pos, h2]
    unfold tb_ok tb_T
    rw [h2, nI_clamp (by omega)]
    exact hm
  have loop : ∀ (k r : Nat), r + k = m + 1 → 1 ≤ r → (∀ i, 1 ≤ i → i < r → ¬ tx_eq s (A i) (L i) p l) → cf_R (d + 10) 234 (3, [(0, .ref 3), (1, .ref o), (2, .int (nI p)), (3, .int (nI l)), (4, .int (nI r))], [], s) (cf_qI Q) := by
    intro k
    induction k with
    | zero =>
      intro r hr h1 hI
      refine wc_Program_spelled_3_ok ?_
      unfold wc_Program_spelled_3
      simp only [h2, hnew, rc_i0, rc_i1]
      refine ⟨ho, fun _ => ⟨ho, hN, ho, ho, K2 (fun i i1 i2 => hI i i1 (by omega))⟩, fun z => absurd (nI_le (by omega) (by omega)) z⟩
    | succ k ih =>
      intro r hr h1 hI
      obtain ⟨a1, a2, a3, a4⟩ := hA r h1 (by omega)
      refine wc_Program_spelled_3_ok ?_
      unfold wc_Program_spelled_3
      have g0 : tb_get s o (nI r) 0 = nI (A r) := (tb_get_in (j := 0) h2 (by omega) (by omega) (by omega)).trans a1
      have g1 : tb_get s o (nI r) 1 = nI (L r) := (tb_get_in (j := 1) h2 (by omega) (by omega) (by omega)).trans a2
      simp only [h2, hnew, rc_i0, rc_i1, g0, g1]
      have next : ¬ tx_eq s (A r) (L r) p l → cf_R (d + 10) 234 (3, [(0, .ref 3), (1, .ref o), (2, .int (nI p)), (3, .int (nI l)), (4, .int (nI r + 1))], [], s) (cf_qI Q) := by
        intro hne
        rw [nI_1]
        refine ih (r + 1) (by omega) (by omega) (fun i i1 i2 => ?_)
        by_cases hir : i = r
        · subst hir; exact hne
        · exact hI i i1 (by omega)
      refine ⟨ho, fun z => absurd z (nI_ge (by omega) (by omega)), fun _ => ⟨ho, ho, fun z => ?_, fun z => ?_⟩⟩
      · unfold wc_Program_spelled_39
        have hne : ¬ tx_eq s (A r) (L r) p l := fun y => z (by rw [y.1])
        refine wc_Program_spelled_41_ok ?_
        unfold wc_Program_spelled_41
        rw [nI_1]
        exact ⟨fun _ => c_sp79 (by omega) (by omega) (fun y => by omega) (fun _ => next hne), fun y => absurd (nI_le (by omega) (by omega)) y⟩
      · have hLl : L r = l := (nI_eq (by omega) (by omega)).mp z
        unfold wc_Program_spelled_39
        refine c_sp41 (a := A r) hl (fun y => K1 r h1 (by omega) ⟨hLl, by rw [hLl]; exact y⟩) (fun y => next (fun w => y (by rw [← hLl]; exact w.2))) l 0 (by omega) (fun i hi => by omega)
  refine wc_Program_spelled_ok ?_
  unfold wc_Program_spelled
  simp only [rc_i1]
  exact loop m 1 (by omega) (Nat.le_refl 1) (fun i i1 i2 => by omega)
/-- advance(), when nothing is refused -/
theorem c_advance {d n : Nat} {Q : cf_S → Prop} (hn : n ≤ 2000) : ∀ (j p : Nat) (s : cf_S), n - p = j → s.1 3 1 = nI n → s.1 4 1 = nI (n + 24) → s.1 23 2 = nI p → p ≤ n →
    (KE : ∀ (s' : cf_S) (e : Nat) (k : Int32), (∀ o b, ¬ (o = 23 ∧ 2 ≤ b ∧ b ≤ 5) → s'.1 o b = s.1 o b) → s'.2 = s.2 → lx_tk (cf_f s 4) n (lx_end lx_B (cf_f s 4) n p) e k → (lx_end lx_B (cf_f s 4) n p = n ∨ lx_L (cf_f s 4 (lx_end lx_B (cf_f s 4) n p)) = false) → s'.1 23 2 = nI e → s'.1 23 3 = k → s'.1 23 4 = nI (lx_end lx_B (cf_f s 4) n p) → (k = 4 → s'.1 23 5 = lx_num (cf_f s 4) (e - lx_end lx_B (cf_f s 4) n p) (lx_end lx_B (cf_f s 4) n p) 0) → Q s') →
    (KC : ∀ (s1 : cf_S) (e : Nat), (∀ o b, ¬ (o = 23 ∧ 2 ≤ b ∧ b ≤ 5) → s1.1 o b = s.1 o b) → s1.2 = s.2 → lx_end lx_B (cf_f s 4) n p < n → lx_C (cf_f s 4 (lx_end lx_B (cf_f s 4) n p)) = true → e = lx_end lx_A (cf_f s 4) n (lx_end lx_B (cf_f s 4) n p) → s1.1 23 2 = nI e → s1.1 23 4 = nI (lx_end lx_B (cf_f s 4) n p) → cf_I (d + 10) 234 [(0, .ref 3), (1, .ref 8), (2, .int (nI (lx_end lx_B (cf_f s 4) n p))), (3, .int (nI (e - lx_end lx_B (cf_f s 4) n p)))] s1 (fun r s2 => Q (cf_si (cf_si s2 23 5 r) 23 3 3))) →
    (KS : ∀ (s1 : cf_S) (e : Nat), (∀ o b, ¬ (o = 23 ∧ 2 ≤ b ∧ b ≤ 5) → s1.1 o b = s.1 o b) → s1.2 = s.2 → lx_end lx_B (cf_f s 4) n p < n → lx_S (cf_f s 4 (lx_end lx_B (cf_f s 4) n p)) = true → e = lx_end lx_A (cf_f s 4) n (lx_end lx_B (cf_f s 4) n p) → s1.1 23 2 = nI e → s1.1 23 4 = nI (lx_end lx_B (cf_f s 4) n p) → cf_I (d + 10) 234 [(0, .ref 3), (1, .ref 6), (2, .int (nI (lx_end lx_B (cf_f s 4) n p))), (3, .int (nI (e - lx_end lx_B (cf_f s 4) n p)))] s1 (fun r s2 => Q (cf_si (cf_si s2 23 5 r) 23 3 (if r < 1 ∨ 4 < r then 2 else 5 + r - 1)))) →
    cf_R (d + 1 + 10) 246 (8, [(0, .ref 23)], [], s) (cf_qV Q) := by
  have main : ∀ (p : Nat) (s : cf_S), s.1 3 1 = nI n → s.1 4 1 = nI (n + 24) → s.1 23 2 = nI p → p ≤ n →
      (∀ (s' : cf_S) (e : Nat) (k : Int32), (∀ o b, ¬ (o = 23 ∧ 2 ≤ b ∧ b ≤ 5) → s'.1 o b = s.1 o b) → s'.2 = s.2 → lx_tk (cf_f s 4) n p e k → (p = n ∨ lx_L (cf_f s 4 p) = false) → s'.1 23 2 = nI e → s'.1 23 3 = k → s'.1 23 4 = nI p → (k = 4 → s'.1 23 5 = lx_num (cf_f s 4) (e - p) p 0) → Q s') →
      (∀ (s1 : cf_S) (e : Nat), (∀ o b, ¬ (o = 23 ∧ 2 ≤ b ∧ b ≤ 5) → s1.1 o b = s.1 o b) → s1.2 = s.2 → p < n → lx_C (cf_f s 4 p) = true → e = lx_end lx_A (cf_f s 4) n p → s1.1 23 2 = nI e → s1.1 23 4 = nI p → cf_I (d + 10) 234 [(0, .ref 3), (1, .ref 8), (2, .int (nI p)), (3, .int (nI (e - p)))] s1 (fun r s2 => Q (cf_si (cf_si s2 23 5 r) 23 3 3))) →
      (∀ (s1 : cf_S) (e : Nat), (∀ o b, ¬ (o = 23 ∧ 2 ≤ b ∧ b ≤ 5) → s1.1 o b = s.1 o b) → s1.2 = s.2 → p < n → lx_S (cf_f s 4 p) = true → e = lx_end lx_A (cf_f s 4) n p → s1.1 23 2 = nI e → s1.1 23 4 = nI p → cf_I (d + 10) 234 [(0, .ref 3), (1, .ref 6), (2, .int (nI p)), (3, .int (nI (e - p)))] s1 (fun r s2 => Q (cf_si (cf_si s2 23 5 r) 23 3 (if r < 1 ∨ 4 < r then 2 else 5 + r - 1)))) →
      wc_Reader_advance_52 (d + 1) s Q := by
    intro p s hl hL h2 hp KE KC KS
    unfold wc_Reader_advance_52
    simp only [hl, h2, rc_i0]
    refine ⟨fun z => ?_, fun z => ?_⟩
    · have hpn : p < n := (nI_ltI (by omega) (by omega)).mp z
      have eg : by_g (cf_si s 23 4 (nI p)) 4 (nI p) = cf_f s 4 p := by_g_in (s := cf_si s 23 4 (nI p)) (m := n + 24) hL (by omega) (by omega)
      rw [eg]
      have fr4 : ∀ (t : cf_S), (∀ o b, ¬ (o = 23 ∧ 2 ≤ b ∧ b ≤ 5) → t.1 o b = s.1 o b) → ∀ (b : Nat) (x : Int32), 2 ≤ b → b ≤ 5 → (∀ o c, ¬ (o = 23 ∧ 2 ≤ c ∧ c ≤ 5) → (cf_si t 23 b x).1 o c = s.1 o c) := by
        intro t ht b x hb1 hb2 o c hoc
        rw [cf_si_i, if_neg (fun y => hoc ⟨y.1, by omega, by omega⟩)]
        exact ht o c hoc
      have fr0 : ∀ o b, ¬ (o = 23 ∧ 2 ≤ b ∧ b ≤ 5) → s.1 o b = s.1 o b := fun _ _ _ => rfl
      have f4 := fr4 s fr0 4 (nI p) (by omega) (by omega)
      refine c_isDigit (fun hD => sp_1a ?_) (fun hD => sp_0a ?_)
      · -- a number
        refine wc_Reader_readNumber_ok ?_
        unfold wc_Reader_readNumber
        simp only [rc_i0]
        refine c_num_loop (n := n) (q := p) hn (n - p) p _ rfl hl hL h2 rfl (Nat.le_refl p) hp (fun e he => ?_)
        have he' : e = lx_end lx_D (cf_f s 4) n p := he
        have hLf := lx_DL hD
        have key : ∀ k : Int32, (p + 9 < e ∧ k = 1) ∨ (¬ p + 9 < e ∧ k = 4) → Q (cf_si (cf_si (cf_si (cf_si (cf_si s 23 4 (nI p)) 23 5 0) 23 5 (lx_num (cf_f s 4) (e - p) p 0)) 23 2 (nI e)) 23 3 k) := by
          intro k hk
          refine KE _ e k (fr4 _ (fr4 _ (fr4 _ (fr4 _ f4 5 _ (by omega) (by omega)) 5 _ (by omega) (by omega)) 2 _ (by omega) (by omega)) 3 _ (by omega) (by omega)) rfl (Or.inr (Or.inr (Or.inl ⟨hpn, hLf, hD, he', hk⟩))) (Or.inr hLf) rfl rfl rfl (fun _ => rfl)
        exact ⟨fun y => key 1 (Or.inl ⟨y, rfl⟩), fun y => key 4 (Or.inr ⟨y, rfl⟩)⟩
      · refine c_isCapital (fun hC => sp_1a ?_) (fun hC => sp_0a ?_)
        · refine c_skip (n := n) hn (n - p) p _ rfl hl hL h2 hp ?_
          generalize he : lx_end lx_A (cf_f (cf_si s 23 4 (nI p)) 4) n p = e
          have he' : e = lx_end lx_A (cf_f s 4) n p := he.symm
          have hle := lx_le (P := lx_A) (f := cf_f s 4) (n := n) (p := p)
          have hlen := lx_len (P := lx_A) (f := cf_f s 4) (n := n) (p := p) hp
          have ed : (cf_si (cf_si s 23 4 (nI p)) 23 2 (nI e)).1 23 2 - (cf_si (cf_si s 23 4 (nI p)) 23 2 (nI e)).1 23 4 = nI (e - p) := by
            show nI e - nI p = nI (e - p)
            have : nI e = nI (e - p) + nI p := by rw [nI_add]; congr 1; omega
            rw [this, Int32.add_sub_cancel]
          rw [ed]
          simp only [rc_i3]
          exact KC _ e (fr4 _ f4 2 _ (by omega) (by omega)) rfl hpn hC he' rfl rfl
        · refine c_isSmall (fun hS => sp_1a ?_) (fun hS => sp_0a ?_)
          · refine c_skip (n := n) hn (n - p) p _ rfl hl hL h2 hp ?_
            generalize he : lx_end lx_A (cf_f (cf_si s 23 4 (nI p)) 4) n p = e
            have he' : e = lx_end lx_A (cf_f s 4) n p := he.symm
            have hle := lx_le (P := lx_A) (f := cf_f s 4) (n := n) (p := p)
            have ed : (cf_si (cf_si s 23 4 (nI p)) 23 2 (nI e)).1 23 2 - (cf_si (cf_si s 23 4 (nI p)) 23 2 (nI e)).1 23 4 = nI (e - p) := by
              show nI e - nI p = nI (e - p)
              have : nI e = nI (e - p) + nI p := by rw [nI_add]; congr 1; omega
              rw [this, Int32.add_sub_cancel]
            rw [ed]
            refine cf_I_imp (KS _ e (fr4 _ f4 2 _ (by omega) (by omega)) rfl hpn hS he' rfl rfl) (fun r s2 hq => ?_)
            unfold wc_Reader_advance_228 wc_Reader_advance_229
            simp only [rc_i1, rc_i2, rc_i4, rc_i5]
            refine ⟨fun y => ?_, fun y => ⟨fun y2 => ?_, fun y2 => ?_⟩⟩
            · rw [if_pos (Or.inl y)] at hq; exact hq
            · rw [if_pos (Or.inr y2)] at hq; exact hq
            · rw [if_neg (fun w => w.elim y y2)] at hq; exact hq
          · have hLf : lx_L (cf_f s 4 p) = false := by unfold lx_L; rw [hS, hC]; rfl
            refine c_readSign (s := cf_si s 23 4 (nI p)) (n := n) (p := p) hn hl hL h2 hpn (fun ht k hk => ?_) (fun ht k hk => ?_)
            · refine KE _ (p + 2) k (fr4 _ (fr4 _ f4 2 _ (by omega) (by omega)) 3 _ (by omega) (by omega)) rfl (Or.inr (Or.inr (Or.inr ⟨hpn, hLf, hD, Or.inl ⟨ht, rfl, hk⟩⟩))) (Or.inr hLf) rfl rfl rfl (fun h4 => ?_)
              rcases hk with w | w
              · rw [w.2] at h4; exact absurd h4 (by decide)
              · rw [w.2] at h4; exact absurd h4 (by decide)
            · refine KE _ (p + 1) k (fr4 _ (fr4 _ f4 2 _ (by omega) (by omega)) 3 _ (by omega) (by omega)) rfl (Or.inr (Or.inr (Or.inr ⟨hpn, hLf, hD, Or.inr ⟨ht, rfl, hk⟩⟩))) (Or.inr hLf) rfl rfl rfl (fun h4 => ?_)
              rcases hk with w | w
              · rw [h4] at w
                have := w.1
                rw [← w.2] at this
                exact absurd this (by unfold lx_is; decide)
              · rw [w.2] at h4; exact absurd h4 (by decide)
    · have hpn : p = n := by
        have := Nat.le_of_not_lt (fun y => z (nI_lt (a := p) (b := n) y (by omega)))
        omega
      refine KE _ p 0 (fun o b hob => ?_) rfl (Or.inl ⟨hpn, rfl, rfl⟩) (Or.inl hpn) ?_ rfl rfl (fun y => absurd y (by decide))
      · rw [cf_si_i, cf_si_i, if_neg (fun y => hob ⟨y.1, by omega, by omega⟩), if_neg (fun y => hob ⟨y.1, by omega, by omega⟩)]
      · exact h2
  intro j
  induction j with
  | zero =>
    intro p s hj hl hL h2 hp KE KC KS
    refine wc_Reader_advance_8_ok ?_
    unfold wc_Reader_advance_8
    simp only [hl, h2]
    refine ⟨fun _ => ?_, fun z => absurd (nI_le (by omega) (by omega)) z⟩
    rw [lx_end_n (by omega)] at KE KC KS
    exact main p s hl hL h2 hp KE KC KS
  | succ j ih =>
    intro p s hj hl hL h2 hp KE KC KS
    have hlt : p < n := by omega
    refine wc_Reader_advance_8_ok ?_
    unfold wc_Reader_advance_8
    simp only [hl, h2]
    refine ⟨fun z => absurd z (nI_ge hlt (by omega)), fun _ => ?_⟩
    rw [by_g_in hL (by omega) (by omega)]
    refine c_isBlank (fun hb => sp_1a ?_) (fun hb => sp_0a ?_)
    · simp only [rc_i1, h2, nI_1]
      rw [lx_end_y hlt hb] at KE KC KS
      have fr : ∀ (t : cf_S), (∀ o b, ¬ (o = 23 ∧ 2 ≤ b ∧ b ≤ 5) → t.1 o b = (cf_si s 23 2 (nI (p + 1))).1 o b) → (∀ o b, ¬ (o = 23 ∧ 2 ≤ b ∧ b ≤ 5) → t.1 o b = s.1 o b) := by
        intro t ht o b hob
        rw [ht o b hob, cf_si_i, if_neg (fun y => hob ⟨y.1, by omega, by omega⟩)]
      exact ih (p + 1) _ (by omega) hl hL rfl (by omega) (fun s' e k g1 => KE s' e k (fr _ g1)) (fun s1 e g1 => KC s1 e (fr _ g1)) (fun s1 e g1 => KS s1 e (fr _ g1))
    · rw [lx_end_n (by rw [hb]; simp)] at KE KC KS
      exact main p s hl hL h2 hp KE KC KS
