/-! PART 68: the class's reader: single bytes, runs, numbers, signs -/
theorem cf_si_i {s : cf_S} {o b p c : Nat} {x : Int32} : (cf_si s o b x).1 p c = if p = o ∧ c = b then x else s.1 p c := rfl
theorem cf_si_2 {s : cf_S} {o b : Nat} {x : Int32} : (cf_si s o b x).2 = s.2 := rfl
theorem cf_si_si {s : cf_S} {o b : Nat} {x y : Int32} : cf_si (cf_si s o b x) o b y = cf_si s o b y := by
  unfold cf_si
  congr 1
  funext p c
  unfold cf_ui
  by_cases h : p = o ∧ c = b
  · rw [if_pos h, if_pos h]
  · rw [if_neg h, if_neg h]
    show (if p = o ∧ c = b then x else s.1 p c) = s.1 p c
    rw [if_neg h]
theorem cf_si_id {s : cf_S} {o b : Nat} {x : Int32} (h : s.1 o b = x) : cf_si s o b x = s := by
  unfold cf_si
  have : cf_ui s.1 o b x = s.1 := by
    funext p c
    unfold cf_ui
    by_cases hc : p = o ∧ c = b
    · obtain ⟨rfl, rfl⟩ := hc; rw [if_pos ⟨rfl, rfl⟩, h]
    · rw [if_neg hc]
  rw [this]
theorem cf_si_cm {s : cf_S} {o b o' b' : Nat} {x y : Int32} (h : ¬ (o = o' ∧ b = b')) : cf_si (cf_si s o b x) o' b' y = cf_si (cf_si s o' b' y) o b x := by
  unfold cf_si
  congr 1
  funext p c
  unfold cf_ui
  by_cases h1 : p = o ∧ c = b
  · by_cases h2 : p = o' ∧ c = b'
    · exact absurd ⟨h1.1.symm.trans h2.1, h1.2.symm.trans h2.2⟩ h
    · rw [if_pos h1, if_neg h2]
      show (if p = o ∧ c = b then x else s.1 p c) = x
      rw [if_pos h1]
  · by_cases h2 : p = o' ∧ c = b'
    · rw [if_neg h1, if_pos h2]
      show y = if p = o' ∧ c = b' then y else s.1 p c
      rw [if_pos h2]
    · rw [if_neg h1, if_neg h2]
      show (if p = o ∧ c = b then x else s.1 p c) = if p = o' ∧ c = b' then y else s.1 p c
      rw [if_neg h1, if_neg h2]
theorem by_g_in {s : cf_S} {o m i : Nat} (h : s.1 o 1 = nI m) (hi : i < m) (hm : m < 2 ^ 31) : by_g s o (nI i) = cf_f s o i := by
  unfold by_g
  rw [h, if_neg, nI_clamp (by omega)]
  rintro (z | z)
  · exact nI_pos (by omega) z
  · exact nI_ge hi hm z
theorem lx_DL {c : Int32} (h : lx_D c = true) : lx_L c = false := by
  unfold lx_D at h
  simp only [Bool.and_eq_true, decide_eq_true_eq] at h
  unfold lx_L lx_S lx_C
  have h1 : ¬ 97 ≤ c := fun z => absurd (Int32.le_trans z h.2) (by decide)
  have h2 : ¬ 65 ≤ c := fun z => absurd (Int32.le_trans z h.2) (by decide)
  simp [h1, h2]
theorem lx_CS {c : Int32} (h : lx_C c = true) : lx_S c = false := by
  unfold lx_C at h
  simp only [Bool.and_eq_true, decide_eq_true_eq] at h
  unfold lx_S
  have h1 : ¬ 97 ≤ c := fun z => absurd (Int32.le_trans z h.2) (by decide)
  simp [h1]
theorem lx_rng {lo hi c : Int32} : (decide (lo ≤ c) && decide (c ≤ hi)) = true ↔ ¬ c < lo ∧ ¬ hi < c := by
  simp only [Bool.and_eq_true, decide_eq_true_eq, Int32.not_lt]
theorem c_isBlank {d : Nat} {c : Int32} {s : cf_S} {Q : Int32 → cf_S → Prop} (h1 : lx_B c = true → Q 1 s) (h0 : lx_B c = false → Q 0 s) : cf_I d 251 [(0, .int c)] s Q := by
  refine wc_Reader_isBlank_ok ?_
  unfold wc_Reader_isBlank wc_Reader_isBlank_12
  simp only [rc_b32, rc_b10, rc_i0, rc_i1]
  refine ⟨fun z => h1 (by unfold lx_B; simp [z]), fun z => ⟨fun y => h0 (by unfold lx_B; simp [z, y]), fun y => h1 (by unfold lx_B; simp [y])⟩⟩
theorem c_isDigit {d : Nat} {c : Int32} {s : cf_S} {Q : Int32 → cf_S → Prop} (h1 : lx_D c = true → Q 1 s) (h0 : lx_D c = false → Q 0 s) : cf_I d 252 [(0, .int c)] s Q := by
  refine wc_Reader_isDigit_ok ?_
  unfold wc_Reader_isDigit
  simp only [rc_b48, rc_b57, rc_i0, rc_i1]
  have hd : lx_D c = true ↔ ¬ c < 48 ∧ ¬ 57 < c := lx_rng
  exact ⟨fun z => h0 (by rw [Bool.eq_false_iff]; exact fun y => (hd.mp y).1 z), fun z => ⟨fun y => h0 (by rw [Bool.eq_false_iff]; exact fun w => (hd.mp w).2 y), fun y => h1 (hd.mpr ⟨z, y⟩)⟩⟩
theorem c_isCapital {d : Nat} {c : Int32} {s : cf_S} {Q : Int32 → cf_S → Prop} (h1 : lx_C c = true → Q 1 s) (h0 : lx_C c = false → Q 0 s) : cf_I d 253 [(0, .int c)] s Q := by
  refine wc_Reader_isCapital_ok ?_
  unfold wc_Reader_isCapital
  simp only [rc_b65, rc_b90, rc_i0, rc_i1]
  have hd : lx_C c = true ↔ ¬ c < 65 ∧ ¬ 90 < c := lx_rng
  exact ⟨fun z => h0 (by rw [Bool.eq_false_iff]; exact fun y => (hd.mp y).1 z), fun z => ⟨fun y => h0 (by rw [Bool.eq_false_iff]; exact fun w => (hd.mp w).2 y), fun y => h1 (hd.mpr ⟨z, y⟩)⟩⟩
theorem c_isSmall {d : Nat} {c : Int32} {s : cf_S} {Q : Int32 → cf_S → Prop} (h1 : lx_S c = true → Q 1 s) (h0 : lx_S c = false → Q 0 s) : cf_I d 254 [(0, .int c)] s Q := by
  refine wc_Reader_isSmall_ok ?_
  unfold wc_Reader_isSmall
  simp only [rc_b97, rc_b122, rc_i0, rc_i1]
  have hd : lx_S c = true ↔ ¬ c < 97 ∧ ¬ 122 < c := lx_rng
  exact ⟨fun z => h0 (by rw [Bool.eq_false_iff]; exact fun y => (hd.mp y).1 z), fun z => ⟨fun y => h0 (by rw [Bool.eq_false_iff]; exact fun w => (hd.mp w).2 y), fun y => h1 (hd.mpr ⟨z, y⟩)⟩⟩
theorem c_isLD {d : Nat} {c : Int32} {s : cf_S} {Q : Int32 → cf_S → Prop} (h1 : lx_A c = true → Q 1 s) (h0 : lx_A c = false → Q 0 s) : cf_I d 255 [(0, .int c)] s Q := by
  refine wc_Reader_isLetterOrDigit_ok ?_
  have hS : lx_S c = true ↔ ¬ c < 97 ∧ ¬ 122 < c := lx_rng
  have hC : lx_C c = true ↔ ¬ c < 65 ∧ ¬ 90 < c := lx_rng
  have hD : lx_D c = true ↔ ¬ c < 48 ∧ ¬ 57 < c := lx_rng
  have K24 : lx_S c = false → lx_C c = false → wc_Reader_isLetterOrDigit_24 d c s Q := by
    intro a1 a2
    unfold wc_Reader_isLetterOrDigit_24 wc_Reader_isLetterOrDigit_36
    simp only [rc_b48, rc_b57, rc_i0, rc_i1]
    have hz : lx_D c = false → Q 0 s := fun z => h0 (by unfold lx_A lx_L; rw [a1, a2, z]; rfl)
    exact ⟨fun z => hz (by rw [Bool.eq_false_iff]; exact fun y => (hD.mp y).1 z), fun z => ⟨fun y => hz (by rw [Bool.eq_false_iff]; exact fun w => (hD.mp w).2 y), fun y => h1 (by unfold lx_A; rw [hD.mpr ⟨z, y⟩, Bool.or_true])⟩⟩
  have K12 : lx_S c = false → wc_Reader_isLetterOrDigit_12 d c s Q := by
    intro a1
    unfold wc_Reader_isLetterOrDigit_12 wc_Reader_isLetterOrDigit_36
    simp only [rc_b65, rc_b90, rc_i1]
    refine ⟨fun z => K24 a1 (by rw [Bool.eq_false_iff]; exact fun y => (hC.mp y).1 z), fun z => ⟨fun y => h1 ?_, fun y => K24 a1 (by rw [Bool.eq_false_iff]; exact fun w => (hC.mp w).2 (Int32.not_le.mp y))⟩⟩
    unfold lx_A lx_L
    rw [hC.mpr ⟨z, Int32.not_lt.mpr y⟩]
    simp
  unfold wc_Reader_isLetterOrDigit wc_Reader_isLetterOrDigit_36
  simp only [rc_b97, rc_b122, rc_i1]
  refine ⟨fun z => K12 (by rw [Bool.eq_false_iff]; exact fun y => (hS.mp y).1 z), fun z => ⟨fun y => h1 ?_, fun y => K12 (by rw [Bool.eq_false_iff]; exact fun w => (hS.mp w).2 (Int32.not_le.mp y))⟩⟩
  unfold lx_A lx_L
  rw [hS.mpr ⟨z, Int32.not_lt.mpr y⟩]
  simp
/-- skipLetters -/
theorem c_skip {d n : Nat} {Q : cf_S → Prop} (hn : n ≤ 2000) : ∀ (j p : Nat) (s : cf_S), n - p = j → s.1 3 1 = nI n → s.1 4 1 = nI (n + 24) → s.1 23 2 = nI p → p ≤ n →
    Q (cf_si s 23 2 (nI (lx_end lx_A (cf_f s 4) n p))) → cf_V (d + 10) 248 [(0, .ref 23)] s Q := by
  intro j
  induction j with
  | zero =>
    intro p s hj hl hL h2 hp K
    refine wc_Reader_skipLetters_0_ok ?_
    unfold wc_Reader_skipLetters_0
    simp only [hl, h2]
    refine ⟨fun _ => ?_, fun z => absurd (nI_le (by omega) (by omega)) z⟩
    rw [lx_end_n (by omega), cf_si_id h2] at K
    exact K
  | succ j ih =>
    intro p s hj hl hL h2 hp K
    have hlt : p < n := by omega
    refine wc_Reader_skipLetters_0_ok ?_
    unfold wc_Reader_skipLetters_0
    simp only [hl, h2]
    refine ⟨fun z => absurd z (nI_ge hlt (by omega)), fun _ => ?_⟩
    rw [by_g_in hL (by omega) (by omega)]
    refine c_isLD (fun ha => sp_1a ?_) (fun ha => sp_0a ?_)
    · simp only [rc_i1, h2, nI_1]
      refine ih (p + 1) _ (by omega) hl hL rfl (by omega) ?_
      rw [cf_si_si]
      rw [lx_end_y hlt ha] at K
      exact K
    · rw [lx_end_n (by rw [ha]; simp), cf_si_id h2] at K
      exact K
/-- readNumber's loop -/
theorem c_num_loop {d n q : Nat} {Q : cf_S → Prop} (hn : n ≤ 2000) : ∀ (j p : Nat) (s : cf_S), n - p = j → s.1 3 1 = nI n → s.1 4 1 = nI (n + 24) → s.1 23 2 = nI p → s.1 23 4 = nI q → q ≤ p → p ≤ n →
    (∀ e, e = lx_end lx_D (cf_f s 4) n p → (q + 9 < e → Q (cf_si (cf_si (cf_si s 23 5 (lx_num (cf_f s 4) (e - p) p (s.1 23 5))) 23 2 (nI e)) 23 3 1)) ∧ (¬ q + 9 < e → Q (cf_si (cf_si (cf_si s 23 5 (lx_num (cf_f s 4) (e - p) p (s.1 23 5))) 23 2 (nI e)) 23 3 4))) → cf_R (d + 10) 247 (5, [(0, .ref 23)], [], s) (cf_qV Q) := by
  have fin : ∀ (p : Nat) (s : cf_S), s.1 23 2 = nI p → s.1 23 4 = nI q → q ≤ p → p ≤ n →
      ((q + 9 < p → Q (cf_si s 23 3 1)) ∧ (¬ q + 9 < p → Q (cf_si s 23 3 4))) → wc_Reader_readNumber_75 d s Q := by
    intro p s h2 h4 hq hp K
    unfold wc_Reader_readNumber_75
    simp only [h2, h4, rc_b9, rc_i4, rc_i1]
    have e1 : nI p - nI q = nI (p - q) := by
      have : nI p = nI (p - q) + nI q := by rw [nI_add]; congr 1; omega
      rw [this, Int32.add_sub_cancel]
    rw [e1, show (9 : Int32) = nI 9 from rfl, nI_leI (by omega) (by omega)]
    exact ⟨fun z => K.2 (by omega), fun z => K.1 (by omega)⟩
  intro j
  induction j with
  | zero =>
    intro p s hj hl hL h2 h4 hq hp K
    refine wc_Reader_readNumber_5_ok ?_
    unfold wc_Reader_readNumber_5
    simp only [hl, h2]
    refine ⟨fun _ => ?_, fun z => absurd (nI_le (by omega) (by omega)) z⟩
    have K := K p (lx_end_n (by omega)).symm
    rw [Nat.sub_self, lx_num, cf_si_id rfl, cf_si_id h2] at K
    exact fin p s h2 h4 hq hp K
  | succ j ih =>
    intro p s hj hl hL h2 h4 hq hp K
    have hlt : p < n := by omega
    refine wc_Reader_readNumber_5_ok ?_
    unfold wc_Reader_readNumber_5
    simp only [hl, h2]
    refine ⟨fun z => absurd z (nI_ge hlt (by omega)), fun _ => ?_⟩
    rw [by_g_in hL (by omega) (by omega)]
    refine c_isDigit (fun ha => sp_1a ?_) (fun ha => sp_0a ?_)
    · simp only [rc_i1, rc_b10, rc_b48, h2, nI_1]
      rw [by_g_in hL (by omega) (by omega)]
      refine ih (p + 1) _ (by omega) hl hL rfl h4 (by omega) (by omega) (fun e he => ?_)
      have K := K e (he.trans (lx_end_y hlt ha).symm)
      have hle := lx_le (P := lx_D) (f := cf_f s 4) (n := n) (p := p + 1)
      have he' : e = lx_end lx_D (cf_f s 4) n (p + 1) := he
      rw [← he'] at hle
      rw [show e - p = (e - (p + 1)) + 1 by omega, lx_num, Int32.mul_comm 10 (s.1 23 5)] at K
      have e5 : (cf_si (cf_si s 23 5 (s.1 23 5 * 10 + cf_f s 4 p - 48)) 23 2 (nI (p + 1))).1 23 5 = s.1 23 5 * 10 + cf_f s 4 p - 48 := rfl
      rw [e5]
      have e6 : ∀ a b c : Int32, cf_si (cf_si (cf_si (cf_si s 23 5 a) 23 2 b) 23 5 c) 23 2 (nI e) = cf_si (cf_si s 23 5 c) 23 2 (nI e) := by
        intro a b c
        rw [cf_si_cm (o := 23) (b := 2) (o' := 23) (b' := 5) (by decide), cf_si_si, cf_si_si]
      rw [e6]
      exact K
    · have K := K p (lx_end_n (by rw [ha]; simp)).symm
      rw [Nat.sub_self, lx_num, cf_si_id rfl, cf_si_id h2] at K
      exact fin p s h2 h4 hq hp K
theorem c_isSign {d : Nat} {c : Int32} {s : cf_S} {Q : Int32 → cf_S → Prop} (h1 : lx_is c → Q 1 s) (h0 : ¬ lx_is c → Q 0 s) : cf_I d 250 [(0, .int c)] s Q := by
  refine wc_Reader_isSign_ok ?_
  unfold wc_Reader_isSign
  simp only [rc_i0, rc_i1]
  have KS : ∀ v : Int32, c = v → lx_is v → Q 1 s := by
    intro v hv hi
    exact h1 (by rw [hv]; exact hi)
  refine ⟨fun z => KS _ z (by unfold lx_is; simp), fun z1 => ⟨fun z => KS _ z (by unfold lx_is; simp), fun z2 => ⟨fun z => KS _ z (by unfold lx_is; simp), fun z3 => ⟨fun z => KS _ z (by unfold lx_is; simp), fun z4 => ⟨fun z => KS _ z (by unfold lx_is; simp), fun z5 => ⟨fun z => KS _ z (by unfold lx_is; simp), fun z6 => ⟨fun z => KS _ z (by unfold lx_is; simp), fun z7 => ⟨fun z => KS _ z (by unfold lx_is; simp), fun z8 => ⟨fun z => KS _ z (by unfold lx_is; simp), fun z9 => ⟨fun z => KS _ z (by unfold lx_is; simp), fun z10 => ⟨fun z => KS _ z (by unfold lx_is; simp), fun z11 => ⟨fun z => KS _ z (by unfold lx_is; simp), fun z12 => ⟨fun z => KS _ z (by unfold lx_is; simp), fun z13 => h0 ?_⟩⟩⟩⟩⟩⟩⟩⟩⟩⟩⟩⟩⟩
  rintro (y | y | y | y | y | y | y | y | y | y | y | y | y)
  · exact z1 y
  · exact z2 y
  · exact z3 y
  · exact z4 y
  · exact z5 y
  · exact z6 y
  · exact z7 y
  · exact z8 y
  · exact z9 y
  · exact z10 y
  · exact z11 y
  · exact z12 y
  · exact z13 y
/-- readSign -/
theorem c_readSign {d n p : Nat} {s : cf_S} {Q : cf_S → Prop} (hn : n ≤ 2000) (hl : s.1 3 1 = nI n) (hL : s.1 4 1 = nI (n + 24)) (h2 : s.1 23 2 = nI p) (hp : p < n)
    (K2 : lx_two (cf_f s 4 p) (lx_nx (cf_f s 4) n p) → ∀ k, ((cf_f s 4 p = 45 ∧ k = 9) ∨ (cf_f s 4 p = 61 ∧ k = 10)) → Q (cf_si (cf_si s 23 2 (nI (p + 2))) 23 3 k))
    (K1 : ¬ lx_two (cf_f s 4 p) (lx_nx (cf_f s 4) n p) → ∀ k, ((lx_is (cf_f s 4 p) ∧ k = cf_f s 4 p) ∨ (¬ lx_is (cf_f s 4 p) ∧ k = 1)) → Q (cf_si (cf_si s 23 2 (nI (p + 1))) 23 3 k)) : cf_V (d + 10) 249 [(0, .ref 23), (1, .int (cf_f s 4 p))] s Q := by
  refine wc_Reader_readSign_ok ?_
  unfold wc_Reader_readSign
  simp only [hl, h2, rc_i1, nI_1, rc_im1]
  have K102 : ¬ lx_two (cf_f s 4 p) (lx_nx (cf_f s 4) n p) → wc_Reader_readSign_102 d (cf_f s 4 p) (cf_si s 23 2 (nI (p + 1))) Q := by
    intro ht
    unfold wc_Reader_readSign_102
    simp only [rc_i1]
    refine c_isSign (fun hi => sp_1a ?_) (fun hi => sp_0a ?_)
    · exact K1 ht _ (Or.inl ⟨hi, rfl⟩)
    · exact K1 ht _ (Or.inr ⟨hi, rfl⟩)
  have K39 : ∀ y : Int32, (y = 62 ↔ lx_nx (cf_f s 4) n p = 62) → (y = 61 ↔ lx_nx (cf_f s 4) n p = 61) → wc_Reader_readSign_39 d (cf_f s 4 p) y (cf_si s 23 2 (nI (p + 1))) Q := by
    intro y e62 e61
    unfold wc_Reader_readSign_39 wc_Reader_readSign_71
    simp only [rc_b45, rc_b62, rc_b61, rc_b9, rc_b10, rc_i1]
    have e2 : (cf_si s 23 2 (nI (p + 1))).1 23 2 + 1 = nI (p + 2) := by
      show nI (p + 1) + 1 = nI (p + 2)
      rw [nI_1]
    rw [e2, cf_si_si]
    have K71 : ¬ (cf_f s 4 p = 45 ∧ lx_nx (cf_f s 4) n p = 62) → ((¬ cf_f s 4 p = 61 → wc_Reader_readSign_102 d (cf_f s 4 p) (cf_si s 23 2 (nI (p + 1))) Q) ∧ (cf_f s 4 p = 61 → ((¬ y = 61 → wc_Reader_readSign_102 d (cf_f s 4 p) (cf_si s 23 2 (nI (p + 1))) Q) ∧ (y = 61 → Q (cf_si (cf_si s 23 2 (nI (p + 2))) 23 3 10))))) := by
      intro h45
      refine ⟨fun z => K102 ?_, fun z => ⟨fun z2 => K102 ?_, fun z2 => K2 (Or.inr ⟨z, e61.mp z2⟩) _ (Or.inr ⟨z, rfl⟩)⟩⟩
      · rintro (w | w)
        · exact h45 w
        · exact z w.1
      · rintro (w | w)
        · exact h45 w
        · exact z2 (e61.mpr w.2)
    exact ⟨fun z => K71 (fun w => z w.1), fun z => ⟨fun z2 => K71 (fun w => z2 (e62.mpr w.2)), fun z2 => K2 (Or.inl ⟨z, e62.mp z2⟩) _ (Or.inl ⟨z, rfl⟩)⟩⟩
  refine ⟨fun z => K39 _ ?_ ?_, fun z => ?_⟩
  · have : n ≤ p + 1 := (nI_leI (by omega) (by omega)).mp z
    unfold lx_nx
    rw [if_neg (by omega)]
    decide
  · have : n ≤ p + 1 := (nI_leI (by omega) (by omega)).mp z
    unfold lx_nx
    rw [if_neg (by omega)]
    decide
  · have hlt : p + 1 < n := Nat.lt_of_not_le (fun y => z (nI_le y (by omega)))
    have eg : by_g (cf_si s 23 2 (nI (p + 1))) 4 (nI (p + 1)) = cf_f s 4 (p + 1) := by_g_in (s := cf_si s 23 2 (nI (p + 1))) (m := n + 24) hL (by omega) (by omega)
    rw [eg]
    refine K39 _ ?_ ?_
    · unfold lx_nx; rw [if_pos hlt]
    · unfold lx_nx; rw [if_pos hlt]
