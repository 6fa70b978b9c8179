/-! PART 67: the reference's reader: signOf, next -/
theorem k_signOf {d p n : Nat} {s : rf_S} {Q : Int32 → rf_S → Prop} (h3 : s.1 3 = nI n) (h6 : s.1 6 = nI p) (hp : p < n) (hn : n ≤ 2000)
    (K9 : lx_two (s.2.2.1 2 p) (lx_nx (s.2.2.1 2) n p) → s.2.2.1 2 p = 45 → Q 9 (rf_si (rf_si s 7 2) 8 62))
    (K10 : lx_two (s.2.2.1 2 p) (lx_nx (s.2.2.1 2) n p) → s.2.2.1 2 p = 61 → Q 11 (rf_si (rf_si s 7 2) 8 69))
    (K61 : ¬ lx_two (s.2.2.1 2 p) (lx_nx (s.2.2.1 2) n p) → s.2.2.1 2 p = 61 → Q 10 (rf_si (rf_si s 8 61) 7 1))
    (Ks : ¬ lx_two (s.2.2.1 2 p) (lx_nx (s.2.2.1 2) n p) → lx_is (s.2.2.1 2 p) → ¬ s.2.2.1 2 p = 61 → Q 11 (rf_si (rf_si s 8 (s.2.2.1 2 p)) 7 1))
    (Kb : ¬ lx_two (s.2.2.1 2 p) (lx_nx (s.2.2.1 2) n p) → ¬ lx_is (s.2.2.1 2 p) → Q 1 (rf_si (rf_si s 8 (s.2.2.1 2 p)) 7 1)) : rf_I (d + 1) 8 [(0, .ref rf_o)] s Q := by
  refine wr_signOf_ok ?_
  unfold wr_signOf
  simp only [rc_i1, h6]
  refine ⟨nI_in (by omega) (by omega), ?_⟩
  rw [show (1 : Int32) = nI 1 from rfl, nI_add]
  refine k_byteAt h3 hn (by omega) ?_
  rw [nI_clamp (by omega)]
  have hs8 : ∀ x : Int32, rf_si (rf_si (rf_si s 8 (s.2.2.1 2 p)) 7 2) 8 x = rf_si (rf_si s 7 2) 8 x := by
    intro x
    unfold rf_si
    congr 1
    funext c
    by_cases h8 : c = 8
    · simp [upd, h8]
    · by_cases h7 : c = 7 <;> simp [upd, h8, h7]
  have K50 : lx_two (s.2.2.1 2 p) (lx_nx (s.2.2.1 2) n p) → wr_signOf_50 d (s.2.2.1 2 p) (rf_si s 8 (s.2.2.1 2 p)) Q := by
    intro ht
    unfold wr_signOf_50 wr_signOf_69
    simp only [rc_b61, rc_b62, rc_b69, rc_b9, rc_b11, rc_i2, hs8]
    rcases ht with ⟨z, z2⟩ | ⟨z, z2⟩
    · exact ⟨fun _ => ⟨fun _ => K9 (Or.inl ⟨z, z2⟩) z, fun y => by rw [z] at y; exact absurd y (by decide)⟩, fun y => by rw [z] at y; exact absurd y (by decide)⟩
    · exact ⟨fun y => absurd z y, fun _ => ⟨fun y => absurd z y, fun _ => K10 (Or.inr ⟨z, z2⟩) z⟩⟩
  have K86 : ¬ lx_two (s.2.2.1 2 p) (lx_nx (s.2.2.1 2) n p) → wr_signOf_86 d (s.2.2.1 2 p) (rf_si s 8 (s.2.2.1 2 p)) Q := by
    intro ht
    unfold wr_signOf_86
    simp only [rc_b11, rc_b10, rc_i1]
    have KS : ∀ v : Int32, s.2.2.1 2 p = v → lx_is v → ¬ v = 61 → Q 11 (rf_si (rf_si s 8 (s.2.2.1 2 p)) 7 1) := by
      intro v hv h1 h2
      exact Ks ht (by rw [hv]; exact h1) (by rw [hv]; exact h2)
    refine ⟨fun z => KS _ z (by unfold lx_is; simp) (by decide), fun z1 => ⟨fun z => KS _ z (by unfold lx_is; simp) (by decide), fun z2 => ⟨fun z => KS _ z (by unfold lx_is; simp) (by decide), fun z3 => ⟨fun z => KS _ z (by unfold lx_is; simp) (by decide), fun z4 => ⟨fun z => KS _ z (by unfold lx_is; simp) (by decide), fun z5 => ⟨fun z => KS _ z (by unfold lx_is; simp) (by decide), fun z6 => ⟨fun z => KS _ z (by unfold lx_is; simp) (by decide), fun z7 => ⟨fun z => KS _ z (by unfold lx_is; simp) (by decide), fun z8 => ⟨fun z => KS _ z (by unfold lx_is; simp) (by decide), fun z9 => ⟨fun z => ?_, fun z10 => ⟨fun z => KS _ z (by unfold lx_is; simp) (by decide), fun z11 => ⟨fun z => KS _ z (by unfold lx_is; simp) (by decide), fun z12 => ⟨fun z => KS _ z (by unfold lx_is; simp) (by decide), fun z13 => Kb ht ?_⟩⟩⟩⟩⟩⟩⟩⟩⟩⟩⟩⟩⟩
    · have := K61 ht z
      rw [z]
      exact this
    · rintro (y | y | y | y | y | y | y | y | y | y | y | y | y)
      · exact z1 y
      · exact z2 y
      · exact z3 y
      · exact z4 y
      · exact z5 y
      · exact z6 y
      · exact z7 y
      · exact z8 y
      · exact z9 y
      · exact z10 y
      · exact z11 y
      · exact z12 y
      · exact z13 y
  have K38 : ¬ (s.2.2.1 2 p = 45 ∧ (if p + 1 < n then s.2.2.1 2 (p + 1) else 0) = 62) → wr_signOf_38 d (s.2.2.1 2 p) (if p + 1 < n then s.2.2.1 2 (p + 1) else 0) (rf_si s 8 (s.2.2.1 2 p)) Q := by
    intro h45
    unfold wr_signOf_38
    simp only [rc_b61]
    refine ⟨fun z => K86 ?_, fun z => ⟨fun z2 => K86 ?_, fun z2 => K50 (Or.inr ⟨z, z2⟩)⟩⟩
    · rintro (y | y)
      · exact h45 y
      · exact z y.1
    · rintro (y | y)
      · exact h45 y
      · exact z2 y.2
  simp only [rc_b45, rc_b62]
  exact ⟨fun z => K38 (fun y => z y.1), fun z => ⟨fun z2 => K50 (Or.inl ⟨z, z2⟩), fun z2 => K38 (fun y => z2 y.2)⟩⟩
/-- the loop over letters and digits -/
theorem k_next_104 {d n p : Nat} {x1 : Int32} {Q : rf_S → Prop} (hn : n ≤ 2000) : ∀ (j m : Nat) (s : rf_S), n - (p + m) = j → s.1 3 = nI n → s.1 6 = nI p → s.1 7 = nI m → p + m ≤ n →
    wr_next_173 (d + 1) x1 (rf_si s 7 (nI (lx_end lx_A (s.2.2.1 2) n (p + m) - p))) Q → rf_R (d + 1 + 1) 9 (104, [(0, .ref rf_o), (1, .int x1)], [], s) (rf_qV Q) := by
  intro j
  induction j with
  | zero =>
    intro m s hj h3 h6 h7 hm K
    refine wr_next_104_ok ?_
    unfold wr_next_104
    simp only [h3, h6, h7, nI_add]
    refine ⟨fun _ => ?_, fun z => absurd (nI_le (by omega) (by omega)) z⟩
    rw [lx_end_n (by omega), show p + m - p = m by omega, rf_si_id h7] at K
    exact K
  | succ j ih =>
    intro m s hj h3 h6 h7 hm K
    have hlt : p + m < n := by omega
    refine wr_next_104_ok ?_
    unfold wr_next_104
    simp only [h3, h6, h7, nI_add]
    refine ⟨fun z => absurd z (nI_ge hlt (by omega)), fun _ => ⟨nI_in (by omega) (by omega), ?_⟩⟩
    rw [nI_clamp (by omega)]
    have go : lx_A (s.2.2.1 2 (p + m)) = true → wr_next_160 (d + 1) x1 s Q := by
      intro ha
      unfold wr_next_160
      simp only [rc_i1, h7, nI_1]
      refine ih (m + 1) _ (by omega) h3 h6 rfl (by omega) ?_
      rw [rf_si_si]
      rw [lx_end_y hlt ha] at K
      exact K
    have stop : lx_A (s.2.2.1 2 (p + m)) = false → wr_next_173 (d + 1) x1 s Q := by
      intro ha
      rw [lx_end_n (by rw [ha]; simp), show p + m - p = m by omega, rf_si_id h7] at K
      exact K
    refine k_isLetter (fun hl => ?_) (fun hl => ?_)
    · exact sp_1b (go (by unfold lx_A; rw [hl]; rfl))
    · refine sp_0b ?_
      simp only [h6, h7, nI_add]
      refine ⟨nI_in (by omega) (by omega), ?_⟩
      rw [nI_clamp (by omega)]
      refine k_isDigit (fun hd => ?_) (fun hd => ?_)
      · exact sp_1a (go (by unfold lx_A; rw [hl, hd]; rfl))
      · exact sp_0a (stop (by unfold lx_A; rw [hl, hd]; rfl))
/-- let, in, case, of -/
theorem k_next_173 {d n p e : Nat} {s : rf_S} {Q : rf_S → Prop} (hn : n ≤ 2000) (h6 : s.1 6 = nI p) (h7 : s.1 7 = nI (e - p)) (hpe : p ≤ e) (he : e ≤ n) (hL : lx_L (s.2.2.1 2 p) = true)
    (K3 : lx_C (s.2.2.1 2 p) = true → Q (rf_si (rf_si s 5 3) 4 (nI e))) (K2 : lx_S (s.2.2.1 2 p) = true → Q (rf_si (rf_si s 5 (lx_kw (s.2.2.1 2) p e)) 4 (nI e))) : wr_next_173 d (s.2.2.1 2 p) s Q := by
  have fin : ∀ y : Int32, Q (rf_si (rf_si s 5 y) 4 (nI e)) → wr_next_259 d y s Q := by
    intro y hq
    unfold wr_next_259 wr_next_383
    have e1 : (rf_si s 5 y).1 6 + (rf_si s 5 y).1 7 = nI e := by
      show s.1 6 + s.1 7 = nI e
      rw [h6, h7, nI_add]
      congr 1
      omega
    rw [e1]
    exact hq
  unfold wr_next_173
  simp only [rc_b97, rc_b108, rc_b101, rc_b116, rc_b105, rc_b110, rc_b99, rc_b115, rc_b111, rc_b102, rc_i0, rc_i2, rc_i3, rc_i5, rc_b6, rc_b7, rc_b8]
  refine ⟨fun z => ?_, fun z => ?_⟩
  · have hS : lx_S (s.2.2.1 2 p) = true := by
      unfold lx_L at hL
      cases hS : lx_S (s.2.2.1 2 p) with
      | true => rfl
      | false =>
        rw [hS, Bool.false_or] at hL
        unfold lx_C at hL
        simp only [Bool.and_eq_true, decide_eq_true_eq] at hL
        exact absurd (Int32.le_trans z hL.2) (by decide)
    have K := K2 hS
    unfold lx_kw at K
    refine k_isText3 (by decide) h6 h7 hpe he hn (fun y => ?_) (fun y => ?_)
    · rw [if_pos y] at K; exact sp_1a (fin _ K)
    · rw [if_neg y] at K
      refine sp_0a ?_
      refine k_isText2 h6 h7 hpe he hn (fun y => ?_) (fun y => ?_)
      · rw [if_pos y] at K; exact sp_1a (fin _ K)
      · rw [if_neg y] at K
        refine sp_0a ?_
        refine k_isText4 (by decide) (by decide) h6 h7 hpe he hn (fun y => ?_) (fun y => ?_)
        · rw [if_pos y] at K; exact sp_1a (fin _ K)
        · rw [if_neg y] at K
          refine sp_0a ?_
          refine k_isText2 h6 h7 hpe he hn (fun y => ?_) (fun y => ?_)
          · rw [if_pos y] at K; exact sp_1a (fin _ K)
          · rw [if_neg y] at K; exact sp_0a (fin _ K)
  · refine fin _ (K3 ?_)
    unfold lx_L at hL
    cases hS : lx_S (s.2.2.1 2 p) with
    | true =>
      unfold lx_S at hS
      simp only [Bool.and_eq_true, decide_eq_true_eq] at hS
      exact absurd hS.1 z
    | false => rw [hS, Bool.false_or] at hL; exact hL
/-- the loop over digits -/
theorem k_next_272 {d n p : Nat} {Q : rf_S → Prop} (hn : n ≤ 2000) : ∀ (j m : Nat) (s : rf_S), n - (p + m) = j → s.1 3 = nI n → s.1 6 = nI p → s.1 7 = nI m → p + m ≤ n →
    (∀ e, e = lx_end lx_D (s.2.2.1 2) n (p + m) → (p + 9 < e → wr_next_319 (d + 1) 1 (rf_si s 7 (nI (e - p))) Q) ∧ (¬ p + 9 < e → wr_next_319 (d + 1) 4 (rf_si s 7 (nI (e - p))) Q)) → rf_R (d + 1 + 1) 9 (272, [(0, .ref rf_o)], [], s) (rf_qV Q) := by
  intro j
  induction j with
  | zero =>
    intro m s hj h3 h6 h7 hm K
    refine wr_next_272_ok ?_
    unfold wr_next_272
    simp only [h6, h7, nI_add]
    refine k_byteAt h3 hn (by omega) ?_
    rw [if_neg (by omega)]
    refine k_isDigit (fun hd => absurd hd (by decide)) (fun _ => sp_0a ?_)
    simp only [h7, rc_b9, rc_i4, rc_i1]
    have K := K (p + m) (lx_end_n (by omega)).symm
    rw [show p + m - p = m by omega, rf_si_id h7] at K
    rw [show (9 : Int32) = nI 9 from rfl, nI_leI (by omega) (by omega)]
    exact ⟨fun z => K.2 (by omega), fun z => K.1 (by omega)⟩
  | succ j ih =>
    intro m s hj h3 h6 h7 hm K
    have hlt : p + m < n := by omega
    refine wr_next_272_ok ?_
    unfold wr_next_272
    simp only [h6, h7, nI_add]
    refine k_byteAt h3 hn (by omega) ?_
    rw [if_pos hlt]
    refine k_isDigit (fun hd => sp_1a ?_) (fun hd => sp_0a ?_)
    · simp only [rc_i1, h7, nI_1]
      refine ih (m + 1) _ (by omega) h3 h6 rfl (by omega) (fun e he => ?_)
      rw [rf_si_si]
      exact K e (he.trans (lx_end_y hlt hd).symm)
    · simp only [h7, rc_b9, rc_i4, rc_i1]
      have K := K (p + m) (lx_end_n (by rw [hd]; simp)).symm
      rw [show p + m - p = m by omega, rf_si_id h7] at K
      rw [show (9 : Int32) = nI 9 from rfl, nI_leI (by omega) (by omega)]
      exact ⟨fun z => K.2 (by omega), fun z => K.1 (by omega)⟩
/-- the loop that reckons a number -/
theorem k_next_324 {d n p e : Nat} {Q : rf_S → Prop} (hn : n ≤ 2000) (he : e ≤ n) : ∀ (j m : Nat) (s : rf_S), p + m + j = e → s.1 5 = 4 → s.1 6 = nI p → s.1 7 = nI (e - p) →
    Q (rf_si (rf_si s 8 (lx_num (s.2.2.1 2) j (p + m) (s.1 8))) 4 (nI e)) → rf_R (d + 1) 9 (324, [(0, .ref rf_o), (2, .int (nI m))], [], s) (rf_qV Q) := by
  intro j
  induction j with
  | zero =>
    intro m s hj h5 h6 h7 K
    refine wr_next_324_ok ?_
    unfold wr_next_324 wr_next_372 wr_next_383
    simp only [h6, h7, nI_add]
    refine ⟨fun _ => ?_, fun z => absurd (nI_le (by omega) (by omega)) z⟩
    rw [show p + (e - p) = e by omega]
    rw [lx_num, rf_si_id rfl] at K
    exact K
  | succ j ih =>
    intro m s hj h5 h6 h7 K
    refine wr_next_324_ok ?_
    unfold wr_next_324
    simp only [h5, h6, h7, nI_add, rc_i4, rc_i1, nI_1, rc_b10, rc_b48]
    refine ⟨fun z => absurd z (nI_ge (by omega) (by omega)), fun _ => ⟨fun z => absurd trivial z, fun _ => ⟨nI_in (by omega) (by omega), ?_⟩⟩⟩
    rw [nI_clamp (by omega)]
    refine ih (m + 1) _ (by omega) h5 h6 h7 ?_
    rw [rf_si_si]
    rw [lx_num] at K
    exact K
/-- next() -/
theorem k_next_52 {d n p : Nat} {s : rf_S} {Q : rf_S → Prop} (h3 : s.1 3 = nI n) (h4 : s.1 4 = nI p) (hn : n ≤ 2000) (hp : p ≤ n)
    (K : ∀ (s' : rf_S) (e : Nat) (k : Int32), (∀ b, b < 4 ∨ 8 < b → s'.1 b = s.1 b) → s'.2 = s.2 → lx_tk (s.2.2.1 2) n p e k → s'.1 6 = nI p → s'.1 4 = nI e → s'.1 7 = nI (e - p) → s'.1 5 = lx_rw k → (k = 4 → s'.1 8 = lx_num (s.2.2.1 2) (e - p) p 0) → (11 ≤ k → s'.1 8 = k) → (k = 10 → s'.1 8 = 69) → Q s') : wr_next_52 (d + 1) s Q := by
  have nk : ∀ x y z : Int32, ∀ b, b < 4 ∨ 8 < b → True := fun _ _ _ _ _ => trivial
  clear nk
  unfold wr_next_52
  simp only [h3, h4, rc_i0]
  refine ⟨fun hne => ⟨nI_in (by have : p ≠ n := (fun z => hne (by rw [z])); omega) (by omega), ?_⟩, fun he => ?_⟩
  · have hpn : p < n := by have : p ≠ n := (fun z => hne (by rw [z])); omega
    rw [nI_clamp (by omega)]
    generalize hs1 : rf_si (rf_si (rf_si s 6 (nI p)) 7 0) 8 0 = s1
    have i1 : ∀ b, b < 4 ∨ 8 < b → s1.1 b = s.1 b := by
      intro b hb
      rw [← hs1]
      simp only [rf_si_i]
      rw [if_neg (by omega), if_neg (by omega), if_neg (by omega)]
    have i2 : s1.2 = s.2 := by rw [← hs1]; rfl
    have i6 : s1.1 6 = nI p := by rw [← hs1]; rfl
    have i7 : s1.1 7 = nI 0 := by rw [← hs1]; rfl
    have i8 : s1.1 8 = 0 := by rw [← hs1]; rfl
    have i3 : s1.1 3 = nI n := by rw [i1 3 (by omega)]; exact h3
    have iF : s1.2.2.1 2 = s.2.2.1 2 := by rw [i2]
    refine k_isLetter (fun hL => sp_1a ?_) (fun hL => sp_0a ?_)
    · refine k_next_104 hn (n - (p + 0)) 0 s1 rfl i3 i6 i7 (by omega) ?_
      rw [Nat.add_zero, iF]
      have hle := lx_le (P := lx_A) (f := s.2.2.1 2) (n := n) (p := p)
      have hlen := lx_len (P := lx_A) (f := s.2.2.1 2) (n := n) (p := p) (by omega)
      generalize he : lx_end lx_A (s.2.2.1 2) n p = e at *
      have fin : ∀ k w : Int32, w = lx_rw k → ¬ k = 4 → ¬ 11 ≤ k → ¬ k = 10 → lx_tk (s.2.2.1 2) n p e k → Q (rf_si (rf_si (rf_si s1 7 (nI (e - p))) 5 w) 4 (nI e)) := by
        intro k w hw k4 k11 k10 ht
        refine K _ e k (fun b hb => ?_) i2 ht ?_ rfl rfl hw (fun z => absurd z k4) (fun z => absurd z k11) (fun z => absurd z k10)
        · simp only [rf_si_i]
          rw [if_neg (by omega), if_neg (by omega), if_neg (by omega)]
          exact i1 b hb
        · exact i6
      have hFe : (rf_si s1 7 (nI (e - p))).2.2.1 2 = s.2.2.1 2 := iF
      have := k_next_173 (d := d + 1) (n := n) (p := p) (e := e) (s := rf_si s1 7 (nI (e - p))) (Q := Q) hn i6 rfl hle hlen (by rw [hFe]; exact hL)
      rw [hFe] at this
      refine this (fun hC => ?_) (fun hS => ?_)
      · exact fin 3 3 rfl (by decide) (by decide) (by decide) (Or.inr (Or.inl ⟨hpn, hL, he.symm, Or.inl ⟨hC, rfl⟩⟩))
      · have hkw : ∀ x, x = lx_kw (s.2.2.1 2) p e → (x = lx_rw x ∧ ¬ x = 4 ∧ ¬ 11 ≤ x ∧ ¬ x = 10) := by
          intro x hx
          unfold lx_kw at hx
          split at hx
          · subst hx; decide
          split at hx
          · subst hx; decide
          split at hx
          · subst hx; decide
          split at hx
          · subst hx; decide
          · subst hx; decide
        obtain ⟨q1, q2, q3, q4⟩ := hkw _ rfl
        exact fin _ _ q1 q2 q3 q4 (Or.inr (Or.inl ⟨hpn, hL, he.symm, Or.inr ⟨hS, rfl⟩⟩))
    · refine k_isDigit (fun hD => sp_1a ?_) (fun hD => sp_0a ?_)
      · refine k_next_272 hn (n - (p + 0)) 0 s1 rfl i3 i6 i7 (by omega) (fun e he => ?_)
        rw [Nat.add_zero, iF] at he
        have hle := lx_le (P := lx_D) (f := s.2.2.1 2) (n := n) (p := p)
        have hlen := lx_len (P := lx_D) (f := s.2.2.1 2) (n := n) (p := p) (by omega)
        rw [← he] at hle hlen
        constructor
        · intro h9
          unfold wr_next_319
          simp only [rc_i0]
          refine wr_next_324_ok ?_
          unfold wr_next_324 wr_next_372 wr_next_383
          simp only [rc_i4]
          refine ⟨fun z => absurd (show nI (e - p) ≤ nI 0 from z) (nI_ge (by omega) (by omega)), fun _ => ⟨fun _ => ?_, fun z => absurd (show (1 : Int32) = 4 from z) (by decide)⟩⟩
          have e1 : (rf_si (rf_si s1 7 (nI (e - p))) 5 1).1 6 + (rf_si (rf_si s1 7 (nI (e - p))) 5 1).1 7 = nI e := by
            show s1.1 6 + nI (e - p) = nI e
            rw [i6, nI_add]
            congr 1
            omega
          rw [e1]
          refine K _ e 1 (fun b hb => ?_) i2 (Or.inr (Or.inr (Or.inl ⟨hpn, hL, hD, he, Or.inl ⟨h9, rfl⟩⟩))) i6 rfl rfl rfl (fun z => absurd z (by decide)) (fun z => absurd z (by decide)) (fun z => absurd z (by decide))
          simp only [rf_si_i]
          rw [if_neg (by omega), if_neg (by omega), if_neg (by omega)]
          exact i1 b hb
        · intro h9
          unfold wr_next_319
          simp only [rc_i0]
          refine k_next_324 (n := n) (p := p) (e := e) hn hlen (e - p) 0 _ (by omega) rfl i6 rfl ?_
          have e8 : (rf_si (rf_si s1 7 (nI (e - p))) 5 4).1 8 = 0 := i8
          have eF : (rf_si (rf_si s1 7 (nI (e - p))) 5 4).2.2.1 2 = s.2.2.1 2 := iF
          rw [e8, eF, Nat.add_zero]
          refine K _ e 4 (fun b hb => ?_) i2 (Or.inr (Or.inr (Or.inl ⟨hpn, hL, hD, he, Or.inr ⟨h9, rfl⟩⟩))) i6 rfl rfl rfl (fun _ => rfl) (fun z => absurd z (by decide)) (fun z => absurd z (by decide))
          simp only [rf_si_i]
          rw [if_neg (by omega), if_neg (by omega), if_neg (by omega), if_neg (by omega)]
          exact i1 b hb
      · have hs1F : s1.2.2.1 2 p = s.2.2.1 2 p := by rw [iF]
        have fin : ∀ (t : rf_S) (w k : Int32) (e : Nat), (∀ b, b < 4 ∨ 8 < b → t.1 b = s1.1 b) → t.2 = s1.2 → t.1 6 = nI p → t.1 7 = nI (e - p) → p ≤ e → w = lx_rw k → ¬ k = 4 → (11 ≤ k → t.1 8 = k) → (k = 10 → t.1 8 = 69) → lx_tk (s.2.2.1 2) n p e k → wr_next_383 (d + 1) (rf_si t 5 w) Q := by
          intro t w k e t1 t2 t6 t7 hpe hw k4 k11 k10 ht
          unfold wr_next_383
          have e1 : (rf_si t 5 w).1 6 + (rf_si t 5 w).1 7 = nI e := by
            show t.1 6 + t.1 7 = nI e
            rw [t6, t7, nI_add]
            congr 1
            omega
          rw [e1]
          refine K _ e k (fun b hb => ?_) (t2.trans i2) ht t6 rfl t7 hw (fun z => absurd z k4) k11 k10
          simp only [rf_si_i]
          rw [if_neg (by omega), if_neg (by omega), t1 b hb]
          exact i1 b hb
        have tk : ∀ (e : Nat) (k : Int32), ((lx_two (s.2.2.1 2 p) (lx_nx (s.2.2.1 2) n p) ∧ e = p + 2 ∧ ((s.2.2.1 2 p = 45 ∧ k = 9) ∨ (s.2.2.1 2 p = 61 ∧ k = 10))) ∨ (¬ lx_two (s.2.2.1 2 p) (lx_nx (s.2.2.1 2) n p) ∧ e = p + 1 ∧ ((lx_is (s.2.2.1 2 p) ∧ k = s.2.2.1 2 p) ∨ (¬ lx_is (s.2.2.1 2 p) ∧ k = 1)))) → lx_tk (s.2.2.1 2) n p e k := fun e k z => Or.inr (Or.inr (Or.inr ⟨hpn, hL, hD, z⟩))
        have t8 : ∀ x y : Int32, ∀ b, b < 4 ∨ 8 < b → (rf_si (rf_si s1 7 x) 8 y).1 b = s1.1 b := by
          intro x y b hb
          simp only [rf_si_i]
          rw [if_neg (by omega), if_neg (by omega)]
        have t7 : ∀ x y : Int32, ∀ b, b < 4 ∨ 8 < b → (rf_si (rf_si s1 8 x) 7 y).1 b = s1.1 b := by
          intro x y b hb
          simp only [rf_si_i]
          rw [if_neg (by omega), if_neg (by omega)]
        have sg := k_signOf (d := d) (p := p) (n := n) (s := s1) (Q := fun r3 s3 => wr_next_383 (d + 1) (rf_si s3 5 r3) Q) i3 i6 hpn hn
        rw [iF] at sg
        have p2 : (2 : Int32) = nI (p + 2 - p) := by rw [show p + 2 - p = 2 by omega]; rfl
        have p1 : (1 : Int32) = nI (p + 1 - p) := by rw [show p + 1 - p = 1 by omega]; rfl
        refine sg (fun h2 hc => ?_) (fun h2 hc => ?_) (fun h2 hc => ?_) (fun h2 hi hc => ?_) (fun h2 hi => ?_)
        · exact fin _ 9 9 (p + 2) (t8 _ _) rfl i6 p2 (by omega) rfl (by decide) (fun z => absurd z (by decide)) (fun z => absurd z (by decide)) (tk _ _ (Or.inl ⟨h2, rfl, Or.inl ⟨hc, rfl⟩⟩))
        · exact fin _ 11 10 (p + 2) (t8 _ _) rfl i6 p2 (by omega) rfl (by decide) (fun z => absurd z (by decide)) (fun _ => rfl) (tk _ _ (Or.inl ⟨h2, rfl, Or.inr ⟨hc, rfl⟩⟩))
        · exact fin _ 10 61 (p + 1) (t7 _ _) rfl i6 p1 (by omega) rfl (by decide) (fun _ => rfl) (fun z => absurd z (by decide)) (tk _ _ (Or.inr ⟨h2, rfl, Or.inl ⟨by rw [hc]; unfold lx_is; simp, hc.symm⟩⟩))
        · have hk : ∀ c : Int32, lx_is c → ¬ c = 61 → 11 = lx_rw c ∧ ¬ c = 4 ∧ ¬ c = 10 := by
            intro c hi hc
            rcases hi with z | z | z | z | z | z | z | z | z | z | z | z | z
            all_goals first | (exact absurd z hc) | (subst z; decide)
          obtain ⟨q1, q2, q3⟩ := hk _ hi hc
          exact fin _ 11 (s.2.2.1 2 p) (p + 1) (t7 _ _) rfl i6 p1 (by omega) q1 q2 (fun _ => rfl) (fun z => absurd z q3) (tk _ _ (Or.inr ⟨h2, rfl, Or.inl ⟨hi, rfl⟩⟩))
        · exact fin _ 1 1 (p + 1) (t7 _ _) rfl i6 p1 (by omega) rfl (by decide) (fun z => absurd z (by decide)) (fun z => absurd z (by decide)) (tk _ _ (Or.inr ⟨h2, rfl, Or.inr ⟨hi, rfl⟩⟩))
  · have hpn : p = n := (nI_eq (by omega) (by omega)).mp he
    refine K _ p 0 (fun b hb => ?_) rfl (Or.inl ⟨hpn, rfl, rfl⟩) rfl ?_ ?_ rfl (fun z => absurd z (by decide)) (fun z => absurd z (by decide)) (fun z => absurd z (by decide))
    · simp only [rf_si_i]
      rw [if_neg (by omega), if_neg (by omega), if_neg (by omega), if_neg (by omega)]
    · exact h4
    · rw [Nat.sub_self]; rfl
theorem k_next {d n : Nat} {Q : rf_S → Prop} (hn : n ≤ 2000) : ∀ (j p : Nat) (s : rf_S), n - p = j → s.1 3 = nI n → s.1 4 = nI p → p ≤ n →
    (∀ (s' : rf_S) (e : Nat) (k : Int32), (∀ b, b < 4 ∨ 8 < b → s'.1 b = s.1 b) → s'.2 = s.2 → lx_tk (s.2.2.1 2) n (lx_end lx_B (s.2.2.1 2) n p) e k → s'.1 6 = nI (lx_end lx_B (s.2.2.1 2) n p) → s'.1 4 = nI e → s'.1 7 = nI (e - lx_end lx_B (s.2.2.1 2) n p) → s'.1 5 = lx_rw k → (k = 4 → s'.1 8 = lx_num (s.2.2.1 2) (e - lx_end lx_B (s.2.2.1 2) n p) (lx_end lx_B (s.2.2.1 2) n p) 0) → (11 ≤ k → s'.1 8 = k) → (k = 10 → s'.1 8 = 69) → Q s') → rf_V (d + 1 + 1) 9 [(0, .ref rf_o)] s Q := by
  intro j
  induction j with
  | zero =>
    intro p s hj h3 h4 hp K
    refine wr_next_0_ok ?_
    unfold wr_next_0
    simp only [h3, h4]
    refine ⟨fun _ => ?_, fun z => absurd (nI_le (by omega) (by omega)) z⟩
    rw [lx_end_n (by omega)] at K
    exact k_next_52 h3 h4 hn hp K
  | succ j ih =>
    intro p s hj h3 h4 hp K
    have hlt : p < n := by omega
    refine wr_next_0_ok ?_
    unfold wr_next_0
    simp only [h3, h4, rc_b32, rc_b10]
    rw [nI_clamp (by omega)]
    have go : lx_B (s.2.2.1 2 p) = true → wr_next_39 (d + 1) s Q := by
      intro hb
      unfold wr_next_39
      simp only [rc_i1, h4, nI_1]
      rw [lx_end_y hlt hb] at K
      refine ih (p + 1) (rf_si s 4 (nI (p + 1))) (by omega) h3 rfl (by omega) (fun s' e k g1 g2 => ?_)
      refine K s' e k (fun b hb' => ?_) g2
      rw [g1 b hb', rf_si_i, if_neg (by omega)]
    refine ⟨fun z => absurd z (nI_ge hlt (by omega)), fun _ => ⟨nI_in (by omega) (by omega), fun z => go (by unfold lx_B; simp [z]), fun z => ⟨nI_in (by omega) (by omega), fun z2 => ?_, fun z2 => go (by unfold lx_B; simp [z2])⟩⟩⟩
    rw [lx_end_n (by unfold lx_B; simp [z, z2])] at K
    exact k_next_52 h3 h4 hn hp K
