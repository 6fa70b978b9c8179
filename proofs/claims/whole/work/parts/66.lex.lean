/-! PART 66: words of a text (the common description), and the reference's reader -/
def lx_B (c : Int32) : Bool := decide (c = 32) || decide (c = 10)
def lx_D (c : Int32) : Bool := decide (48 ≤ c) && decide (c ≤ 57)
def lx_S (c : Int32) : Bool := decide (97 ≤ c) && decide (c ≤ 122)
def lx_C (c : Int32) : Bool := decide (65 ≤ c) && decide (c ≤ 90)
def lx_L (c : Int32) : Bool := lx_S c || lx_C c
def lx_A (c : Int32) : Bool := lx_L c || lx_D c
/-- where a run of such bytes ends -/
def lx_go (P : Int32 → Bool) (f : Nat → Int32) (n : Nat) : Nat → Nat → Nat
  | 0, p => p
  | k + 1, p => if p < n ∧ P (f p) = true then lx_go P f n k (p + 1) else p
def lx_end (P : Int32 → Bool) (f : Nat → Int32) (n p : Nat) : Nat := lx_go P f n (n - p) p
theorem lx_end_y {P : Int32 → Bool} {f : Nat → Int32} {n p : Nat} (h1 : p < n) (h2 : P (f p) = true) : lx_end P f n p = lx_end P f n (p + 1) := by
  unfold lx_end
  obtain ⟨k, hk⟩ : ∃ k, n - p = k + 1 := ⟨n - p - 1, by omega⟩
  rw [hk, show n - (p + 1) = k by omega, lx_go, if_pos ⟨h1, h2⟩]
theorem lx_end_n {P : Int32 → Bool} {f : Nat → Int32} {n p : Nat} (h : ¬ (p < n ∧ P (f p) = true)) : lx_end P f n p = p := by
  unfold lx_end
  cases hk : n - p with
  | zero => rw [lx_go]
  | succ k => rw [lx_go, if_neg h]
theorem lx_end_ge {P : Int32 → Bool} {f : Nat → Int32} {n : Nat} : ∀ (m p : Nat), n - p = m → p ≤ lx_end P f n p ∧ (p ≤ n → lx_end P f n p ≤ n) := by
  intro m
  induction m with
  | zero => intro p h; rw [lx_end_n (by omega)]; exact ⟨Nat.le_refl _, id⟩
  | succ m ih =>
    intro p h
    by_cases hc : p < n ∧ P (f p) = true
    · rw [lx_end_y hc.1 hc.2]
      have := ih (p + 1) (by omega)
      exact ⟨by omega, fun _ => this.2 (by omega)⟩
    · rw [lx_end_n hc]; exact ⟨Nat.le_refl _, id⟩
theorem lx_le {P : Int32 → Bool} {f : Nat → Int32} {n p : Nat} : p ≤ lx_end P f n p := (lx_end_ge _ p rfl).1
theorem lx_len {P : Int32 → Bool} {f : Nat → Int32} {n p : Nat} (h : p ≤ n) : lx_end P f n p ≤ n := (lx_end_ge _ p rfl).2 h
/-- let, in, case, of, or a name -/
def lx_kw (f : Nat → Int32) (p e : Nat) : Int32 :=
  if e = p + 3 ∧ f p = 108 ∧ f (p + 1) = 101 ∧ f (p + 2) = 116 then 5
  else if e = p + 2 ∧ f p = 105 ∧ f (p + 1) = 110 then 6
  else if e = p + 4 ∧ f p = 99 ∧ f (p + 1) = 97 ∧ f (p + 2) = 115 ∧ f (p + 3) = 101 then 7
  else if e = p + 2 ∧ f p = 111 ∧ f (p + 1) = 102 then 8 else 2
/-- a sign's kind -/
def lx_is (c : Int32) : Prop := c = 37 ∨ c = 40 ∨ c = 41 ∨ c = 42 ∨ c = 43 ∨ c = 45 ∨ c = 47 ∨ c = 59 ∨ c = 60 ∨ c = 61 ∨ c = 92 ∨ c = 123 ∨ c = 125
def lx_two (c d : Int32) : Prop := (c = 45 ∧ d = 62) ∨ (c = 61 ∧ d = 61)
abbrev lx_nx (f : Nat → Int32) (n p : Nat) : Int32 := if p + 1 < n then f (p + 1) else 0
/-- what a word at p (no blank there) is: its kind k, its end e -/
def lx_tk (f : Nat → Int32) (n p e : Nat) (k : Int32) : Prop :=
  (p = n ∧ e = p ∧ k = 0) ∨
  (p < n ∧ lx_L (f p) = true ∧ e = lx_end lx_A f n p ∧ ((lx_C (f p) = true ∧ k = 3) ∨ (lx_S (f p) = true ∧ k = lx_kw f p e))) ∨
  (p < n ∧ lx_L (f p) = false ∧ lx_D (f p) = true ∧ e = lx_end lx_D f n p ∧ ((p + 9 < e ∧ k = 1) ∨ (¬ p + 9 < e ∧ k = 4))) ∨
  (p < n ∧ lx_L (f p) = false ∧ lx_D (f p) = false ∧ ((lx_two (f p) (lx_nx f n p) ∧ e = p + 2 ∧ ((f p = 45 ∧ k = 9) ∨ (f p = 61 ∧ k = 10))) ∨
    (¬ lx_two (f p) (lx_nx f n p) ∧ e = p + 1 ∧ ((lx_is (f p) ∧ k = f p) ∨ (¬ lx_is (f p) ∧ k = 1)))))
/-- the value of digits -/
def lx_num (f : Nat → Int32) : Nat → Nat → Int32 → Int32
  | 0, _, v => v
  | m + 1, p, v => lx_num f m (p + 1) (10 * v + f p - 48)
/-- the reference's word of a kind -/
def lx_rw (k : Int32) : Int32 := if k = 10 then 11 else if k = 61 then 10 else if 11 ≤ k then 11 else k
theorem rf_si_si {s : rf_S} {b : Nat} {x y : Int32} : rf_si (rf_si s b x) b y = rf_si s b y := by
  unfold rf_si
  congr 1
  funext c
  by_cases h : c = b <;> simp [upd, h]
theorem rf_si_id {s : rf_S} {b : Nat} {x : Int32} (h : s.1 b = x) : rf_si s b x = s := by
  unfold rf_si
  have : upd s.1 b x = s.1 := by
    funext c
    by_cases hc : c = b
    · subst hc; simp [upd, h]
    · simp [upd, hc]
  rw [this]
theorem rf_si_i {s : rf_S} {b c : Nat} {x : Int32} : (rf_si s b x).1 c = if c = b then x else s.1 c := rfl
theorem rf_si_2 {s : rf_S} {b : Nat} {x : Int32} : (rf_si s b x).2 = s.2 := rfl
theorem sp_1a {A B : Prop} (h : B) : ((1 : Int32) = 0 → A) ∧ (¬ (1 : Int32) = 0 → B) := ⟨fun z => absurd z (by decide), fun _ => h⟩
theorem sp_0a {A B : Prop} (h : A) : ((0 : Int32) = 0 → A) ∧ (¬ (0 : Int32) = 0 → B) := ⟨fun _ => h, fun z => absurd rfl z⟩
theorem sp_1b {A B : Prop} (h : A) : (¬ (1 : Int32) = 0 → A) ∧ ((1 : Int32) = 0 → B) := ⟨fun _ => h, fun z => absurd z (by decide)⟩
theorem sp_0b {A B : Prop} (h : B) : (¬ (0 : Int32) = 0 → A) ∧ ((0 : Int32) = 0 → B) := ⟨fun z => absurd rfl z, fun _ => h⟩
theorem rf_I_of {d k : Nat} {lv : am_L} {s : rf_S} {x : Int32} {Q : Int32 → rf_S → Prop} (h : rf_R d k (0, lv, [], s) (fun r s' => s' = s ∧ r = some (.int x))) (q : Q x s) : rf_I d k lv s Q := rf_R_imp h (fun v s' e => ⟨x, e.2, by rw [e.1]; exact q⟩)
theorem k_isDigit {d : Nat} {c : Int32} {s : rf_S} {Q : Int32 → rf_S → Prop} (h1 : lx_D c = true → Q 1 s) (h0 : lx_D c = false → Q 0 s) : rf_I (d + 1) 5 [(0, .int c)] s Q := by
  refine rf_I_of r_isDigit ?_
  by_cases hc : c < 48 ∨ 57 < c
  · rw [if_pos hc]
    refine h0 ?_
    unfold lx_D
    rcases hc with z | z
    · simp [Int32.not_le.mpr z]
    · simp [Int32.not_le.mpr z]
  · rw [if_neg hc]
    refine h1 ?_
    unfold lx_D
    simp [Int32.not_lt.mp (fun z => hc (Or.inl z)), Int32.not_lt.mp (fun z => hc (Or.inr z))]
theorem k_isLetter {d : Nat} {c : Int32} {s : rf_S} {Q : Int32 → rf_S → Prop} (h1 : lx_L c = true → Q 1 s) (h0 : lx_L c = false → Q 0 s) : rf_I (d + 1) 6 [(0, .int c)] s Q := by
  refine rf_I_of r_isLetter ?_
  by_cases hc : (c < 97 ∨ 122 < c) ∧ (c < 65 ∨ 90 < c)
  · rw [if_pos hc]
    refine h0 ?_
    unfold lx_L lx_S lx_C
    rcases hc with ⟨z | z, y | y⟩ <;> simp [Int32.not_le.mpr z, Int32.not_le.mpr y]
  · rw [if_neg hc]
    refine h1 ?_
    unfold lx_L lx_S lx_C
    by_cases hs : c < 97 ∨ 122 < c
    · have hy : ¬ (c < 65 ∨ 90 < c) := fun z => hc ⟨hs, z⟩
      simp [Int32.not_lt.mp (fun z => hy (Or.inl z)), Int32.not_lt.mp (fun z => hy (Or.inr z))]
    · simp [Int32.not_lt.mp (fun z => hs (Or.inl z)), Int32.not_lt.mp (fun z => hs (Or.inr z))]
theorem k_byteAt {d n p : Nat} {s : rf_S} {Q : Int32 → rf_S → Prop} (h3 : s.1 3 = nI n) (hn : n ≤ 2000) (hp : p < 2 ^ 31) (h : Q (if p < n then s.2.2.1 2 p else 0) s) : rf_I d 4 [(0, .ref rf_o), (1, .int (nI p))] s Q := by
  refine rf_I_of (r_byteAt (fun z => ?_)) ?_
  · rw [h3] at z
    have := (nI_ltI hp (by omega)).mp z
    exact nI_in (by omega) (by omega)
  · rw [h3, nI_clamp hp]
    by_cases hc : p < n
    · rw [if_neg (nI_ge hc (by omega))]
      rw [if_pos hc] at h
      exact h
    · rw [if_pos (nI_le (by omega) hp)]
      rw [if_neg hc] at h
      exact h
/-- isText -/
theorem k_isText3 {d p e n : Nat} {a b c : Int32} {s : rf_S} {Q : Int32 → rf_S → Prop} (hc : ¬ c = 0) (h6 : s.1 6 = nI p) (h7 : s.1 7 = nI (e - p)) (hpe : p ≤ e) (he : e ≤ n) (hn : n ≤ 2000) (h1 : (e = p + 3 ∧ s.2.2.1 2 p = a ∧ s.2.2.1 2 (p + 1) = b ∧ s.2.2.1 2 (p + 2) = c) → Q 1 s) (h0 : ¬ (e = p + 3 ∧ s.2.2.1 2 p = a ∧ s.2.2.1 2 (p + 1) = b ∧ s.2.2.1 2 (p + 2) = c) → Q 0 s) : rf_I d 7 [(0, .ref rf_o), (1, .int a), (2, .int b), (3, .int c), (4, .int 0)] s Q := by
  refine wr_isText_ok ?_
  unfold wr_isText wr_isText_22 wr_isText_74 wr_isText_95
  simp only [rc_i0, rc_i1, rc_i2, rc_i3, rc_i4, h6, h7]
  have e3 : nI (e - p) = 3 ↔ e = p + 3 := by
    rw [show (3 : Int32) = nI 3 from rfl, nI_eq (by omega) (by omega)]
    omega
  refine ⟨fun _ => ⟨fun z => absurd trivial z, fun _ => ⟨fun hl => ?_, fun hl => h0 (fun z => hl (e3.mpr z.1))⟩⟩, fun z => absurd z hc⟩
  have hl := e3.mp hl
  rw [show (1 : Int32) = nI 1 from rfl, show (2 : Int32) = nI 2 from rfl, nI_add, nI_add, nI_clamp (by omega), nI_clamp (by omega), nI_clamp (by omega)]
  refine ⟨nI_in (by omega) (by omega), fun z => h0 (fun y => z y.2.1), fun z1 => ⟨nI_in (by omega) (by omega), fun z => h0 (fun y => z y.2.2.1), fun z2 => ⟨fun z => absurd z hc, fun _ => ⟨nI_in (by omega) (by omega), fun z => h0 (fun y => z y.2.2.2), fun z3 => ?_⟩⟩⟩⟩
  exact ⟨fun _ => h1 ⟨hl, z1, z2, z3⟩, fun z => absurd trivial z⟩
theorem k_isText2 {d p e n : Nat} {a b : Int32} {s : rf_S} {Q : Int32 → rf_S → Prop} (h6 : s.1 6 = nI p) (h7 : s.1 7 = nI (e - p)) (hpe : p ≤ e) (he : e ≤ n) (hn : n ≤ 2000) (h1 : (e = p + 2 ∧ s.2.2.1 2 p = a ∧ s.2.2.1 2 (p + 1) = b) → Q 1 s) (h0 : ¬ (e = p + 2 ∧ s.2.2.1 2 p = a ∧ s.2.2.1 2 (p + 1) = b) → Q 0 s) : rf_I d 7 [(0, .ref rf_o), (1, .int a), (2, .int b), (3, .int 0), (4, .int 0)] s Q := by
  refine wr_isText_ok ?_
  unfold wr_isText wr_isText_22 wr_isText_74 wr_isText_95
  simp only [rc_i0, rc_i1, rc_i2, rc_i3, rc_i4, h6, h7]
  have e3 : nI (e - p) = 2 ↔ e = p + 2 := by
    rw [show (2 : Int32) = nI 2 from rfl, nI_eq (by omega) (by omega)]
    omega
  refine ⟨fun z => absurd trivial z, fun _ => ⟨fun hl => ?_, fun hl => h0 (fun z => hl (e3.mpr z.1))⟩⟩
  have hl := e3.mp hl
  rw [show (1 : Int32) = nI 1 from rfl, nI_add, nI_clamp (by omega), nI_clamp (by omega)]
  refine ⟨nI_in (by omega) (by omega), fun z => h0 (fun y => z y.2.1), fun z1 => ⟨nI_in (by omega) (by omega), fun z => h0 (fun y => z y.2.2), fun z2 => ⟨fun _ => ?_, fun z => absurd trivial z⟩⟩⟩
  exact ⟨fun _ => h1 ⟨hl, z1, z2⟩, fun z => absurd trivial z⟩
theorem k_isText4 {d p e n : Nat} {a b c g : Int32} {s : rf_S} {Q : Int32 → rf_S → Prop} (hc : ¬ c = 0) (hg : ¬ g = 0) (h6 : s.1 6 = nI p) (h7 : s.1 7 = nI (e - p)) (hpe : p ≤ e) (he : e ≤ n) (hn : n ≤ 2000) (h1 : (e = p + 4 ∧ s.2.2.1 2 p = a ∧ s.2.2.1 2 (p + 1) = b ∧ s.2.2.1 2 (p + 2) = c ∧ s.2.2.1 2 (p + 3) = g) → Q 1 s) (h0 : ¬ (e = p + 4 ∧ s.2.2.1 2 p = a ∧ s.2.2.1 2 (p + 1) = b ∧ s.2.2.1 2 (p + 2) = c ∧ s.2.2.1 2 (p + 3) = g) → Q 0 s) : rf_I d 7 [(0, .ref rf_o), (1, .int a), (2, .int b), (3, .int c), (4, .int g)] s Q := by
  refine wr_isText_ok ?_
  unfold wr_isText wr_isText_22 wr_isText_74 wr_isText_95
  simp only [rc_i0, rc_i1, rc_i2, rc_i3, rc_i4, h6, h7]
  have e3 : nI (e - p) = 4 ↔ e = p + 4 := by
    rw [show (4 : Int32) = nI 4 from rfl, nI_eq (by omega) (by omega)]
    omega
  refine ⟨fun _ => ⟨fun _ => ⟨fun hl => ?_, fun hl => h0 (fun z => hl (e3.mpr z.1))⟩, fun z => absurd z hg⟩, fun z => absurd z hc⟩
  have hl := e3.mp hl
  rw [show (1 : Int32) = nI 1 from rfl, show (2 : Int32) = nI 2 from rfl, show (3 : Int32) = nI 3 from rfl, nI_add, nI_add, nI_add, nI_clamp (by omega), nI_clamp (by omega), nI_clamp (by omega), nI_clamp (by omega)]
  refine ⟨nI_in (by omega) (by omega), fun z => h0 (fun y => z y.2.1), fun z1 => ⟨nI_in (by omega) (by omega), fun z => h0 (fun y => z y.2.2.1), fun z2 => ⟨fun z => absurd z hc, fun _ => ⟨nI_in (by omega) (by omega), fun z => h0 (fun y => z y.2.2.2.1), fun z3 => ?_⟩⟩⟩⟩
  refine ⟨fun z => absurd z hg, fun _ => ⟨nI_in (by omega) (by omega), fun z => h0 (fun y => z y.2.2.2.2), fun z4 => h1 ⟨hl, z1, z2, z3, z4⟩⟩⟩
