/-! PART 29: blocks at the level of cells (for the class's leaves): what must hold of the cells, and K of what is behind -/
section AW
variable {sL : Nat} {sx : Nat → Int32}
def am_hw (ins : Instr) (a b : Nat) (st : List Value) (A : am_A) (K : List Value → am_A → Prop) : Prop := match ins with
  | .getfield _ => (match st with
    | .ref q :: r => ∃ fs, am_ob 0 A q a = some fs ∧ ∃ v, fs[b]? = some v ∧ K (v :: r) A
    | _ => False)
  | .putfield _ => (match st with
    | v :: .ref q :: r => ∃ fs, am_ob 0 A q a = some fs ∧ (b < fs.length ∧ am_fit ((am_nf a).getD b .int) v = true) ∧ K r (am_up 0 A q (.inr (a, fs.set b v)))
    | _ => False)
  | .new _ => K (.ref (0 + A.1.length) :: st) (A.1 ++ [.inr (a, (am_nf a).map defaultValue)], A.2 + (am_nf a).length)
  | .newarray t => (match st with
    | .int n :: r => ¬ (n < 0 ∨ 60000000 < n.toNatClampNeg) ∧ ∃ x, am_na t n.toNatClampNeg = some x ∧ K (.ref (0 + A.1.length) :: r) (A.1 ++ [.inl x], A.2 + n.toNatClampNeg)
    | _ => False)
  | .arraylength => (match st with
    | .ref q :: r => q ≠ 1000000000 ∧ ∃ n, am_al 0 A q = some n ∧ K (.int (Int32.ofNat n) :: r) A
    | _ => False)
  | .iaload => (match st with
    | .int i :: .ref q :: r => q ≠ 1000000000 ∧ ∃ x, am_ia 0 A q .int = some x ∧ rf_in i x.1 ∧ K (.int (x.2 i.toNatClampNeg) :: r) A
    | _ => False)
  | .laload => (match st with
    | .int i :: .ref q :: r => ∃ x, am_la 0 A q = some x ∧ rf_in i x.1 ∧ K (.long (x.2 i.toNatClampNeg) :: r) A
    | _ => False)
  | .baload => (match st with
    | .int i :: .ref q :: r => ∃ x, am_ia 0 A q .byte = some x ∧ rf_in i x.1 ∧ K (.int (x.2 i.toNatClampNeg) :: r) A
    | _ => False)
  | .iastore => (match st with
    | .int x :: .int i :: .ref q :: r => ∃ y, am_ia 0 A q .int = some y ∧ rf_in i y.1 ∧ K r (am_up 0 A q (.inl (.int, y.1, .inl (upd y.2 i.toNatClampNeg x))))
    | _ => False)
  | .lastore => (match st with
    | .long x :: .int i :: .ref q :: r => ∃ y, am_la 0 A q = some y ∧ rf_in i y.1 ∧ K r (am_up 0 A q (.inl (.long, y.1, .inr (.inl (vp_updL y.2 i.toNatClampNeg x)))))
    | _ => False)
  | .bastore => (match st with
    | .int x :: .int i :: .ref q :: r => ∃ y, am_ia 0 A q .byte = some y ∧ rf_in i y.1 ∧ K r (am_up 0 A q (.inl (.byte, y.1, .inl (upd y.2 i.toNatClampNeg (vp_nar .byte x)))))
    | _ => False)
  | _ => False
theorem am_hw_ok {ins : Instr} {a b : Nat} {st : List Value} {A : am_A} {K : List Value → am_A → Prop} (h : am_hw ins a b st A K) : ∃ q, am_hp 0 am_nf 1000000000 sL sx ins a b st A = some q ∧ K q.1 q.2 := by
  unfold am_hw at h
  split at h
  · split at h
    · obtain ⟨fs, h1, v, h2, h3⟩ := h
      exact ⟨(v :: _, A), by simp only [am_hp, am_get, h1, Option.bind_some, h2, Option.map_some], h3⟩
    · exact h.elim
  · split at h
    · obtain ⟨fs, h1, h2, h3⟩ := h
      exact ⟨_, by simp only [am_hp, am_put, h1, Option.bind_some]; rw [if_pos h2], h3⟩
    · exact h.elim
  · exact ⟨_, rfl, h⟩
  · split at h
    · obtain ⟨h1, x, h2, h3⟩ := h
      exact ⟨_, by simp only [am_hp, am_nwa]; rw [if_neg h1, h2]; rfl, h3⟩
    · exact h.elim
  · split at h
    · obtain ⟨h1, n, h2, h3⟩ := h
      exact ⟨_, by simp only [am_hp, am_len]; rw [if_neg h1, h2]; rfl, h3⟩
    · exact h.elim
  · split at h
    · obtain ⟨h1, x, h2, h3, h4⟩ := h
      exact ⟨_, by simp only [am_hp, am_ial]; rw [if_neg h1, h2]; simp only [Option.bind_some]; rw [if_neg h3], h4⟩
    · exact h.elim
  · split at h
    · obtain ⟨x, h2, h3, h4⟩ := h
      exact ⟨_, by simp only [am_hp, am_lal, h2, Option.bind_some]; rw [if_neg h3], h4⟩
    · exact h.elim
  · split at h
    · obtain ⟨x, h2, h3, h4⟩ := h
      exact ⟨_, by simp only [am_hp, am_bal, h2]; rw [if_neg h3], h4⟩
    · exact h.elim
  · split at h
    · obtain ⟨x, h2, h3, h4⟩ := h
      exact ⟨_, by simp only [am_hp, am_ias, h2, Option.bind_some]; rw [if_neg h3], h4⟩
    · exact h.elim
  · split at h
    · obtain ⟨x, h2, h3, h4⟩ := h
      exact ⟨_, by simp only [am_hp, am_las, h2, Option.bind_some]; rw [if_neg h3], h4⟩
    · exact h.elim
  · split at h
    · obtain ⟨x, h2, h3, h4⟩ := h
      exact ⟨_, by simp only [am_hp, am_bas, h2]; rw [if_neg h3], h4⟩
    · exact h.elim
  · exact h.elim
def am_w (nL : Nat) : List am_I → am_C → (am_C → Prop) → Prop
  | [], c, K => K c
  | I :: is, c, K => match am_kd I.1 I.2.2.2.2.2 with
    | 0 => (match am_sk I.1 I.2.2.1 c.2.2.1 with
      | some st' => am_w nL is (c.1 + I.2.1, c.2.1, st', c.2.2.2) K
      | none => False)
    | 1 => (match am_lo I.1 c.2.1 with
      | some v => am_w nL is (c.1 + I.2.1, c.2.1, v :: c.2.2.1, c.2.2.2) K
      | none => False)
    | 2 => (match am_so I.1 nL c.2.1 c.2.2.1 with
      | some q => am_w nL is (c.1 + I.2.1, q.1, q.2, c.2.2.2) K
      | none => False)
    | 3 => (match am_br I.1 c.2.2.1 with
      | some q => am_w nL is (if q.1 = true then I.2.2.1 else c.1 + I.2.1, c.2.1, q.2, c.2.2.2) K
      | none => False)
    | 4 => (match am_st1 c.2.2.1 with
      | some q => am_w nL is (am_sw q.1 I.2.2.2.2.2 I.2.2.1, c.2.1, q.2, c.2.2.2) K
      | none => False)
    | 5 => am_hw I.1 I.2.2.1 I.2.2.2.1 c.2.2.1 c.2.2.2 (fun st' A' => am_w nL is (c.1 + I.2.1, c.2.1, st', A') K)
    | _ => False
theorem am_R_w {d k : Nat} {M : am_T} {t : List (Nat × am_I)} {Q : Option Value → am_A → Prop} (hk : am_prog[k]? = some (M, t)) : ∀ (is : List am_I) (pc : Nat) (lv : am_L) (st : List Value) (A : am_A), rf_is_at t pc is → (∀ J ∈ is.dropLast, am_kd J.1 J.2.2.2.2.2 ≠ 3 ∧ am_kd J.1 J.2.2.2.2.2 ≠ 4) → am_w M.2.2.1 is (pc, lv, st, A) (fun c' => am_R sL sx d k c' Q) → am_R sL sx d k (pc, lv, st, A) Q := by
  intro is
  induction is with
  | nil => intro pc lv st s _ _ h; exact h
  | cons I is ih =>
    intro pc lv st A h1 h2 h
    obtain ⟨hI, h1⟩ := h1
    have hd : is = [] ∨ (am_kd I.1 I.2.2.2.2.2 ≠ 3 ∧ am_kd I.1 I.2.2.2.2.2 ≠ 4) := by
      cases is with
      | nil => exact Or.inl rfl
      | cons J js => exact Or.inr (h2 I (by simp [List.dropLast]))
    have hj : ∀ J ∈ is.dropLast, am_kd J.1 J.2.2.2.2.2 ≠ 3 ∧ am_kd J.1 J.2.2.2.2.2 ≠ 4 := by
      cases is with
      | nil => intro J hJ; cases hJ
      | cons J js => intro J' hJ'; exact h2 J' (by simp only [List.dropLast]; exact List.mem_cons_of_mem _ hJ')
    rw [am_w] at h
    split at h
    · rename_i hkd
      split at h
      · rename_i q hq
        refine am_R_nx hk (c' := (pc + I.2.1, lv, q, A)) ?_ (ih _ _ _ _ h1 hj h)
        dsimp only at hq
        simp only [am_nx, hI, Option.bind_some, hkd, hq, Option.map_some]
      · exact h.elim
    · rename_i hkd
      split at h
      · rename_i q hq
        refine am_R_nx hk (c' := (pc + I.2.1, lv, q :: st, A)) ?_ (ih _ _ _ _ h1 hj h)
        dsimp only at hq
        simp only [am_nx, hI, Option.bind_some, hkd, hq, Option.map_some]
      · exact h.elim
    · rename_i hkd
      split at h
      · rename_i q hq
        refine am_R_nx hk (c' := (pc + I.2.1, q.1, q.2, A)) ?_ (ih _ _ _ _ h1 hj h)
        dsimp only at hq
        simp only [am_nx, hI, Option.bind_some, hkd, hq, Option.map_some]
      · exact h.elim
    · rename_i hkd
      obtain rfl : is = [] := hd.elim id (fun z => absurd hkd z.1)
      split at h
      · rename_i q hq
        refine am_R_nx hk (c' := (if q.1 = true then I.2.2.1 else pc + I.2.1, lv, q.2, A)) ?_ h
        dsimp only at hq
        simp only [am_nx, hI, Option.bind_some, hkd, hq, Option.map_some]
      · exact h.elim
    · rename_i hkd
      obtain rfl : is = [] := hd.elim id (fun z => absurd hkd z.2)
      split at h
      · rename_i q hq
        refine am_R_nx hk (c' := (am_sw q.1 I.2.2.2.2.2 I.2.2.1, lv, q.2, A)) ?_ h
        dsimp only at hq
        simp only [am_nx, hI, Option.bind_some, hkd, hq, Option.map_some]
      · exact h.elim
    · rename_i hkd
      obtain ⟨q, hq, h⟩ := am_hw_ok (sL := sL) (sx := sx) h
      refine am_R_nx hk (c' := (pc + I.2.1, lv, q.1, q.2)) ?_ (ih _ _ _ _ h1 hj h)
      dsimp only at hq
      simp only [am_nx, hI, Option.bind_some, hkd, hq, Option.map_some]
    · exact h.elim
theorem am_R_ifb {d k p q : Nat} {b : Bool} {lv : am_L} {st : List Value} {A : am_A} {Q : Option Value → am_A → Prop} (ht : b = true → am_R sL sx d k (p, lv, st, A) Q) (hf : b = false → am_R sL sx d k (q, lv, st, A) Q) : am_R sL sx d k (if b = true then p else q, lv, st, A) Q := by
  cases b
  · exact hf rfl
  · exact ht rfl
theorem am_R_re {d k pc : Nat} {lv : am_L} {st : List Value} {A : am_A} {M : am_T} {t : List (Nat × am_I)} {Q : Option Value → am_A → Prop} {I : am_I} {v : Option Value} (hk : am_prog[k]? = some (M, t)) (hI : am_look t pc = some I) (hkd : am_kd I.1 I.2.2.2.2.2 = 6) (hv : am_rt I.1 M.2.2.2.1 st = some v) (hQ : Q v A) : am_R sL sx d k (pc, lv, st, A) Q := am_R_ret hk hI hkd hv hQ
theorem am_al_ia {A : am_A} {q : Nat} {x : Nat × (Nat → Int32)} (h : am_ia 0 A q .int = some x) : am_al 0 A q = some x.1 := by
  unfold am_al
  rw [am_ia_inv h]
  rfl
theorem am_al_la {A : am_A} {q : Nat} {x : Nat × (Nat → Int64)} (h : am_la 0 A q = some x) : am_al 0 A q = some x.1 := by
  unfold am_al
  rw [am_la_inv h]
  rfl
theorem rf_in_of {i : Int32} {n : Nat} (h0 : ¬ i < 0) (h1 : i < Int32.ofNat n) (hn : n < 2 ^ 31) : rf_in i n := by
  obtain ⟨j, hj, rfl⟩ := nI_of h0
  have : j < n := (nI_ltI hj hn).mp h1
  exact nI_in this hn
/-- Words.get(i): 0 outside -/
def wd_get (n : Nat) (f : Nat → Int64) (i : Int32) : Int64 := if i < 0 ∨ Int32.ofNat n ≤ i then 0 else f i.toNatClampNeg
set_option maxRecDepth 20000 in
theorem rp_280 : am_prog[280]? = some (am_m280, am_t280) := rfl
theorem c_Words_get {d q a : Nat} {A : am_A} {x : Nat × (Nat → Int64)} {i : Int32} (hq : am_ob 0 A q 11 = some [.ref a]) (ha : am_la 0 A a = some x) (hs : a ≠ 1000000000) (hn : x.1 < 2 ^ 31) : am_R sL sx d 280 (0, [(0, .ref q), (1, .int i)], [], A) (fun r A' => A' = A ∧ r = some (.long (wd_get x.1 x.2 i))) := by
  have end0 : (i < 0 ∨ Int32.ofNat x.1 ≤ i) → am_R sL sx d 280 (13, [(0, .ref q), (1, .int i)], [], A) (fun r A' => A' = A ∧ r = some (.long (wd_get x.1 x.2 i))) := by
    intro h
    refine am_R_w rp_280 (rf_bk am_t280 7 2) 13 _ _ _ ⟨rfl, rfl, trivial⟩ (by decide) ?_
    refine am_R_re (pc := 23) (v := some (.long 0)) rp_280 rfl rfl rfl ⟨rfl, ?_⟩
    unfold wd_get
    rw [if_pos h]
  refine am_R_w rp_280 (rf_bk am_t280 0 2) 0 _ _ _ ⟨rfl, rfl, trivial⟩ (by decide) ?_
  refine am_R_ifb (b := am_cnd .lt i 0) (p := 13) (q := 4) (fun h => end0 (Or.inl (of_decide_eq_true h))) (fun h => ?_)
  have h0 : ¬ i < 0 := of_decide_eq_false h
  refine am_R_w rp_280 (rf_bk am_t280 2 5) 4 _ _ _ (by repeat (first | exact trivial | refine ⟨rfl, ?_⟩)) (by decide +kernel) ?_
  refine ⟨_, hq, _, rfl, hs, _, am_al_la ha, ?_⟩
  refine am_R_ifb (b := am_cnd .lt i (Int32.ofNat x.1)) (p := 17) (q := 13) (fun h1 => ?_) (fun h1 => end0 (Or.inr (Int32.not_lt.mp (of_decide_eq_false h1))))
  have h2 : i < Int32.ofNat x.1 := of_decide_eq_true h1
  refine am_R_w rp_280 (rf_bk am_t280 9 4) 17 _ _ _ (by repeat (first | exact trivial | refine ⟨rfl, ?_⟩)) (by decide +kernel) ?_
  refine ⟨_, hq, _, rfl, _, ha, rf_in_of h0 h2 hn, ?_⟩
  refine am_R_re (pc := 23) (v := some (.long (x.2 i.toNatClampNeg))) rp_280 rfl rfl rfl ⟨rfl, ?_⟩
  unfold wd_get
  rw [if_neg (fun z => z.elim h0 (fun y => absurd h2 (Int32.not_lt.mpr y)))]
end AW
