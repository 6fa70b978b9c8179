/-! PART 52: the leaves of Table, over the picture -/
section CT
variable {sL : Nat} {sx : Nat → Int32}
theorem cf_dm {W a b : Nat} (hb : b < W) : (a * W + b) / W = a ∧ (a * W + b) % W = b := by
  have hW : 0 < W := by omega
  rw [Nat.mul_comm a W]
  rw [Nat.mul_add_div hW, Nat.div_eq_of_lt hb, Nat.mul_add_mod, Nat.mod_eq_of_lt hb]
  exact ⟨rfl, rfl⟩
theorem cf_am {W R a b : Nat} (ha : a < R) (hb : b < W) : a * W + b < R * W := by
  have : (a + 1) * W ≤ R * W := Nat.mul_le_mul_right W (by omega)
  rw [Nat.add_mul] at this
  omega
/-- a field of a row of a table -/
def tb_get (s : cf_S) (o : Nat) (r f : Int32) : Int32 := if r < 0 ∨ s.1 o 2 ≤ r ∨ f < 0 ∨ nI (cf_wd o) ≤ f then 0 else cf_t s o r.toNatClampNeg f.toNatClampNeg
def tb_set (s : cf_S) (o : Nat) (r f v : Int32) : cf_S := (s.1, s.2.1, s.2.2.1, fun p a b => if p = o ∧ a = r.toNatClampNeg ∧ b = f.toNatClampNeg ∧ ¬ (r < 1 ∨ s.1 o 2 ≤ r ∨ f < 0 ∨ nI (cf_wd o) ≤ f) then v else s.2.2.2.1 p a b, s.2.2.2.2)
def tb_cut (s : cf_S) (o : Nat) (n : Int32) : cf_S := (fun p b => if p = o ∧ b = 2 ∧ ¬ (n < 1 ∨ s.1 o 2 < n) then n else s.1 p b, s.2)
theorem tb_set_t {s : cf_S} {o p a b : Nat} {r f v : Int32} : cf_t (tb_set s o r f v) p a b = if p = o ∧ a = r.toNatClampNeg ∧ b = f.toNatClampNeg ∧ ¬ (r < 1 ∨ s.1 o 2 ≤ r ∨ f < 0 ∨ nI (cf_wd o) ≤ f) then v else cf_t s p a b := rfl
theorem tb_cut_i {s : cf_S} {o p b : Nat} {n : Int32} : (tb_cut s o n).1 p b = if p = o ∧ b = 2 ∧ ¬ (n < 1 ∨ s.1 o 2 < n) then n else s.1 p b := rfl
theorem cf_int {r : Int32} {R : Nat} (h0 : ¬ r < 0) (h1 : ¬ nI R ≤ r) (hR : R < 2 ^ 31) : ∃ a, a < R ∧ r = nI a := by
  obtain ⟨a, ha, rfl⟩ := nI_of h0
  refine ⟨a, ?_, rfl⟩
  exact Nat.lt_of_not_le (fun y => h1 (nI_le (a := R) (b := a) y ha))
/-- outside: as the class asks it, and as the picture says it -/
theorem cf_out {lo r f : Int32} {W R n : Nat} (hlo : lo = 0 ∨ lo = 1) (hW : W ≤ 16) (hRn : R * W ≤ n) (hn : n ≤ 4194304) (hR : R ≤ 4194304) : tb_out lo (nI W) (nI R) n r f ↔ (r < lo ∨ nI R ≤ r ∨ f < 0 ∨ nI W ≤ f) := by
  constructor
  · intro h
    by_cases hc : r < lo ∨ nI R ≤ r ∨ f < 0 ∨ nI W ≤ f
    · exact hc
    · have h0 : ¬ r < 0 := by
        intro z
        refine hc (Or.inl ?_)
        rcases hlo with rfl | rfl
        · exact z
        · exact Int32.lt_trans z (by decide)
      obtain ⟨a, ha, rfl⟩ := cf_int h0 (fun z => hc (Or.inr (Or.inl z))) (by omega)
      obtain ⟨b, hb, rfl⟩ := cf_int (fun z => hc (Or.inr (Or.inr (Or.inl z)))) (fun z => hc (Or.inr (Or.inr (Or.inr z)))) (by omega)
      have hab := cf_am ha hb
      unfold tb_out at h
      rw [nI_mul, nI_add] at h
      rcases h with h | h | h | h | h | h
      · exact Or.inl h
      · exact Or.inr (Or.inl h)
      · exact Or.inr (Or.inr (Or.inl h))
      · exact Or.inr (Or.inr (Or.inr h))
      · exact absurd h (nI_pos (by omega))
      · exact absurd h (nI_ge (by omega) (by omega))
  · rintro (h | h | h | h)
    · exact Or.inl h
    · exact Or.inr (Or.inl h)
    · exact Or.inr (Or.inr (Or.inl h))
    · exact Or.inr (Or.inr (Or.inr (Or.inl h)))
theorem cf_r10R {s : cf_S} {A : am_A} {o : Nat} (hH : cf_H s A) (ho : cf_cls o = some 10) : ∃ (f : Nat → Int32) (R : Nat), am_at 0 A (cf_q s o) = some (.inl (.int, cf_n s o, .inl f)) ∧ s.1 o 0 = nI (cf_wd o) ∧ s.1 o 2 = nI R ∧ R * cf_wd o ≤ cf_n s o ∧ (∀ i, i < R * cf_wd o → f i = cf_t s o (i / cf_wd o) (i % cf_wd o)) ∧ R ≤ 4194304 ∧ cf_n s o ≤ 4194304 ∧ cf_q s o ≠ 1000000000 ∧ cf_q s o < A.1.length := by
  obtain ⟨f, R, a1, a2, a3, a4, a5⟩ := hH.2.2.1 o ho
  have hn := hH.2.2.2.2.2.2.1 o (Or.inr (Or.inl ho))
  have hw := cf_wd_in o
  have hlt := cf_at_lt a1
  have hN := hH.2.2.2.2.2.2.2.2.1
  have hN1 := hH.2.2.2.2.2.2.2.2.2.2.1
  have : R * 1 ≤ R * cf_wd o := Nat.mul_le_mul_left R hw.1
  exact ⟨f, R, a1, a2, a3, a4, a5, by omega, hn, by omega, hlt⟩
theorem cp_get {d o : Nat} {r f : Int32} {s : cf_S} {A : am_A} (hH : cf_H s A) (ho : cf_cls o = some 10) : am_R sL sx d 273 (0, [(0, .ref o), (1, .int r), (2, .int f)], [], A) (fun v A' => v = some (.int (tb_get s o r f)) ∧ A' = A) := by
  obtain ⟨g, R, a1, a2, a3, a4, a5, hR, hn, hs, _⟩ := cf_r10R hH ho
  have hw := cf_wd_in o
  have h0 := am_ob_of (hH.1 o 10 ho)
  rw [cf_fs10, a2, a3] at h0
  refine am_R_imp (c_Table_get (row := r) (field := f) h0 (am_ia_of a1) hs (by show cf_n s o < _; omega)) (fun v A' h => ⟨?_, h.1⟩)
  have hout := cf_out (lo := 0) (r := r) (f := f) (Or.inl rfl) hw.2 a4 hn hR
  rcases h.2 with ⟨z, e⟩ | ⟨z, e⟩
  · rw [e]
    unfold tb_get
    rw [a3, if_pos (hout.mp z)]
  · rw [e]
    unfold tb_get
    have hz := fun y => z (hout.mpr y)
    rw [a3, if_neg hz]
    obtain ⟨a, ha, rfl⟩ := cf_int (fun y => hz (Or.inl y)) (fun y => hz (Or.inr (Or.inl y))) (by omega)
    obtain ⟨b, hb, rfl⟩ := cf_int (fun y => hz (Or.inr (Or.inr (Or.inl y)))) (fun y => hz (Or.inr (Or.inr (Or.inr y)))) (by omega)
    have hab := cf_am ha hb
    rw [nI_mul, nI_add, nI_clamp (by omega), nI_clamp (by omega), nI_clamp (by omega)]
    dsimp only
    rw [a5 _ hab, (cf_dm hb).1, (cf_dm hb).2]
theorem cp_set {d o : Nat} {r f v : Int32} {s : cf_S} {A : am_A} (hH : cf_H s A) (ho : cf_cls o = some 10) : am_R sL sx d 274 (0, [(0, .ref o), (1, .int r), (2, .int f), (3, .int v)], [], A) (fun x A' => x = none ∧ cf_H (tb_set s o r f v) A' ∧ cf_F A A') := by
  obtain ⟨g, R, a1, a2, a3, a4, a5, hR, hn, hs, _⟩ := cf_r10R hH ho
  have hw := cf_wd_in o
  have h0 := am_ob_of (hH.1 o 10 ho)
  rw [cf_fs10, a2, a3] at h0
  have hpl := hH.2.2.2.2.2.1
  refine am_R_imp (c_Table_set (row := r) (field := f) (v := v) h0 (am_ia_of a1) hs (by show cf_n s o < _; omega)) (fun x A' h => ⟨h.1, ?_⟩)
  have hout := cf_out (lo := 1) (r := r) (f := f) (Or.inr rfl) hw.2 a4 hn hR
  rcases h.2 with ⟨z, e⟩ | ⟨z, e⟩
  · rw [e]
    have : tb_set s o r f v = s := by
      unfold tb_set
      have : (fun p a b => if p = o ∧ a = r.toNatClampNeg ∧ b = f.toNatClampNeg ∧ ¬ (r < 1 ∨ s.1 o 2 ≤ r ∨ f < 0 ∨ nI (cf_wd o) ≤ f) then v else s.2.2.2.1 p a b) = s.2.2.2.1 := by
        funext p a b
        rw [if_neg (fun y => y.2.2.2 (by rw [a3]; exact hout.mp z))]
      rw [this]
    rw [this]
    exact ⟨hH, cf_F.rf⟩
  · rw [e]
    have hz := fun y => z (hout.mpr y)
    have h1 : ¬ r < 0 := fun y => hz (Or.inl (Int32.lt_trans y (by decide)))
    have hz2 : ¬ (r < 1 ∨ s.1 o 2 ≤ r ∨ f < 0 ∨ nI (cf_wd o) ≤ f) := by rw [a3]; exact hz
    obtain ⟨a, ha, rfl⟩ := cf_int h1 (fun y => hz (Or.inr (Or.inl y))) (by omega)
    obtain ⟨b, hb, rfl⟩ := cf_int (fun y => hz (Or.inr (Or.inr (Or.inl y)))) (fun y => hz (Or.inr (Or.inr (Or.inr y)))) (by omega)
    have hab := cf_am ha hb
    rw [nI_mul, nI_add, nI_clamp (by omega)]
    have hothT : ∀ p, p ≠ o → cf_t (tb_set s o (nI a) (nI b) v) p = cf_t s p := by
      intro p hpo; funext i j; rw [tb_set_t]; simp [hpo]
    refine ⟨cf_H_mk o hH (fun p c hp => ?_) (fun p hp hpo => ⟨rfl, rf_at_up (fun y => hpo (hH.2.2.2.2.1 _ _ hp (Or.inr (Or.inl ho)) y)), rfl, rfl, rfl, hothT p hpo, rfl⟩) (fun z => by rw [ho] at z; cases z) (fun _ => ?_) (fun z => by rw [ho] at z; cases z) (fun p hp hpo ho' z => hpo (hH.2.2.2.2.1 _ _ hp ho' z.symm)) (fun z => hpl o z) (fun z => hH.2.2.2.2.2.2.1 o z) hH.2.2.2.2.2.2.2.1 (by rw [cf_at_len]; exact hH.2.2.2.2.2.2.2.2.1) hH.2.2.2.2.2.2.2.2.2.1 hH.2.2.2.2.2.2.2.2.2.2.1 hH.2.2.2.2.2.2.2.2.2.2.2, cf_F.up (cf_pl_F (hpl o (Or.inr (Or.inl ho))))⟩
    · rw [rf_at_up (cf_cls_pl hp (hpl o (Or.inr (Or.inl ho)))), hH.1 p c hp, cf_fs_eq (s := s) (s' := tb_set s o (nI a) (nI b) v) (fun _ => rfl) (fun _ => rfl) rfl (fun _ => rfl)]
    · refine ⟨upd g (a * cf_wd o + b) v, R, rf_at_self a1, a2, a3, a4, fun i hi => ?_⟩
      rw [tb_set_t, nI_clamp (by omega), nI_clamp (by omega)]
      by_cases hiab : i = a * cf_wd o + b
      · subst hiab
        rw [(cf_dm hb).1, (cf_dm hb).2, if_pos ⟨rfl, rfl, rfl, hz2⟩]
        simp [upd]
      · rw [if_neg]
        · simp only [upd, if_neg hiab]
          exact a5 i hi
        · rintro ⟨_, y1, y2, _⟩
          apply hiab
          rw [← y1, ← y2, Nat.mul_comm]
          exact (Nat.div_add_mod i (cf_wd o)).symm
theorem cp_tcut {d o : Nat} {n : Int32} {s : cf_S} {A : am_A} (hH : cf_H s A) (ho : cf_cls o = some 10) : am_R sL sx d 271 (0, [(0, .ref o), (1, .int n)], [], A) (fun x A' => x = none ∧ cf_H (tb_cut s o n) A' ∧ cf_F A A') := by
  obtain ⟨g, R, a1, a2, a3, a4, a5, hR, hn, hs, _⟩ := cf_r10R hH ho
  have hw := cf_wd_in o
  have h0 := am_ob_of (hH.1 o 10 ho)
  rw [cf_fs10] at h0
  have hpl := hH.2.2.2.2.2.1
  have hqo := cf_cls_pl ho (hpl o (Or.inr (Or.inl ho)))
  refine am_R_imp (c_Table_cut (n := n) h0) (fun x A' h => ⟨h.1, ?_⟩)
  rcases h.2 with ⟨z, e⟩ | ⟨z, e⟩
  · rw [e]
    have : tb_cut s o n = s := by
      unfold tb_cut
      have : (fun p b => if p = o ∧ b = 2 ∧ ¬ (n < 1 ∨ s.1 o 2 < n) then n else s.1 p b) = s.1 := by
        funext p b
        rw [if_neg (fun y => y.2.2 z)]
      rw [this]
    rw [this]
    exact ⟨hH, cf_F.rf⟩
  · rw [e]
    have hoth : ∀ p, p ≠ o → (tb_cut s o n).1 p = s.1 p := by
      intro p hpo; funext b; rw [tb_cut_i]; simp [hpo]
    refine ⟨cf_H_mk o hH (fun p c hp => ?_) (fun p hp hpo => ⟨rfl, rf_at_up (cf_cls_pl ho (hpl p hp)).symm, rfl, hoth p hpo, rfl, rfl, rfl⟩) (fun z => by rw [ho] at z; cases z) (fun _ => ?_) (fun z => by rw [ho] at z; cases z) (fun p hp hpo ho' z => hpo (hH.2.2.2.2.1 _ _ hp ho' z.symm)) (fun z => hpl o z) (fun z => hH.2.2.2.2.2.2.1 o z) hH.2.2.2.2.2.2.2.1 (by rw [cf_at_len]; exact hH.2.2.2.2.2.2.2.2.1) hH.2.2.2.2.2.2.2.2.2.1 hH.2.2.2.2.2.2.2.2.2.2.1 hH.2.2.2.2.2.2.2.2.2.2.2, cf_F.up (Or.inl (cf_cls_lt ho))⟩
    · by_cases hpo : p = o
      · subst hpo
        rw [ho] at hp
        cases hp
        rw [rf_at_self (hH.1 p 10 ho), cf_fs10]
        unfold tb_cut
        simp [z]
      · rw [rf_at_up hpo, hH.1 p c hp, cf_fs_eq (s' := tb_cut s o n)]
        · intro b; rw [hoth p hpo]
        · intro b; rfl
        · rfl
        · intro b; rfl
    · rw [a3] at z
      obtain ⟨j, hj, rfl⟩ := nI_of (x := n) (fun y => z (Or.inl (Int32.lt_trans y (by decide))))
      have hjR : j ≤ R := Nat.le_of_not_lt (fun y => z (Or.inr (nI_lt (a := R) (b := j) y hj)))
      have hle : j * cf_wd o ≤ R * cf_wd o := Nat.mul_le_mul_right _ hjR
      refine ⟨g, j, ?_, ?_, ?_, by show j * cf_wd o ≤ cf_n s o; omega, fun i hi => a5 i (by omega)⟩
      · rw [show cf_q (tb_cut s o (nI j)) o = cf_q s o from rfl, rf_at_up hqo.symm]; exact a1
      · rw [tb_cut_i]; simp [a2]
      · rw [tb_cut_i, a3]
        simp [z]
/-- Table.add -/
abbrev tb_T (s : cf_S) (o : Nat) : Nat := ((s.1 o 2).toNatClampNeg + 1) * cf_wd o
abbrev tb_ok (s : cf_S) (o : Nat) : Prop := tb_T s o ≤ 1048576
abbrev tb_gr (s : cf_S) (o : Nat) : Prop := tb_T s o ≤ 1048576 ∧ cf_n s o < tb_T s o
def tb_new (s : cf_S) (o : Nat) : Int32 := if tb_ok s o then s.1 o 2 else 0
def tb_add (s : cf_S) (o : Nat) : cf_S := (fun p b => if p = o ∧ b = 2 ∧ tb_ok s o then s.1 o 2 + 1 else s.1 p b, s.2.1, s.2.2.1, fun p a b => if p = o ∧ a = (s.1 o 2).toNatClampNeg ∧ tb_ok s o then 0 else s.2.2.2.1 p a b, s.2.2.2.2.1, fun p => if p = o ∧ tb_gr s o then cf_N s else cf_q s p, fun p => if p = o ∧ tb_gr s o then tb_T s o * 2 else cf_n s p, cf_h s, if tb_gr s o then cf_N s + 1 else cf_N s, if tb_gr s o then cf_Z s + tb_T s o * 2 else cf_Z s)
theorem tb_add_i {s : cf_S} {o p b : Nat} : (tb_add s o).1 p b = if p = o ∧ b = 2 ∧ tb_ok s o then s.1 o 2 + 1 else s.1 p b := rfl
theorem tb_add_t {s : cf_S} {o p a b : Nat} : cf_t (tb_add s o) p a b = if p = o ∧ a = (s.1 o 2).toNatClampNeg ∧ tb_ok s o then 0 else cf_t s p a b := rfl
theorem tb_add_q {s : cf_S} {o p : Nat} : cf_q (tb_add s o) p = if p = o ∧ tb_gr s o then cf_N s else cf_q s p := rfl
theorem tb_add_n {s : cf_S} {o p : Nat} : cf_n (tb_add s o) p = if p = o ∧ tb_gr s o then tb_T s o * 2 else cf_n s p := rfl
theorem tb_add_N {s : cf_S} {o : Nat} : cf_N (tb_add s o) = if tb_gr s o then cf_N s + 1 else cf_N s := rfl
theorem tb_add_Z {s : cf_S} {o : Nat} : cf_Z (tb_add s o) = if tb_gr s o then cf_Z s + tb_T s o * 2 else cf_Z s := rfl
theorem cp_tadd {d o : Nat} {s : cf_S} {A : am_A} (hH : cf_H s A) (ho : cf_cls o = some 10) (hroom : cf_N s + 1 < 1000000000) : am_R sL sx d 272 (0, [(0, .ref o)], [], A) (fun x A' => x = some (.int (tb_new s o)) ∧ cf_H (tb_add s o) A' ∧ cf_F A A') := by
  obtain ⟨g, R, a1, a2, a3, a4, a5, hR, hn, hs, hqN⟩ := cf_r10R hH ho
  have hw := cf_wd_in o
  have h0 := am_ob_of (hH.1 o 10 ho)
  rw [cf_fs10, a2, a3] at h0
  have hpl := hH.2.2.2.2.2.1
  have hqo := cf_cls_pl ho (hpl o (Or.inr (Or.inl ho)))
  have hN := hH.2.2.2.2.2.2.2.2.1
  have hZ := hH.2.2.2.2.2.2.2.2.2.1
  have hN2 := hH.2.2.2.2.2.2.2.2.2.2.2
  have eT : tb_T s o = (R + 1) * cf_wd o := by unfold tb_T; rw [a3, nI_clamp (by omega)]
  have eR : (s.1 o 2).toNatClampNeg = R := by rw [a3, nI_clamp (by omega)]
  have eTW : (R + 1) * cf_wd o = R * cf_wd o + cf_wd o := by rw [Nat.add_mul, Nat.one_mul]
  refine am_R_imp (c_Table_add h0 (am_ia_of a1) hqo hs (by omega) hw.1 hw.2 a4 hn) (fun x A' h => ?_)
  have cont : ∀ f' : Nat → Int32, (∀ i, i < R * cf_wd o → f' i = g i) → (∀ i, R * cf_wd o ≤ i → i < (R + 1) * cf_wd o → f' i = 0) → tb_ok s o → ∀ i, i < (R + 1) * cf_wd o → f' i = cf_t (tb_add s o) o (i / cf_wd o) (i % cf_wd o) := by
    intro f' g1 g2 hok i hi
    rw [tb_add_t, eR]
    by_cases hiR : i < R * cf_wd o
    · have : i / cf_wd o < R := Nat.div_lt_of_lt_mul (by rw [Nat.mul_comm]; exact hiR)
      rw [if_neg (by rintro ⟨_, y, _⟩; omega), g1 i hiR]
      exact a5 i hiR
    · have e1 : i / cf_wd o = R := by
        apply Nat.div_eq_of_lt_le
        · omega
        · exact hi
      rw [if_pos ⟨rfl, e1, hok⟩]
      exact g2 i (by omega) hi
  rcases h with ⟨z1, e1, e2⟩ | ⟨z1, z2, e1, f', g1, g2, e2⟩ | ⟨z1, z2, e1, f', g1, g2, e2⟩
  · have hok : ¬ tb_ok s o := by unfold tb_ok; omega
    have hgr : ¬ tb_gr s o := fun y => hok y.1
    rw [e1, e2]
    have : tb_add s o = s := by
      unfold tb_add
      simp only [hok, hgr, and_false, if_false]
    rw [this]
    exact ⟨by unfold tb_new; rw [if_neg hok], hH, cf_F.rf⟩
  · have hok : tb_ok s o := by unfold tb_ok; omega
    have hgr : ¬ tb_gr s o := fun y => by have := y.2; omega
    rw [e1, e2]
    have hoth : ∀ p, p ≠ o → (tb_add s o).1 p = s.1 p := by
      intro p hpo; funext b; rw [tb_add_i]; simp [hpo]
    have hothT : ∀ p, p ≠ o → cf_t (tb_add s o) p = cf_t s p := by
      intro p hpo; funext i j; rw [tb_add_t]; simp [hpo]
    have eq1 : cf_q (tb_add s o) = cf_q s := by funext p; rw [tb_add_q]; simp [hgr]
    have en1 : cf_n (tb_add s o) = cf_n s := by funext p; rw [tb_add_n]; simp [hgr]
    have eN1 : cf_N (tb_add s o) = cf_N s := by rw [tb_add_N, if_neg hgr]
    have eZ1 : cf_Z (tb_add s o) = cf_Z s := by rw [tb_add_Z, if_neg hgr]
    refine ⟨by unfold tb_new; rw [if_pos hok, a3], cf_H_mk o hH (fun p c hp => ?_) (fun p hp hpo => ⟨by rw [eq1], ?_, by rw [en1], hoth p hpo, rfl, hothT p hpo, rfl⟩) (fun z => by rw [ho] at z; cases z) (fun _ => ?_) (fun z => by rw [ho] at z; cases z) (fun p hp hpo ho' z => hpo (hH.2.2.2.2.1 _ _ hp ho' (by rw [eq1] at z; exact z.symm))) (fun z => by rw [eq1]; exact hpl o z) (fun z => by rw [en1]; exact hH.2.2.2.2.2.2.1 o z) hH.2.2.2.2.2.2.2.1 (by rw [cf_at_len, cf_at_len, eN1]; exact hN) (by rw [eZ1]; exact hZ) (by rw [eN1]; exact hH.2.2.2.2.2.2.2.2.2.2.1) (by rw [eN1]; exact hN2), cf_F.tr (cf_F.up (cf_pl_F (hpl o (Or.inr (Or.inl ho))))) (cf_F.up (Or.inl (cf_cls_lt ho)))⟩
    · by_cases hpo : p = o
      · subst hpo
        rw [ho] at hp
        cases hp
        rw [rf_at_self ((rf_at_up hqo).trans (hH.1 p 10 ho)), cf_fs10, eq1]
        rw [tb_add_i, tb_add_i]
        simp [hok, a2, a3, nI_1]
      · rw [rf_at_up hpo, rf_at_up (cf_cls_pl hp (hpl o (Or.inr (Or.inl ho)))), hH.1 p c hp, cf_fs_eq (s' := tb_add s o)]
        · intro b; rw [hoth p hpo]
        · intro b; rfl
        · rw [eq1]
        · intro b; rfl
    · rw [rf_at_up (cf_cls_pl ho (hpl p hp)).symm, rf_at_up (fun y => hpo (hH.2.2.2.2.1 _ _ hp (Or.inr (Or.inl ho)) y))]
    · refine ⟨f', R + 1, ?_, ?_, ?_, by rw [en1]; exact z2, cont f' g1 g2 hok⟩
      · rw [eq1, en1, rf_at_up hqo.symm]; exact rf_at_self a1
      · rw [tb_add_i]; simp [a2]
      · rw [tb_add_i]; simp [hok, a3, nI_1]
  · have hok : tb_ok s o := by unfold tb_ok; omega
    have hgr : tb_gr s o := ⟨hok, by omega⟩
    rw [e1, e2]
    have hoth : ∀ p, p ≠ o → (tb_add s o).1 p = s.1 p := by
      intro p hpo; funext b; rw [tb_add_i]; simp [hpo]
    have hothT : ∀ p, p ≠ o → cf_t (tb_add s o) p = cf_t s p := by
      intro p hpo; funext i j; rw [tb_add_t]; simp [hpo]
    have eq1 : ∀ p, p ≠ o → cf_q (tb_add s o) p = cf_q s p := by intro p hpo; rw [tb_add_q]; simp [hpo]
    have eq2 : cf_q (tb_add s o) o = A.1.length := by rw [tb_add_q, if_pos ⟨rfl, hgr⟩, hN]
    have en1 : ∀ p, p ≠ o → cf_n (tb_add s o) p = cf_n s p := by intro p hpo; rw [tb_add_n]; simp [hpo]
    have en2 : cf_n (tb_add s o) o = (R + 1) * cf_wd o * 2 := by rw [tb_add_n, if_pos ⟨rfl, hgr⟩, eT]
    have eN1 : cf_N (tb_add s o) = cf_N s + 1 := by rw [tb_add_N, if_pos hgr]
    have eZ1 : cf_Z (tb_add s o) = cf_Z s + (R + 1) * cf_wd o * 2 := by rw [tb_add_Z, if_pos hgr, eT]
    have hoA : o ≠ A.1.length := by have := cf_cls_lt ho; omega
    have hplA : cf_pl A.1.length := Or.inr (by omega)
    refine ⟨by unfold tb_new; rw [if_pos hok, a3], cf_H_mk o hH (fun p c hp => ?_) (fun p hp hpo => ⟨eq1 p hpo, ?_, en1 p hpo, hoth p hpo, rfl, hothT p hpo, rfl⟩) (fun z => by rw [ho] at z; cases z) (fun _ => ?_) (fun z => by rw [ho] at z; cases z) (fun p hp hpo ho' z => ?_) (fun z => by rw [eq2]; exact hplA) (fun z => by rw [en2]; omega) hH.2.2.2.2.2.2.2.1 (by rw [cf_at_len, eN1]; unfold am_app; simp [hN]) (by rw [eZ1, ← hZ]; rfl) (by rw [eN1]; exact hroom) (by rw [eN1]; omega), cf_F.tr (cf_F.app (by omega)) (cf_F.up (Or.inl (cf_cls_lt ho)))⟩
    · by_cases hpo : p = o
      · subst hpo
        rw [ho] at hp
        cases hp
        rw [rf_at_self (am_app_lt (hH.1 p 10 ho)), cf_fs10, eq2]
        rw [tb_add_i, tb_add_i]
        simp [hok, a2, a3, nI_1]
      · rw [rf_at_up hpo, am_app_lt (hH.1 p c hp), cf_fs_eq (s' := tb_add s o)]
        · intro b; rw [hoth p hpo]
        · intro b; rfl
        · exact eq1 p hpo
        · intro b; rfl
    · have hex : ∃ e, am_at 0 A (cf_q s p) = some e := by
        rcases hp with y | y | y
        · obtain ⟨_, _, y1, _⟩ := hH.2.1 p y; exact ⟨_, y1⟩
        · obtain ⟨_, _, y1, _⟩ := hH.2.2.1 p y; exact ⟨_, y1⟩
        · obtain ⟨_, y1, _⟩ := hH.2.2.2.1 p y; exact ⟨_, y1⟩
      obtain ⟨e, he⟩ := hex
      rw [rf_at_up (cf_cls_pl ho (hpl p hp)).symm, am_app_lt he, he]
    · refine ⟨f', R + 1, ?_, ?_, ?_, by rw [en2]; omega, cont f' g1 g2 hok⟩
      · rw [eq2, en2, rf_at_up hoA.symm]; exact am_app_eq
      · rw [tb_add_i]; simp [a2]
      · rw [tb_add_i]; simp [hok, a3, nI_1]
    · rw [eq2] at z
      have hex : ∃ e, am_at 0 A (cf_q s p) = some e := by
        rcases hp with y | y | y
        · obtain ⟨_, _, y1, _⟩ := hH.2.1 p y; exact ⟨_, y1⟩
        · obtain ⟨_, _, y1, _⟩ := hH.2.2.1 p y; exact ⟨_, y1⟩
        · obtain ⟨_, y1, _⟩ := hH.2.2.2.1 p y; exact ⟨_, y1⟩
      obtain ⟨e, he⟩ := hex
      have := cf_at_lt he
      omega
end CT
