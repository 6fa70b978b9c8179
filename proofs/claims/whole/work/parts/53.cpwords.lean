/-! PART 53: the leaves of Words, Heap.beginMove, Bytes.addLetters, over the picture -/
section CW
variable {sL : Nat} {sx : Nat → Int32}
theorem cf_hex {s : cf_S} {A : am_A} (hH : cf_H s A) {p : Nat} (hp : cf_ow p) : ∃ e, am_at 0 A (cf_q s p) = some e := by
  rcases hp with y | y | y
  · obtain ⟨_, _, y1, _⟩ := hH.2.1 p y; exact ⟨_, y1⟩
  · obtain ⟨_, _, y1, _⟩ := hH.2.2.1 p y; exact ⟨_, y1⟩
  · obtain ⟨_, y1, _⟩ := hH.2.2.2.1 p y; exact ⟨_, y1⟩
def wd_g (s : cf_S) (o : Nat) (i : Int32) : Int64 := if i < 0 ∨ nI (cf_n s o) ≤ i then 0 else cf_g s o i.toNatClampNeg
def wd_s (s : cf_S) (o : Nat) (i : Int32) (v : Int64) : cf_S := (s.1, s.2.1, s.2.2.1, s.2.2.2.1, fun p j => if p = o ∧ j = i.toNatClampNeg ∧ ¬ (i < 0 ∨ nI (cf_n s o) ≤ i) then v else s.2.2.2.2.1 p j, s.2.2.2.2.2)
theorem wd_s_g {s : cf_S} {o p j : Nat} {i : Int32} {v : Int64} : cf_g (wd_s s o i v) p j = if p = o ∧ j = i.toNatClampNeg ∧ ¬ (i < 0 ∨ nI (cf_n s o) ≤ i) then v else cf_g s p j := rfl
theorem cf_r11n {s : cf_S} {A : am_A} {o : Nat} (hH : cf_H s A) (ho : cf_cls o = some 11) : ∃ f : Nat → Int64, am_at 0 A (cf_q s o) = some (.inl (.long, cf_n s o, .inr (.inl f))) ∧ (∀ i, i < cf_n s o → f i = cf_g s o i) ∧ cf_n s o ≤ 4194304 ∧ cf_q s o ≠ 1000000000 ∧ cf_q s o < A.1.length := by
  obtain ⟨f, a1, a2⟩ := hH.2.2.2.1 o ho
  have hlt := cf_at_lt a1
  have hN := hH.2.2.2.2.2.2.2.2.1
  have hN1 := hH.2.2.2.2.2.2.2.2.2.2.1
  exact ⟨f, a1, a2, hH.2.2.2.2.2.2.1 o (Or.inr (Or.inr ho)), by omega, hlt⟩
theorem cp_wget {d o : Nat} {i : Int32} {s : cf_S} {A : am_A} (hH : cf_H s A) (ho : cf_cls o = some 11) : am_R sL sx d 280 (0, [(0, .ref o), (1, .int i)], [], A) (fun v A' => v = some (.long (wd_g s o i)) ∧ A' = A) := by
  obtain ⟨f, a1, a2, hn, hs, _⟩ := cf_r11n hH ho
  have h0 := am_ob_of (hH.1 o 11 ho)
  rw [cf_fs11] at h0
  refine am_R_imp (c_Words_get (i := i) h0 (am_la_of a1) hs (by show cf_n s o < _; omega)) (fun v A' h => ⟨?_, h.1⟩)
  rw [h.2]
  unfold wd_get wd_g
  show some (Value.long (if i < 0 ∨ nI (cf_n s o) ≤ i then 0 else f i.toNatClampNeg)) = _
  by_cases hc : i < 0 ∨ nI (cf_n s o) ≤ i
  · rw [if_pos hc, if_pos hc]
  · rw [if_neg hc, if_neg hc]
    obtain ⟨j, hj, rfl⟩ := cf_int (fun y => hc (Or.inl y)) (fun y => hc (Or.inr y)) (by omega)
    rw [nI_clamp (by omega), a2 j hj]
theorem cp_wset {d o : Nat} {i : Int32} {v : Int64} {s : cf_S} {A : am_A} (hH : cf_H s A) (ho : cf_cls o = some 11) : am_R sL sx d 281 (0, [(0, .ref o), (1, .int i), (2, .long v)], [], A) (fun x A' => x = none ∧ cf_H (wd_s s o i v) A' ∧ cf_F A A') := by
  obtain ⟨f, a1, a2, hn, hs, _⟩ := cf_r11n hH ho
  have h0 := am_ob_of (hH.1 o 11 ho)
  rw [cf_fs11] at h0
  have hpl := hH.2.2.2.2.2.1
  refine am_R_imp (c_Words_set (i := i) (v := v) h0 (am_la_of a1) hs (by show cf_n s o < _; omega)) (fun x A' h => ⟨h.1, ?_⟩)
  rcases h.2 with ⟨z, e⟩ | ⟨z, e⟩
  · rw [e]
    have : wd_s s o i v = s := by
      unfold wd_s
      have : (fun p j => if p = o ∧ j = i.toNatClampNeg ∧ ¬ (i < 0 ∨ nI (cf_n s o) ≤ i) then v else s.2.2.2.2.1 p j) = s.2.2.2.2.1 := by
        funext p j
        rw [if_neg (fun y => y.2.2 z)]
      rw [this]
    rw [this]
    exact ⟨hH, cf_F.rf⟩
  · rw [e]
    have z' : ¬ (i < 0 ∨ nI (cf_n s o) ≤ i) := z
    obtain ⟨j, hj, rfl⟩ := cf_int (R := cf_n s o) (fun y => z (Or.inl y)) (fun y => z (Or.inr y)) (by omega)
    have hothG : ∀ p, p ≠ o → cf_g (wd_s s o (nI j) v) p = cf_g s p := by
      intro p hpo; funext i; rw [wd_s_g]; simp [hpo]
    refine ⟨cf_H_mk o hH (fun p c hp => ?_) (fun p hp hpo => ⟨rfl, rf_at_up (fun y => hpo (hH.2.2.2.2.1 _ _ hp (Or.inr (Or.inr ho)) y)), rfl, rfl, rfl, rfl, hothG p hpo⟩) (fun z => by rw [ho] at z; cases z) (fun z => by rw [ho] at z; cases z) (fun _ => ?_) (fun p hp hpo ho' z => hpo (hH.2.2.2.2.1 _ _ hp ho' z.symm)) (fun z => hpl o z) (fun z => hH.2.2.2.2.2.2.1 o z) hH.2.2.2.2.2.2.2.1 (by rw [cf_at_len]; exact hH.2.2.2.2.2.2.2.2.1) hH.2.2.2.2.2.2.2.2.2.1 hH.2.2.2.2.2.2.2.2.2.2.1 hH.2.2.2.2.2.2.2.2.2.2.2, cf_F.up (cf_pl_F (hpl o (Or.inr (Or.inr ho))))⟩
    · rw [rf_at_up (cf_cls_pl hp (hpl o (Or.inr (Or.inr ho)))), hH.1 p c hp, cf_fs_eq (s := s) (s' := wd_s s o (nI j) v) (fun _ => rfl) (fun _ => rfl) rfl (fun _ => rfl)]
    · refine ⟨vp_updL f (nI j).toNatClampNeg v, rf_at_self a1, fun i hi => ?_⟩
      rw [wd_s_g, nI_clamp (by omega)]
      by_cases hij : i = j
      · subst hij
        rw [if_pos ⟨rfl, rfl, z'⟩]
        simp [vp_updL]
      · rw [if_neg (fun y => hij y.2.1)]
        simp only [vp_updL, if_neg hij]
        exact a2 i hi
/-- Words.fit -/
abbrev wd_gr (s : cf_S) (o : Nat) (m : Int32) : Prop := ¬ (m ≤ nI (cf_n s o) ∨ nI 1048576 < m)
def wd_f (s : cf_S) (o : Nat) (m : Int32) : cf_S := (s.1, s.2.1, s.2.2.1, s.2.2.2.1, fun p i => if p = o ∧ cf_n s o ≤ i ∧ wd_gr s o m then 0 else s.2.2.2.2.1 p i, fun p => if p = o ∧ wd_gr s o m then cf_N s else cf_q s p, fun p => if p = o ∧ wd_gr s o m then m.toNatClampNeg * 2 else cf_n s p, cf_h s, if wd_gr s o m then cf_N s + 1 else cf_N s, if wd_gr s o m then cf_Z s + m.toNatClampNeg * 2 else cf_Z s)
theorem wd_f_g {s : cf_S} {o p i : Nat} {m : Int32} : cf_g (wd_f s o m) p i = if p = o ∧ cf_n s o ≤ i ∧ wd_gr s o m then 0 else cf_g s p i := rfl
theorem wd_f_q {s : cf_S} {o p : Nat} {m : Int32} : cf_q (wd_f s o m) p = if p = o ∧ wd_gr s o m then cf_N s else cf_q s p := rfl
theorem wd_f_n {s : cf_S} {o p : Nat} {m : Int32} : cf_n (wd_f s o m) p = if p = o ∧ wd_gr s o m then m.toNatClampNeg * 2 else cf_n s p := rfl
theorem wd_f_N {s : cf_S} {o : Nat} {m : Int32} : cf_N (wd_f s o m) = if wd_gr s o m then cf_N s + 1 else cf_N s := rfl
theorem wd_f_Z {s : cf_S} {o : Nat} {m : Int32} : cf_Z (wd_f s o m) = if wd_gr s o m then cf_Z s + m.toNatClampNeg * 2 else cf_Z s := rfl
theorem cp_fit {d o : Nat} {m : Int32} {s : cf_S} {A : am_A} (hH : cf_H s A) (ho : cf_cls o = some 11) (hroom : cf_N s + 1 < 1000000000) : am_R sL sx d 279 (0, [(0, .ref o), (1, .int m)], [], A) (fun x A' => x = none ∧ cf_H (wd_f s o m) A' ∧ cf_F A A') := by
  obtain ⟨f, a1, a2, hn, hs, _⟩ := cf_r11n hH ho
  have h0 := am_ob_of (hH.1 o 11 ho)
  rw [cf_fs11] at h0
  have hpl := hH.2.2.2.2.2.1
  have hN := hH.2.2.2.2.2.2.2.2.1
  have hZ := hH.2.2.2.2.2.2.2.2.2.1
  have hN2 := hH.2.2.2.2.2.2.2.2.2.2.2
  refine am_R_imp (c_Words_fit (m := m) h0 (am_la_of a1) hs (by omega) hn) (fun x A' h => ⟨h.1, ?_⟩)
  rcases h.2 with ⟨z, e⟩ | ⟨z, f', g1, g2, e⟩
  · rw [e]
    have hgr : ¬ wd_gr s o m := fun y => y z
    have : wd_f s o m = s := by
      unfold wd_f
      simp only [hgr, and_false, if_false]
    rw [this]
    exact ⟨hH, cf_F.rf⟩
  · rw [e]
    have hgr : wd_gr s o m := z
    have hothG : ∀ p, p ≠ o → cf_g (wd_f s o m) p = cf_g s p := by
      intro p hpo; funext i; rw [wd_f_g]; simp [hpo]
    have eq1 : ∀ p, p ≠ o → cf_q (wd_f s o m) p = cf_q s p := by intro p hpo; rw [wd_f_q]; simp [hpo]
    have eq2 : cf_q (wd_f s o m) o = A.1.length := by rw [wd_f_q, if_pos ⟨rfl, hgr⟩, hN]
    have en1 : ∀ p, p ≠ o → cf_n (wd_f s o m) p = cf_n s p := by intro p hpo; rw [wd_f_n]; simp [hpo]
    have en2 : cf_n (wd_f s o m) o = m.toNatClampNeg * 2 := by rw [wd_f_n, if_pos ⟨rfl, hgr⟩]
    have eN1 : cf_N (wd_f s o m) = cf_N s + 1 := by rw [wd_f_N, if_pos hgr]
    have eZ1 : cf_Z (wd_f s o m) = cf_Z s + m.toNatClampNeg * 2 := by rw [wd_f_Z, if_pos hgr]
    have hoA : o ≠ A.1.length := by have := cf_cls_lt ho; omega
    have hM : m.toNatClampNeg ≤ 1048576 := by
      have h2 : m ≤ nI 1048576 := Int32.not_lt.mp (fun y => z (Or.inr y))
      by_cases h0 : m < 0
      · have : m.toNatClampNeg = 0 := by
          have h1 := Int32.lt_iff_toInt_lt.mp h0
          have h3 : (0 : Int32).toInt = 0 := rfl
          rw [h3] at h1
          rw [← Int32.toNat_toInt]
          omega
        omega
      · obtain ⟨j, hj, rfl⟩ := nI_of h0
        rw [nI_clamp hj]
        exact (nI_leI hj (by omega)).mp h2
    refine ⟨cf_H_mk o hH (fun p c hp => ?_) (fun p hp hpo => ⟨eq1 p hpo, ?_, en1 p hpo, rfl, rfl, rfl, hothG p hpo⟩) (fun z => by rw [ho] at z; cases z) (fun z => by rw [ho] at z; cases z) (fun _ => ?_) (fun p hp hpo ho' z => ?_) (fun z => by rw [eq2]; exact Or.inr (by omega)) (fun z => by rw [en2]; omega) hH.2.2.2.2.2.2.2.1 (by rw [cf_at_len, eN1]; unfold am_app; simp [hN]) (by rw [eZ1, ← hZ]; rfl) (by rw [eN1]; exact hroom) (by rw [eN1]; omega), cf_F.tr (cf_F.app (by omega)) (cf_F.up (Or.inl (cf_cls_lt ho)))⟩
    · by_cases hpo : p = o
      · subst hpo
        rw [ho] at hp
        cases hp
        rw [rf_at_self (am_app_lt (hH.1 p 11 ho)), cf_fs11, eq2]
      · rw [rf_at_up hpo, am_app_lt (hH.1 p c hp), cf_fs_eq (s' := wd_f s o m)]
        · intro b; rfl
        · intro b; rfl
        · exact eq1 p hpo
        · intro b; rfl
    · obtain ⟨e, he⟩ := cf_hex hH hp
      rw [rf_at_up (cf_cls_pl ho (hpl p hp)).symm, am_app_lt he, he]
    · refine ⟨f', ?_, fun i hi => ?_⟩
      · rw [eq2, en2, rf_at_up hoA.symm]; exact am_app_eq
      · rw [wd_f_g]
        by_cases hin : i < cf_n s o
        · rw [if_neg (fun y => by have := y.2.1; omega), g1 i hin]
          exact a2 i hin
        · rw [if_pos ⟨rfl, by omega, hgr⟩]
          exact g2 i (by omega)
    · rw [eq2] at z
      obtain ⟨e, he⟩ := cf_hex hH hp
      have := cf_at_lt he
      omega
/-- Heap.beginMove -/
def hp_sw (s : cf_S) : cf_S := (cf_ui s.1 26 3 0, s.2.1, s.2.2.1, s.2.2.2.1, s.2.2.2.2.1, s.2.2.2.2.2.1, s.2.2.2.2.2.2.1, 56 - cf_h s, s.2.2.2.2.2.2.2.2)
theorem cp_sw {d : Nat} {s : cf_S} {A : am_A} (hH : cf_H s A) : am_R sL sx d 143 (0, [(0, .ref 26)], [], A) (fun x A' => x = none ∧ cf_H (hp_sw s) A' ∧ cf_F A A') := by
  have ho : cf_cls 26 = some 4 := rfl
  have h0 := am_ob_of (hH.1 26 4 ho)
  rw [cf_fs4] at h0
  have hh := hH.2.2.2.2.2.2.2.1
  have hno : ¬ cf_ow 26 := by rintro (z | z | z) <;> cases z
  refine am_R_imp (c_beginMove h0) (fun x A' h => ⟨h.1, ?_⟩)
  rw [h.2]
  have e26 : ∀ p, p ≠ 26 → ∀ b, cf_rf (hp_sw s) p b = cf_rf s p b := by
    intro p hp b
    unfold cf_rf
    rw [if_neg hp, if_neg hp]
  have hoth : ∀ p, p ≠ 26 → (hp_sw s).1 p = s.1 p := by
    intro p hp; funext b; unfold hp_sw cf_ui; simp [hp]
  refine ⟨cf_H_mk 26 hH (fun p c hp => ?_) (fun p hp hpo => ⟨rfl, rf_at_up (cf_cls_pl ho (hH.2.2.2.2.2.1 p hp)).symm, rfl, hoth p hpo, rfl, rfl, rfl⟩) (fun z => absurd (Or.inl z) hno) (fun z => absurd (Or.inr (Or.inl z)) hno) (fun z => absurd (Or.inr (Or.inr z)) hno) (fun _ _ _ z => absurd z hno) (fun z => absurd z hno) (fun z => absurd z hno) (by show 56 - cf_h s = 27 ∨ 56 - cf_h s = 29; omega) (by rw [cf_at_len]; exact hH.2.2.2.2.2.2.2.2.1) hH.2.2.2.2.2.2.2.2.2.1 hH.2.2.2.2.2.2.2.2.2.2.1 hH.2.2.2.2.2.2.2.2.2.2.2, cf_F.up (Or.inl (by decide))⟩
  by_cases hpo : p = 26
  · subst hpo
    rw [ho] at hp
    cases hp
    rw [rf_at_self (hH.1 26 4 ho), cf_fs4]
    have e1 : cf_rf (hp_sw s) 26 0 = cf_rf s 26 1 := rfl
    have e2 : cf_rf (hp_sw s) 26 1 = cf_rf s 26 0 := by
      show 56 - (56 - cf_h s) = cf_h s
      omega
    rw [e1, e2]
    rfl
  · rw [rf_at_up hpo, hH.1 p c hp, cf_fs_eq (s := s) (s' := hp_sw s) (fun b => by rw [hoth p hpo]) (fun _ => rfl) rfl (e26 p hpo)]
/-- Bytes.addLetters of the one text -/
def by_L (s : cf_S) (o : Nat) : cf_S := am_txt.foldl (fun s c => by_a s o c) s
theorem cp_let_loop {d o : Nat} (hd : 8 ≤ d) (ho : cf_cls o = some 3) {Q : Option Value → am_A → Prop} : ∀ (k j : Nat) (s : cf_S) (A : am_A), j + k = 24 → cf_H s A →
    (∀ A', cf_H ((am_txt.drop j).foldl (fun s c => by_a s o c) s) A' → cf_F A A' → Q none A') →
    am_R sL sx (d + 1) 124 (2, [(2, .int (nI j)), (0, .ref o), (1, .ref 1000000001)], [], A) Q := by
  intro k
  induction k with
  | zero =>
    intro j s A hj hH K
    obtain rfl : j = 24 := by omega
    refine am_R_w rp_124 (rf_bk am_t124 2 2) 2 _ _ _ (by repeat (first | exact trivial | refine ⟨rfl, ?_⟩)) (by decide +kernel) ?_
    refine am_R_sp (pc := 4) (q := ([.ref 1000000001], [.int (nI 24)])) (w := some (.int 24)) rp_124 rfl rfl (by decide) rfl (Nat.le_of_ble_eq_true rfl) hd rfl ?_
    refine am_R_w rp_124 (rf_bk am_t124 5 1) 7 _ _ _ ⟨rfl, trivial⟩ (by decide) ?_
    refine am_R_ifb (b := am_cnd .ge (nI 24) 24) (p := 25) (q := 10) (fun _ => ?_) (fun h => absurd h (by decide))
    exact am_R_re (pc := 25) rp_124 rfl rfl rfl (K A hH cf_F.rf)
  | succ k ih =>
    intro j s A hj hH K
    have hj24 : j < 24 := by omega
    refine am_R_w rp_124 (rf_bk am_t124 2 2) 2 _ _ _ (by repeat (first | exact trivial | refine ⟨rfl, ?_⟩)) (by decide +kernel) ?_
    refine am_R_sp (pc := 4) (q := ([.ref 1000000001], [.int (nI j)])) (w := some (.int 24)) rp_124 rfl rfl (by decide) rfl (Nat.le_of_ble_eq_true rfl) hd rfl ?_
    refine am_R_w rp_124 (rf_bk am_t124 5 1) 7 _ _ _ ⟨rfl, trivial⟩ (by decide) ?_
    refine am_R_ifb (b := am_cnd .ge (nI j) 24) (p := 25) (q := 10) (fun h => absurd (of_decide_eq_true h) (nI_ge (b := 24) hj24 (by omega))) (fun _ => ?_)
    refine am_R_w rp_124 (rf_bk am_t124 6 3) 10 _ _ _ (by repeat (first | exact trivial | refine ⟨rfl, ?_⟩)) (by decide +kernel) ?_
    have hsp : am_sp 10002 [.ref 1000000001, .int (nI j)] = some (some (.int (am_txt.getD j 0))) := by
      unfold am_sp
      dsimp only
      rw [if_pos ⟨rfl, rfl, nI_in hj24 (by omega)⟩, nI_clamp (by omega)]
    refine am_R_sp (pc := 13) (q := ([.ref 1000000001, .int (nI j)], [.ref o])) (w := some (.int (am_txt.getD j 0))) rp_124 rfl rfl (by decide) rfl (Nat.le_of_ble_eq_true rfl) hd hsp ?_
    have hrc : am_rc 0 (.invokevirtual 23) A [.ref o, .int (am_txt.getD j 0)] 3 = true := by
      unfold am_rc
      dsimp only
      rw [am_ob_of (hH.1 o 3 ho)]
      rfl
    refine am_R_call (pc := 16) (q := ([.ref o, .int (am_txt.getD j 0)], [])) rp_124 rfl rfl (by decide) rp_122 rfl (Nat.le_of_ble_eq_true rfl) ⟨hrc, Nat.le_of_ble_eq_true rfl⟩ (cp_add hH ho) (fun v A' h => ?_)
    obtain ⟨rfl, h1, h2⟩ := h
    refine am_R_w rp_124 (rf_bk am_t124 11 2) 19 _ _ _ (by repeat (first | exact trivial | refine ⟨rfl, ?_⟩)) (by decide +kernel) ?_
    show am_R sL sx (d + 1) 124 (2, [(2, .int (nI j + Int32.ofInt 1)), (0, .ref o), (1, .ref 1000000001)], [], A') Q
    rw [rf_o1, nI_1]
    refine ih (j + 1) _ A' (by omega) h1 (fun A2 h3 h4 => K A2 ?_ (h2.tr h4))
    have e : am_txt.drop j = am_txt.getD j 0 :: am_txt.drop (j + 1) := by
      have : ∀ i, i < 24 → am_txt.drop i = am_txt.getD i 0 :: am_txt.drop (i + 1) := by decide
      exact this j hj24
    rw [e]
    exact h3
theorem cp_let {d o : Nat} (hd : 8 ≤ d) {s : cf_S} {A : am_A} (hH : cf_H s A) (ho : cf_cls o = some 3) : am_R sL sx (d + 1) 124 (0, [(0, .ref o), (1, .ref 1000000001)], [], A) (fun x A' => x = none ∧ cf_H (by_L s o) A' ∧ cf_F A A') := by
  refine am_R_w rp_124 (rf_bk am_t124 0 2) 0 _ _ _ (by repeat (first | exact trivial | refine ⟨rfl, ?_⟩)) (by decide +kernel) ?_
  exact cp_let_loop hd ho 24 0 s A rfl hH (fun A' h1 h2 => ⟨rfl, h1, h2⟩)
end CW
