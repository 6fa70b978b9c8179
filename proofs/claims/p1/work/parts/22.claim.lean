/-! PART 22: the claim out of the pure run -/
theorem js_gT {n : MethodName} {ws : List Jvm.Cond} (h : GoodIn (am_Ts.filter goodWord) ws) : GoodIn am_Ts ws := fun w hw => ⟨(List.mem_filter.mp (h w hw).1).1, (h w hw).2⟩
set_option maxHeartbeats 2000000 in
theorem js_okS {l : Launch} {bs sa av : Nat} : am_okS l am_Ts bs (am_spA sa) (js_X bs sa av) am_slk := by
  intro p e R s m args below meth c H locs cells slots Q cc pc nL ls st own ins a b q w hx hb hml hls hown hts hX hslk hca hcat hsp hd hS hbs hfr hlo hc1 hc2 kk
  obtain ⟨i, rfl, hmem⟩ := hslk
  rcases am_ca_inv hca with ⟨⟨i', hi'⟩, _⟩ | ⟨_, o, As, hAs, hq1, rfl⟩
  · cases hi'
  rw [hq1] at hsp
  have hm : (a, own, i, b) = (10001, "LazyHouse$Bytes", 27, 0) ∨ (a, own, i, b) = (10001, "LazyHouse$Program", 13, 0) ∨ (a, own, i, b) = (10002, "LazyHouse$Bytes", 32, 1) := by
    simpa [am_sls] using hmem
  rcases hm with hm | hm | hm
  · cases hm
    obtain rfl : As = [] := List.length_eq_zero_iff.mp hAs
    unfold am_spA at hsp
    dsimp only at hsp
    by_cases ho : 10001 = 10001 ∧ o = sa
    · rw [if_pos ho] at hsp
      cases hsp
      obtain ⟨-, rfl⟩ := ho
      exact W.callR (W.runV (own := "LazyHouse$Bytes") (C := "java/lang/String") (As := []) (rest := q.2) (g := F0 m pc ls (.ref o :: q.2)) ⟨hx, hb, hml, hown, hts⟩ (js_c_length l bs o av) ⟨callB_of 0 hts (js_gT (n := js_y_length) js_g_length) rfl rfl rfl (hts _ (am_Tf_ok 1004 _ rfl rfl)) (hts _ (am_Tf_ok 2154 _ rfl rfl)) js_h_length ⟨by show 1 + 1 ≤ _; omega, by show 8 + (1 + 11) + 20 ≤ _; omega⟩, hts _ (am_Tf_ok 1052 _ rfl rfl), hts _ (am_Tf_ok 1053 _ rfl rfl)⟩ ⟨js_bl, vk_recv (adK := fun _ => o) (i := 0) hX.2.1 (by decide) hS, js_pre hX hS hbs⟩ rfl rfl hls rfl (lv_room hcat) hd ⟨hc1, hc2⟩) kk
    · rw [if_neg ho] at hsp; cases hsp
  · cases hm
    obtain rfl : As = [] := List.length_eq_zero_iff.mp hAs
    unfold am_spA at hsp
    dsimp only at hsp
    by_cases ho : 10001 = 10001 ∧ o = sa
    · rw [if_pos ho] at hsp
      cases hsp
      obtain ⟨-, rfl⟩ := ho
      exact W.callR (W.runV (own := "LazyHouse$Program") (C := "java/lang/String") (As := []) (rest := q.2) (g := F0 m pc ls (.ref o :: q.2)) ⟨hx, hb, hml, hown, hts⟩ (js_c_length l bs o av) ⟨callB_of 0 hts (js_gT (n := js_y_length) js_g_length) rfl rfl rfl (hts _ (am_Tf_ok 1004 _ rfl rfl)) (hts _ (am_Tf_ok 1051 _ rfl rfl)) js_h_length ⟨by show 1 + 1 ≤ _; omega, by show 8 + (1 + 11) + 20 ≤ _; omega⟩, hts _ (am_Tf_ok 1052 _ rfl rfl), hts _ (am_Tf_ok 1053 _ rfl rfl)⟩ ⟨js_bl, vk_recv (adK := fun _ => o) (i := 0) hX.2.1 (by decide) hS, js_pre hX hS hbs⟩ rfl rfl hls rfl (lv_room hcat) hd ⟨hc1, hc2⟩) kk
    · rw [if_neg ho] at hsp; cases hsp
  · cases hm
    obtain ⟨v, rfl⟩ : ∃ v, As = [v] := List.length_eq_one_iff.mp hAs
    unfold am_spA at hsp
    split at hsp
    · rename_i o' hq; cases hq
    · rename_i o' j hq
      cases hq
      by_cases ho : 10002 = 10002 ∧ o = sa ∧ ¬ (j < 0 ∨ 24 ≤ j.toNatClampNeg)
      · rw [if_pos ho] at hsp
        cases hsp
        obtain ⟨-, rfl, hj⟩ := ho
        exact W.callR (W.runV (own := "LazyHouse$Bytes") (C := "java/lang/String") (As := [.int j]) (rest := q.2) (g := F0 m pc ls (.int j :: .ref o :: q.2)) ⟨hx, hb, hml, hown, hts⟩ (js_c_charAt l bs o av j hj) ⟨callB_of 1 hts (js_gT (n := js_y_charAt) js_g_charAt) rfl rfl rfl (hts _ (am_Tf_ok 1004 _ rfl rfl)) (hts _ (am_Tf_ok 2155 _ rfl rfl)) js_h_charAt ⟨by show 3 + 1 ≤ _; omega, by show 8 + (2 + 11) + 64 ≤ _; omega⟩, hts _ (am_Tf_ok 2156 _ rfl rfl), hts _ (am_Tf_ok 2157 _ rfl rfl)⟩ ⟨js_bl, vk_recv (adK := fun _ => o) (i := 0) hX.2.1 (by decide) hS, js_pre hX hS hbs⟩ rfl rfl hls rfl (lv_room hcat) hd ⟨hc1, hc2⟩) kk
      · rw [if_neg ho] at hsp; cases hsp
    · cases hsp
def js_tm : Nat → Term := fun _ => Term.string "LazyHouse$Program" 11
set_option maxHeartbeats 2000000 in
set_option maxRecDepth 100000 in
/-- what the Statement gives of the text -/
theorem js_given {args : Array Value} {s : State} (hs : ∀ w ∈ lw_tbl, w.before args s = true) (hgv : (Jvm.Cond.and given_1 narrow_1).before args s = true) : ∃ sa av, js_X s.heap.size sa av s s.heap := by
  have hf := flat_of_before _ hgv
  have hA : ∀ a : Nat, a < s.heap.size → ¬ (fun q => s.heap.size ≤ q) a := fun a h => Nat.not_le.mpr h
  have hel : ∀ j : Nat, j < 24 → (Jvm.Cond.eq (.elem (.field (Term.string "LazyHouse$Program" 11) "java/lang/String" "value" "[B") (.int (Int32.ofNat j))) (.int (am_txt.getD j 0))).before args s = true := fun j hj => match j, hj with
    | 0, _ => hf _ (by decide +kernel)
    | 1, _ => hf _ (by decide +kernel)
    | 2, _ => hf _ (by decide +kernel)
    | 3, _ => hf _ (by decide +kernel)
    | 4, _ => hf _ (by decide +kernel)
    | 5, _ => hf _ (by decide +kernel)
    | 6, _ => hf _ (by decide +kernel)
    | 7, _ => hf _ (by decide +kernel)
    | 8, _ => hf _ (by decide +kernel)
    | 9, _ => hf _ (by decide +kernel)
    | 10, _ => hf _ (by decide +kernel)
    | 11, _ => hf _ (by decide +kernel)
    | 12, _ => hf _ (by decide +kernel)
    | 13, _ => hf _ (by decide +kernel)
    | 14, _ => hf _ (by decide +kernel)
    | 15, _ => hf _ (by decide +kernel)
    | 16, _ => hf _ (by decide +kernel)
    | 17, _ => hf _ (by decide +kernel)
    | 18, _ => hf _ (by decide +kernel)
    | 19, _ => hf _ (by decide +kernel)
    | 20, _ => hf _ (by decide +kernel)
    | 21, _ => hf _ (by decide +kernel)
    | 22, _ => hf _ (by decide +kernel)
    | 23, _ => hf _ (by decide +kernel)
    | j + 24, h => absurd h (by omega)
  have a1 : ∀ i : Nat, i < 1 → [24].getD i 0 < 2 ^ 31 := by
    intro i hi
    obtain rfl : i = 0 := by omega
    decide
  have a4 : ∀ i : Nat, i < 1 → (Jvm.Cond.eq (.length (.field (js_tm i) "java/lang/String" "value" "[B")) (.int (Int32.ofNat ([24].getD i 0)))).before args s = true := by
    intro i hi
    obtain rfl : i = 0 := by omega
    exact hf _ (by unfold js_tm; decide +kernel)
  have a5 : ∀ i : Nat, i < 1 → ∀ j : Nat, j < [24].getD i 0 → (Jvm.Cond.eq (.elem (.field (js_tm i) "java/lang/String" "value" "[B") (.int (Int32.ofNat j))) (.int (([am_txt].getD i []).getD j 0))).before args s = true := by
    intro i hi j hj
    obtain rfl : i = 0 := by omega
    exact hel j hj
  obtain ⟨adK, adV, h1, h2⟩ := vk_Sof (args := args) (s := s) (N := 1) (tm := js_tm) (len := [24]) (byt := [am_txt]) (A := fun q => s.heap.size ≤ q) a1
    (fun i hi => hf _ (by unfold js_tm; decide +kernel)) (fun i hi => hf _ (by unfold js_tm; decide +kernel)) (fun i hi => hf _ (by unfold js_tm; decide +kernel)) a4 a5
    (fun i j hi hj hne => absurd (show i = j by omega) hne) hA
  refine ⟨adK 0, adV 0, vk_R.of (hs _ (List.mem_append_right _ (List.mem_append_left _ (List.mem_of_getElem? (i := 50) rfl)))) (h2 0 (by decide)), ⟨fun i hi => ?_, fun i j hi hj _ => by omega⟩, va_Zof (hs _ (List.mem_append_right _ (List.mem_append_left _ (List.mem_of_getElem? (i := 60) rfl)))) (hs _ (am_Ts_in _ (am_Tf_ok 1004 _ rfl rfl))) (va_eqi (hf _ (by decide +kernel))) hA, va_Zqof (hs _ (List.mem_append_right _ (List.mem_append_right _ (List.mem_append_left _ (List.mem_of_getElem? (i := 170) rfl))))) (hs _ (am_Ts_in _ (am_Tf_ok 1015 _ rfl rfl))) (hf _ (by decide +kernel)) hA, Nat.le_refl _⟩
  obtain rfl : i = 0 := by omega
  exact h1.1 0 (by decide)
/-- THE LAW, from its entry, out of the pure run -/
theorem whole_startP (hpure : am_Pure) {p : Program} {e : Env} {s : State} {m : MethodId} {below : List Frame} {meth : Method} {c : Code} (l : Launch) {b L : Nat} {xs : Nat → Int32} (hL : L ≤ 6) (C0 : lw_At p s m meth c b L xs) (hmn : meth.name = "law") : W p l e room_1 s m #[Value.ref b] below meth c s.heap [] 0 0 (lw_Z below #[Value.ref b] s) (entryFrame m ([Value.ref b] : List Value).toArray 4) := by
  obtain ⟨sa, av, hX⟩ := js_given (args := #[Value.ref b]) C0.2.2.2.2.2.1 C0.2.2.2.2.2.2.2.2.2
  exact whole_start_open l hL C0 hmn (js_X s.heap.size sa av) sa js_okX hX js_okT js_okS hpure
set_option maxHeartbeats 4000000 in
theorem lw_walk (hpure : am_Pure) (l : Launch) (b : Addr) (xs : List Int32) : MetFree l x (headSpec (Jvm.Cond.code x code maxLocals ret :: tables_1) room_1) (lw_P b xs) (fun _ _ _ _ _ => True) lw_Q := by
  refine MetFree.of_bodyS (code := code) (maxLocals := maxLocals) (ret := ret) (by decide) ?_ ?_
  · intro args s m h hn
    obtain ⟨meth, c, h1, h2, h3, h4, h5, h6, -, -⟩ := Cond.code_spec hn (atoms_spec (ws := Jvm.Cond.code x code maxLocals ret :: tables_1) h _ List.mem_cons_self)
    exact ⟨meth, c, h1, h2, h3, h4, h5, h6⟩
  · intro p e s m args below meth c s₁ B hml0 hP _
    obtain ⟨rfl, hx, hbd, hgv⟩ := hP
    obtain ⟨scr, harrAt, hlist, hof, hsmall⟩ := hx
    obtain ⟨hcb, hkn, -, -⟩ := State.arrayAt?_spec harrAt
    have hown : s.vm.findClass R_law = some m.cls := findClass_of_methodNamed B.named
    have hts0 : ∀ c ∈ (Jvm.Cond.code x code maxLocals ret :: tables_1), c.before #[Value.ref b] s = true := atoms_spec (ws := Jvm.Cond.code x code maxLocals ret :: tables_1) B.pre
    have hts : ∀ w ∈ lw_tbl, w.before #[Value.ref b] s = true := k2_hts_sels lw_privs (fun w hw => hts0 w (List.mem_cons_of_mem _ hw)) lw_privs_ok
    have hml : c.maxLocals = 4 := B.maxLocals_eq (hts0 _ List.mem_cons_self)
    have X₀ : Stand p l e room_1 s m #[Value.ref b] below meth c s₁ [] 0 0 := Stand.of_body B
    have hh0 : s₁.heap = s.heap := by rw [B.state]; rfl
    have hsz : scr.slots.size = xs.length := by rw [← Array.length_toList, hlist, List.length_map]
    have hval : ∀ j : Nat, j < xs.length → scr.slots[j]? = some (.int (xs.getD j 0)) := fun j hj => by
      rw [← Array.getElem?_toList, hlist]
      simp [hj]
    have hbl : b < s.heap.size := (Array.getElem?_eq_some_iff.mp hcb).1
    have hX : va_X b xs.length (fun j => xs.getD j 0) s s.heap := ⟨scr, hcb, hof, hkn, hsz, hval⟩
    have K : W p l e room_1 s m #[Value.ref b] below meth c s₁.heap [] 0 0 (lw_Z below #[Value.ref b] s) (entryFrame m ([Value.ref b] : List Value).toArray 4) := by
      rw [hh0]
      exact whole_startP hpure l hbd ⟨B.exec, B.bytes, B.returns, hml, hown, hts, hX, hbl, B.notSynchronized, hgv⟩ (name_of_methodNamed B.named B.method).1
    obtain ⟨t, a1, o, b1, b2, b3⟩ := K s₁ rfl X₀
    exact ⟨t, o, a1, b1, b2, b3⟩
theorem lw_pre_spec {args : Array Value} {s : State} (h : (Jvm.Cond.and given_1 narrow_1).before args s = true) (hr : rest_1_c.before args s = true) : ∃ (b : Addr) (xs : List Int32), lw_P b xs args s := by
  have hs := flat_of_before _ h
  have hq := flat_of_before _ hr
  have hc : (Cond.count 1).before args s = true := hs _ (by decide +kernel)
  have harr : (Cond.arrayOf (.arg 0) .int).before args s = true := hs _ (by decide +kernel)
  have hle : (Cond.le (.length (.arg 0)) (.int 6)).before args s = true := hs _ (by decide +kernel)
  have hlen : (Cond.isInt (.length (.arg 0))).before args s = true := hq _ (by decide +kernel)
  have hall : (Cond.all (.arg 0) (.isInt (.elem (.arg 0) (.index 0)))).before args s = true := hq _ (by decide +kernel)
  obtain ⟨b, xs, hb, hx⟩ := State.ints_of_pre rfl harr hlen hall
  have hsm : xs.length < 2 ^ 31 := hx.choose_spec.2.2.2
  have hev : (Term.length (.arg 0)).eval args s none [] s = some (.int xs.length.toInt32) := hx.length_eval hb
  have hv := Cond.le_ints hev (show (Term.int 6).eval args s none [] s = some (.int 6) from rfl)
  have hd : xs.length.toInt32 ≤ 6 := by
    simpa [Cond.before, Cond.holds, hv] using hle
  have hN : xs.length ≤ 6 := (Int32.ofNat_le_ofNat hsm (by decide)).mp (show Int32.ofNat xs.length ≤ Int32.ofNat 6 from hd)
  exact ⟨b, xs, Cond.one_arg hc (show args[0]? = some (.ref b) from hb), hx, hN, h⟩
theorem lw_comes (hpure : am_Pure) (l : Launch) : Comes l x (Jvm.Cond.code x code maxLocals ret :: tables_1) room_1 (fun tb e args s => Calls_1 tb e args s ∧ rest_1 tb e args s ∧ Pre_1 tb e args s)
    (fun _ _ args s o t => lw_Q args s o t) := by
  intro p e ha hc hk s m args below hf hfit hheap happ hpre
  obtain ⟨b, xs, hP⟩ := lw_pre_spec hpre.2.2 hpre.2.1
  obtain ⟨k, o, h1, h2, h3, hQ⟩ := lw_walk hpure l b xs p e ha hc hk s m args below hf ((Spec.applies_iff_loose hf).mp happ).1 hP trivial
  exact ⟨k, o, h1, h2, h3, hQ⟩
theorem lw_frame {s t : State} {o : Outcome} {args : Array Value} (h : Framed s o t [] 600000 7302250) :
    Framed s o t (fieldLocs frame_1_writes args s ++ arrayLocs frame_1_arrays args s ++ staticLocs frame_1_statics s) 600000 7302250 := h
theorem lw_limb (hpure : am_Pure) (L : Cond) (hL : ∀ (args : Array Value) (s t : State), L.after args s (.returned (some (.int 1))) t = true) :
    ArmFor flags0 classFile x code maxLocals ret World_1 tables_1 room_1 Calls_1 rest_1 Pre_1
      (fun tb e a s o t => postC L tb e a s o t ∧ Framed s o t (fieldLocs frame_1_writes a s ++ arrayLocs frame_1_arrays a s ++ staticLocs frame_1_statics s) 600000 7302250) := by
  intro l _ _ _ p e ha hc hk s m args below hf hfit hheap happ hpre
  obtain ⟨k, o, h1, h2, h3, rfl, hF⟩ := lw_comes hpure l p e ha hc hk s m args below hf hfit hheap happ hpre
  exact ⟨k, _, h1, h2, h3, hL args s _, lw_frame hF⟩
theorem i_vc_open (hpure : am_Pure) : Claimed_1_1 ∧ Claimed_1_2 := ⟨lw_limb hpure limb_1_1 (fun args s t => by simp [limb_1_1, Cond.after, Cond.holds, Cond.value]), lw_limb hpure limb_1_2 (fun args s t => Cond.after_iff.mpr (by
  first | (rw [show limb_1_2 = Cond.eq .result (.int 1) from rfl, Cond.eq_ints (x := 1) (y := 1) rfl rfl]; simp; done) | (simp [limb_1_2, Cond.value, Term.eval]; done)))⟩
