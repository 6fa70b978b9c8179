/-! PART 21: the one text of the system: String.length and String.charAt of it -/
theorem js_G {c : Nat} {w : Jvm.Cond} (h : am_Tf c = some w) (hg : goodWord w = true) : w ∈ am_Ts.filter goodWord := List.mem_filter.mpr ⟨am_Tf_ok c w h (by rw [hg]; rfl), hg⟩
/-- what is known of the text: its place, its letters, what String's statics hold -/
def js_X (bs sa av : Nat) (U : State) (H : Heap) : Prop := vk_R "LazyHouse$Program" 11 "letincaseofmainTrueFalse" sa U ∧ vk_S 1 [24] [am_txt] (fun _ => sa) (fun _ => av) (fun q => bs ≤ q) U H ∧ va_Z "java/lang/String" "COMPACT_STRINGS" "Z" (.int 1) (fun q => bs ≤ q) U H ∧ va_Zq "jdk/internal/util/Preconditions" "SIOOBE_FORMATTER" "Ljava/util/function/BiFunction;" (fun q => bs ≤ q) U H ∧ bs ≤ H.size
theorem js_okX {bs sa av : Nat} : am_okX bs (js_X bs sa av) := by
  intro u U H H' hv hq h
  obtain ⟨h1, h2, h3, h4, h5⟩ := h
  have hal : u.vm.Alike U.vm := hv.elim (fun z => z ▸ Vm.Alike.refl _) (fun w => w.alike)
  have hk : ∀ a : Nat, a < H.size → ¬ (fun q => bs ≤ q) a → H'[a]? = H[a]? := fun a _ ha => hq a (Nat.not_le.mp ha)
  exact ⟨hv.elim (fun z => vk_R.same z.symm h1) (fun w => vk_R.warm w h1), (h2.moved hal).kept hk, (h3.moved hal).kept hk, (h4.moved hal).kept hk, by
    rcases Nat.lt_or_ge H'.size bs with z | z
    · exfalso
      have h6 := hq H'.size z
      rw [Array.getElem?_eq_none (Nat.le_refl _)] at h6
      rw [Array.getElem?_eq_getElem (Nat.lt_of_lt_of_le z h5)] at h6
      cases h6
    · exact z⟩
theorem js_okT {l : Launch} {bs sa av : Nat} : am_okT l sa (js_X bs sa av) am_stx := by
  intro p e R s m args below meth c H locs cells slots Q cc pc ls st own i hx hb hown hX hs hd kk
  have hs' : (i, own) = (11, "LazyHouse$Program") := List.mem_singleton.mp hs
  cases hs'
  exact va_ldcS hx hb hown hX.1 hd kk
abbrev js_Pc (bs sa av : Nat) (vs : List Value) : Array Value → State → Prop := va_Pc vs (fun U => js_X bs sa av U U.heap)
theorem js_bl {bs sa av : Nat} {vs : List Value} : FrameBlind (js_Pc bs sa av vs) := fun a U g mk z => ⟨z.1, js_okX U (U.calling g mk a) U.heap _ (Or.inl rfl) (fun _ _ => rfl) z.2⟩
theorem js_pre {bs sa av : Nat} {vs : List Value} {s : State} {H : Heap} {locs : List Loc} (hX : js_X bs sa av s s.heap) (hS : va_S (fun q => bs ≤ q) s.heap H locs) (hbs : bs ≤ s.heap.size) : ∀ U : State, U.heap = H → s.WarmedH U.vm → js_Pc bs sa av vs vs.toArray U := fun U hU hW => ⟨rfl, js_okX s U s.heap U.heap (Or.inr hW) (fun q hq => by rw [hU]; exact hS.2.1 q (by omega) (Nat.not_le.mpr hq)) hX⟩
def js_Qv : Array Value → State → Outcome → State → Prop := fun _ st o t => o = .returned none ∧ t.heap = st.heap
section JSV
variable {p : Program} {l : Launch} {e : Env} {R : Room} {s : State} {m : MethodId} {args : Array Value} {below : List Frame} {meth : Method} {c : Code} {H : Heap} {locs : List Loc} {cells slots : Nat} {Q : State → Prop}
theorem js_callv {g : JFrame} {rest : List Value} {a : Array Value} (hr : CallRun p l e R s m args below meth c H locs cells slots 0 0 g rest (js_Qv a) (fun _ => False)) (kk : W p l e R s m args below meth c H locs cells slots Q { g with pc := g.pc + 3, stack := rest }) : W p l e R s m args below meth c H locs cells slots Q g := by
  intro T hT X
  obtain ⟨v, st₀, t, T', L, h0, X', hL, e1, ⟨hv, hh⟩, st⟩ := hr T hT X
  cases hv
  obtain ⟨t2, a1, b1⟩ := kk T' (by rw [e1, hh, h0]) (Stand.forget X' (fun q h => (hL q h).elim))
  exact ⟨t2, st t2 a1, b1⟩
end JSV
def js_y_coder : MethodName := ⟨"java/lang/String", "coder", "()B"⟩
abbrev js_w_coder : List Jvm.Cond := Jvm.Cond.code js_y_coder prog_15_method_152_code 1 (some .byte) :: am_Ts.filter goodWord
theorem js_g_coder : GoodIn (am_Ts.filter goodWord) js_w_coder := fun x hx => (List.mem_cons.mp hx).elim (fun z => by subst z; exact ⟨js_G (c := 1058) rfl rfl, good_of_word rfl⟩) (fun z => ⟨z, good_of_word (List.mem_filter.mp z).2⟩)
theorem js_h_coder : js_y_coder.cls ≠ "java/lang/invoke/MethodHandle" ∧ js_y_coder.cls ≠ "java/lang/invoke/VarHandle" ∧ (parseMethodDescriptor js_y_coder.desc).map (fun d => d.parameters.length) = some 0 := ⟨by decide +kernel, by decide +kernel, by decide +kernel⟩
def js_y_length : MethodName := ⟨"java/lang/String", "length", "()I"⟩
abbrev js_w_length : List Jvm.Cond := Jvm.Cond.code js_y_length prog_15_method_54_code 1 (some .int) :: am_Ts.filter goodWord
theorem js_g_length : GoodIn (am_Ts.filter goodWord) js_w_length := fun x hx => (List.mem_cons.mp hx).elim (fun z => by subst z; exact ⟨js_G (c := 1054) rfl rfl, good_of_word rfl⟩) (fun z => ⟨z, good_of_word (List.mem_filter.mp z).2⟩)
theorem js_h_length : js_y_length.cls ≠ "java/lang/invoke/MethodHandle" ∧ js_y_length.cls ≠ "java/lang/invoke/VarHandle" ∧ (parseMethodDescriptor js_y_length.desc).map (fun d => d.parameters.length) = some 0 := ⟨by decide +kernel, by decide +kernel, by decide +kernel⟩
def js_y_isLatin1 : MethodName := ⟨"java/lang/String", "isLatin1", "()Z"⟩
abbrev js_w_isLatin1 : List Jvm.Cond := Jvm.Cond.code js_y_isLatin1 prog_15_method_154_code 1 (some .boolean) :: am_Ts.filter goodWord
theorem js_g_isLatin1 : GoodIn (am_Ts.filter goodWord) js_w_isLatin1 := fun x hx => (List.mem_cons.mp hx).elim (fun z => by subst z; exact ⟨js_G (c := 2162) rfl rfl, good_of_word rfl⟩) (fun z => ⟨z, good_of_word (List.mem_filter.mp z).2⟩)
theorem js_h_isLatin1 : js_y_isLatin1.cls ≠ "java/lang/invoke/MethodHandle" ∧ js_y_isLatin1.cls ≠ "java/lang/invoke/VarHandle" ∧ (parseMethodDescriptor js_y_isLatin1.desc).map (fun d => d.parameters.length) = some 0 := ⟨by decide +kernel, by decide +kernel, by decide +kernel⟩
def js_y_pcheck : MethodName := ⟨"jdk/internal/util/Preconditions", "checkIndex", "(IILjava/util/function/BiFunction;)I"⟩
abbrev js_w_pcheck : List Jvm.Cond := Jvm.Cond.code js_y_pcheck prog_18_method_11_code 3 (some .int) :: am_Ts.filter goodWord
theorem js_g_pcheck : GoodIn (am_Ts.filter goodWord) js_w_pcheck := fun x hx => (List.mem_cons.mp hx).elim (fun z => by subst z; exact ⟨js_G (c := 2173) rfl rfl, good_of_word rfl⟩) (fun z => ⟨z, good_of_word (List.mem_filter.mp z).2⟩)
theorem js_h_pcheck : js_y_pcheck.cls ≠ "java/lang/invoke/MethodHandle" ∧ js_y_pcheck.cls ≠ "java/lang/invoke/VarHandle" ∧ (parseMethodDescriptor js_y_pcheck.desc).map (fun d => d.parameters.length) = some 3 := ⟨by decide +kernel, by decide +kernel, by decide +kernel⟩
def js_y_scheck : MethodName := ⟨"java/lang/String", "checkIndex", "(II)V"⟩
abbrev js_w_scheck : List Jvm.Cond := Jvm.Cond.code js_y_scheck prog_15_method_155_code 2 none :: am_Ts.filter goodWord
theorem js_g_scheck : GoodIn (am_Ts.filter goodWord) js_w_scheck := fun x hx => (List.mem_cons.mp hx).elim (fun z => by subst z; exact ⟨js_G (c := 2168) rfl rfl, good_of_word rfl⟩) (fun z => ⟨z, good_of_word (List.mem_filter.mp z).2⟩)
theorem js_h_scheck : js_y_scheck.cls ≠ "java/lang/invoke/MethodHandle" ∧ js_y_scheck.cls ≠ "java/lang/invoke/VarHandle" ∧ (parseMethodDescriptor js_y_scheck.desc).map (fun d => d.parameters.length) = some 2 := ⟨by decide +kernel, by decide +kernel, by decide +kernel⟩
def js_y_lcharAt : MethodName := ⟨"java/lang/StringLatin1", "charAt", "([BI)C"⟩
abbrev js_w_lcharAt : List Jvm.Cond := Jvm.Cond.code js_y_lcharAt prog_16_method_2_code 2 (some .char) :: am_Ts.filter goodWord
theorem js_g_lcharAt : GoodIn (am_Ts.filter goodWord) js_w_lcharAt := fun x hx => (List.mem_cons.mp hx).elim (fun z => by subst z; exact ⟨js_G (c := 2165) rfl rfl, good_of_word rfl⟩) (fun z => ⟨z, good_of_word (List.mem_filter.mp z).2⟩)
theorem js_h_lcharAt : js_y_lcharAt.cls ≠ "java/lang/invoke/MethodHandle" ∧ js_y_lcharAt.cls ≠ "java/lang/invoke/VarHandle" ∧ (parseMethodDescriptor js_y_lcharAt.desc).map (fun d => d.parameters.length) = some 2 := ⟨by decide +kernel, by decide +kernel, by decide +kernel⟩
def js_y_charAt : MethodName := ⟨"java/lang/String", "charAt", "(I)C"⟩
abbrev js_w_charAt : List Jvm.Cond := Jvm.Cond.code js_y_charAt prog_15_method_56_code 2 (some .char) :: am_Ts.filter goodWord
theorem js_g_charAt : GoodIn (am_Ts.filter goodWord) js_w_charAt := fun x hx => (List.mem_cons.mp hx).elim (fun z => by subst z; exact ⟨js_G (c := 2158) rfl rfl, good_of_word rfl⟩) (fun z => ⟨z, good_of_word (List.mem_filter.mp z).2⟩)
theorem js_h_charAt : js_y_charAt.cls ≠ "java/lang/invoke/MethodHandle" ∧ js_y_charAt.cls ≠ "java/lang/invoke/VarHandle" ∧ (parseMethodDescriptor js_y_charAt.desc).map (fun d => d.parameters.length) = some 1 := ⟨by decide +kernel, by decide +kernel, by decide +kernel⟩
theorem js_coder_0 : decode prog_15_method_152_code 0 = .ok (.getstatic 38, 3) := by decide +kernel
theorem js_coder_3 : decode prog_15_method_152_code 3 = .ok (.ifCond .eq 10, 3) := by decide +kernel
theorem js_coder_6 : decode prog_15_method_152_code 6 = .ok (.aload_n 0, 1) := by decide +kernel
theorem js_coder_7 : decode prog_15_method_152_code 7 = .ok (.getfield 15, 3) := by decide +kernel
theorem js_coder_10 : decode prog_15_method_152_code 10 = .ok (.goto 4, 3) := by decide +kernel
theorem js_coder_14 : decode prog_15_method_152_code 14 = .ok (.ireturn, 1) := by decide +kernel
theorem js_length_0 : decode prog_15_method_54_code 0 = .ok (.aload_n 0, 1) := by decide +kernel
theorem js_length_1 : decode prog_15_method_54_code 1 = .ok (.getfield 9, 3) := by decide +kernel
theorem js_length_4 : decode prog_15_method_54_code 4 = .ok (.arraylength, 1) := by decide +kernel
theorem js_length_5 : decode prog_15_method_54_code 5 = .ok (.aload_n 0, 1) := by decide +kernel
theorem js_length_6 : decode prog_15_method_54_code 6 = .ok (.invokevirtual 335, 3) := by decide +kernel
theorem js_length_9 : decode prog_15_method_54_code 9 = .ok (.ishr, 1) := by decide +kernel
theorem js_length_10 : decode prog_15_method_54_code 10 = .ok (.ireturn, 1) := by decide +kernel
theorem js_isLatin1_0 : decode prog_15_method_154_code 0 = .ok (.getstatic 38, 3) := by decide +kernel
theorem js_isLatin1_3 : decode prog_15_method_154_code 3 = .ok (.ifCond .eq 14, 3) := by decide +kernel
theorem js_isLatin1_6 : decode prog_15_method_154_code 6 = .ok (.aload_n 0, 1) := by decide +kernel
theorem js_isLatin1_7 : decode prog_15_method_154_code 7 = .ok (.getfield 15, 3) := by decide +kernel
theorem js_isLatin1_10 : decode prog_15_method_154_code 10 = .ok (.ifCond .ne 7, 3) := by decide +kernel
theorem js_isLatin1_13 : decode prog_15_method_154_code 13 = .ok (.iconst 1, 1) := by decide +kernel
theorem js_isLatin1_14 : decode prog_15_method_154_code 14 = .ok (.goto 4, 3) := by decide +kernel
theorem js_isLatin1_18 : decode prog_15_method_154_code 18 = .ok (.ireturn, 1) := by decide +kernel
theorem js_pcheck_0 : decode prog_18_method_11_code 0 = .ok (.iload_n 0, 1) := by decide +kernel
theorem js_pcheck_1 : decode prog_18_method_11_code 1 = .ok (.ifCond .lt 8, 3) := by decide +kernel
theorem js_pcheck_4 : decode prog_18_method_11_code 4 = .ok (.iload_n 0, 1) := by decide +kernel
theorem js_pcheck_5 : decode prog_18_method_11_code 5 = .ok (.iload_n 1, 1) := by decide +kernel
theorem js_pcheck_6 : decode prog_18_method_11_code 6 = .ok (.if_icmp .lt 10, 3) := by decide +kernel
theorem js_pcheck_16 : decode prog_18_method_11_code 16 = .ok (.iload_n 0, 1) := by decide +kernel
theorem js_pcheck_17 : decode prog_18_method_11_code 17 = .ok (.ireturn, 1) := by decide +kernel
theorem js_scheck_0 : decode prog_15_method_155_code 0 = .ok (.iload_n 0, 1) := by decide +kernel
theorem js_scheck_1 : decode prog_15_method_155_code 1 = .ok (.iload_n 1, 1) := by decide +kernel
theorem js_scheck_2 : decode prog_15_method_155_code 2 = .ok (.getstatic 1053, 3) := by decide +kernel
theorem js_scheck_5 : decode prog_15_method_155_code 5 = .ok (.invokestatic 1059, 3) := by decide +kernel
theorem js_scheck_8 : decode prog_15_method_155_code 8 = .ok (.pop, 1) := by decide +kernel
theorem js_scheck_9 : decode prog_15_method_155_code 9 = .ok (.return_, 1) := by decide +kernel
theorem js_lcharAt_0 : decode prog_16_method_2_code 0 = .ok (.iload_n 1, 1) := by decide +kernel
theorem js_lcharAt_1 : decode prog_16_method_2_code 1 = .ok (.aload_n 0, 1) := by decide +kernel
theorem js_lcharAt_2 : decode prog_16_method_2_code 2 = .ok (.arraylength, 1) := by decide +kernel
theorem js_lcharAt_3 : decode prog_16_method_2_code 3 = .ok (.invokestatic 9, 3) := by decide +kernel
theorem js_lcharAt_6 : decode prog_16_method_2_code 6 = .ok (.aload_n 0, 1) := by decide +kernel
theorem js_lcharAt_7 : decode prog_16_method_2_code 7 = .ok (.iload_n 1, 1) := by decide +kernel
theorem js_lcharAt_8 : decode prog_16_method_2_code 8 = .ok (.baload, 1) := by decide +kernel
theorem js_lcharAt_9 : decode prog_16_method_2_code 9 = .ok (.sipush 255, 3) := by decide +kernel
theorem js_lcharAt_12 : decode prog_16_method_2_code 12 = .ok (.iand, 1) := by decide +kernel
theorem js_lcharAt_13 : decode prog_16_method_2_code 13 = .ok (.i2c, 1) := by decide +kernel
theorem js_lcharAt_14 : decode prog_16_method_2_code 14 = .ok (.ireturn, 1) := by decide +kernel
theorem js_charAt_0 : decode prog_15_method_56_code 0 = .ok (.aload_n 0, 1) := by decide +kernel
theorem js_charAt_1 : decode prog_15_method_56_code 1 = .ok (.invokevirtual 492, 3) := by decide +kernel
theorem js_charAt_4 : decode prog_15_method_56_code 4 = .ok (.ifCond .eq 12, 3) := by decide +kernel
theorem js_charAt_7 : decode prog_15_method_56_code 7 = .ok (.aload_n 0, 1) := by decide +kernel
theorem js_charAt_8 : decode prog_15_method_56_code 8 = .ok (.getfield 9, 3) := by decide +kernel
theorem js_charAt_11 : decode prog_15_method_56_code 11 = .ok (.iload_n 1, 1) := by decide +kernel
theorem js_charAt_12 : decode prog_15_method_56_code 12 = .ok (.invokestatic 495, 3) := by decide +kernel
theorem js_charAt_15 : decode prog_15_method_56_code 15 = .ok (.ireturn, 1) := by decide +kernel
set_option maxHeartbeats 2000000 in
theorem js_c_coder (l : Launch) (bs sa av : Nat) : Met l js_y_coder js_w_coder ({ frames := 0, cells := 0, slots := 0, locals := 0 }) (js_Pc bs sa av [.ref sa]) (QcRead 0) 0 0 (fun _ => False) := by
  refine Met.ofW (cc := prog_15_method_152_code) (maxL := 1) (ret := (some .byte)) (by decide +kernel) rfl ?_
  intro p e s m args below meth c s₁ B hml hv
  obtain ⟨rfl, hX⟩ := hv
  have hx := B.exec
  have hb := B.bytes
  have hr := B.returns
  have hts0 := atoms_spec (ws := js_w_coder) B.pre
  have hts : ∀ w ∈ am_Ts.filter goodWord, w.before ([.ref sa] : List Value).toArray s = true := fun w hw => hts0 w (List.mem_cons_of_mem _ hw)
  have hown : s.vm.findClass "java/lang/String" = some m.cls := findClass_of_methodNamed B.named
  have hlocks := B.notSynchronized
  have hS : va_S (fun q => bs ≤ q) s.heap s.heap [] := va_S.rf
  have hE := hX.2.1.1 0 (by decide)
  have hl := lv_entry ([.ref sa]) (n := 1) (Nat.le_of_ble_eq_true rfl)
  rw [lg_entry_eq]
  generalize (lg_sl ([.ref sa]) ++ List.replicate (1 - (lg_sl ([.ref sa])).length) Slot.unset).toArray = ls at hl ⊢
  have hl : lv_has ls 1 [(0, .ref sa)] := hl
  refine va_gets hx hb hX.2.2.1 hS hown (hts _ (js_G (c := 1059) rfl rfl)) (fun _ h => h) js_coder_0 ?_
  refine lv_if_eq (tgt := 13) hx hb js_coder_3 (by decide) (fun z => absurd z (by decide)) (fun _ => ?_)
  refine lv_aload_n hx hb js_coder_6 rfl (lv_at hl 0 rfl) ?_
  refine vk_getf hx hb hE.2.1 hS hown (hts _ (js_G (c := 8057) rfl rfl)) (fun _ h => h) js_coder_7 ?_
  refine lv_goto (tgt := 14) hx hb js_coder_10 (by decide) ?_
  exact W.zret (v := 0) (Qc := QcRead 0) (free := fun _ => False) hx hb hr (by decide +kernel) (fun t ht _ => ⟨rfl, ht⟩) (fun q h => by cases h) js_coder_14
set_option maxHeartbeats 2000000 in
theorem js_c_isLatin1 (l : Launch) (bs sa av : Nat) : Met l js_y_isLatin1 js_w_isLatin1 ({ frames := 0, cells := 0, slots := 0, locals := 0 }) (js_Pc bs sa av [.ref sa]) (QcRead 1) 0 0 (fun _ => False) := by
  refine Met.ofW (cc := prog_15_method_154_code) (maxL := 1) (ret := (some .boolean)) (by decide +kernel) rfl ?_
  intro p e s m args below meth c s₁ B hml hv
  obtain ⟨rfl, hX⟩ := hv
  have hx := B.exec
  have hb := B.bytes
  have hr := B.returns
  have hts0 := atoms_spec (ws := js_w_isLatin1) B.pre
  have hts : ∀ w ∈ am_Ts.filter goodWord, w.before ([.ref sa] : List Value).toArray s = true := fun w hw => hts0 w (List.mem_cons_of_mem _ hw)
  have hown : s.vm.findClass "java/lang/String" = some m.cls := findClass_of_methodNamed B.named
  have hlocks := B.notSynchronized
  have hS : va_S (fun q => bs ≤ q) s.heap s.heap [] := va_S.rf
  have hE := hX.2.1.1 0 (by decide)
  have hl := lv_entry ([.ref sa]) (n := 1) (Nat.le_of_ble_eq_true rfl)
  rw [lg_entry_eq]
  generalize (lg_sl ([.ref sa]) ++ List.replicate (1 - (lg_sl ([.ref sa])).length) Slot.unset).toArray = ls at hl ⊢
  have hl : lv_has ls 1 [(0, .ref sa)] := hl
  refine va_gets hx hb hX.2.2.1 hS hown (hts _ (js_G (c := 1059) rfl rfl)) (fun _ h => h) js_isLatin1_0 ?_
  refine lv_if_eq (tgt := 17) hx hb js_isLatin1_3 (by decide) (fun z => absurd z (by decide)) (fun _ => ?_)
  refine lv_aload_n hx hb js_isLatin1_6 rfl (lv_at hl 0 rfl) ?_
  refine vk_getf hx hb hE.2.1 hS hown (hts _ (js_G (c := 8057) rfl rfl)) (fun _ h => h) js_isLatin1_7 ?_
  refine lv_if_ne (tgt := 17) hx hb js_isLatin1_10 (by decide) (fun z => absurd rfl z) (fun _ => ?_)
  refine lv_iconst (v := 1) hx hb js_isLatin1_13 (by decide) ?_
  refine lv_goto (tgt := 18) hx hb js_isLatin1_14 (by decide) ?_
  exact W.zret (v := 1) (Qc := QcRead 1) (free := fun _ => False) hx hb hr (by decide +kernel) (fun t ht _ => ⟨rfl, ht⟩) (fun q h => by cases h) js_isLatin1_18
set_option maxHeartbeats 2000000 in
theorem js_c_pcheck (l : Launch) (bs sa av : Nat) (i n : Int32) (f : Value) (hf : f.category = 1) (h0 : ¬ i < 0) (h1 : i < n) : Met l js_y_pcheck js_w_pcheck ({ frames := 0, cells := 0, slots := 0, locals := 0 }) (js_Pc bs sa av [.int i, .int n, f]) (QcRead i) 0 0 (fun _ => False) := by
  refine Met.ofW (cc := prog_18_method_11_code) (maxL := 3) (ret := (some .int)) (by decide +kernel) rfl ?_
  intro p e s m args below meth c s₁ B hml hv
  obtain ⟨rfl, hX⟩ := hv
  have hx := B.exec
  have hb := B.bytes
  have hr := B.returns
  have hts0 := atoms_spec (ws := js_w_pcheck) B.pre
  have hts : ∀ w ∈ am_Ts.filter goodWord, w.before ([.int i, .int n, f] : List Value).toArray s = true := fun w hw => hts0 w (List.mem_cons_of_mem _ hw)
  have hown : s.vm.findClass "jdk/internal/util/Preconditions" = some m.cls := findClass_of_methodNamed B.named
  have hlocks := B.notSynchronized
  have hS : va_S (fun q => bs ≤ q) s.heap s.heap [] := va_S.rf
  have hE := hX.2.1.1 0 (by decide)
  have hl := lv_entry ([.int i, .int n, f]) (n := 3) (by simp only [lg_sl, List.flatMap_cons, List.flatMap_nil, hf]; exact Nat.le_refl 3)
  rw [lg_entry_eq]
  generalize (lg_sl ([.int i, .int n, f]) ++ List.replicate (3 - (lg_sl ([.int i, .int n, f])).length) Slot.unset).toArray = ls at hl ⊢
  have hl : lv_has ls 3 [(0, .int i), (1, .int n)] := lv_sub hl [0, 1] rfl
  refine lv_iload_n hx hb js_pcheck_0 rfl (lv_at hl 0 rfl) ?_
  refine lv_if_lt (tgt := 9) hx hb js_pcheck_1 (by decide) (fun z => absurd z h0) (fun _ => ?_)
  refine lv_iload_n hx hb js_pcheck_4 rfl (lv_at hl 0 rfl) ?_
  refine lv_iload_n hx hb js_pcheck_5 rfl (lv_at hl 1 rfl) ?_
  refine lv_icmp_lt (tgt := 16) hx hb js_pcheck_6 (by decide) (fun _ => ?_) (fun z => absurd h1 z)
  refine lv_iload_n hx hb js_pcheck_16 rfl (lv_at hl 0 rfl) ?_
  exact W.iret (v := i) (Qc := QcRead i) (free := fun _ => False) hx hb hr (fun t ht _ => ⟨rfl, ht⟩) (fun q h => by cases h) js_pcheck_17
set_option maxHeartbeats 2000000 in
theorem js_c_length (l : Launch) (bs sa av : Nat) : Met l js_y_length js_w_length ({ frames := 1, cells := 0, slots := 0, locals := 20 }) (js_Pc bs sa av [.ref sa]) (QcRead 24) 0 0 (fun _ => False) := by
  refine Met.ofW (cc := prog_15_method_54_code) (maxL := 1) (ret := (some .int)) (by decide +kernel) rfl ?_
  intro p e s m args below meth c s₁ B hml hv
  obtain ⟨rfl, hX⟩ := hv
  have hx := B.exec
  have hb := B.bytes
  have hr := B.returns
  have hts0 := atoms_spec (ws := js_w_length) B.pre
  have hts : ∀ w ∈ am_Ts.filter goodWord, w.before ([.ref sa] : List Value).toArray s = true := fun w hw => hts0 w (List.mem_cons_of_mem _ hw)
  have hown : s.vm.findClass "java/lang/String" = some m.cls := findClass_of_methodNamed B.named
  have hlocks := B.notSynchronized
  have hbs := hX.2.2.2.2
  have hS : va_S (fun q => bs ≤ q) s.heap s.heap [] := va_S.rf
  have hE := hX.2.1.1 0 (by decide)
  have hl := lv_entry ([.ref sa]) (n := 1) (Nat.le_of_ble_eq_true rfl)
  rw [lg_entry_eq]
  generalize (lg_sl ([.ref sa]) ++ List.replicate (1 - (lg_sl ([.ref sa])).length) Slot.unset).toArray = ls at hl ⊢
  have hl : lv_has ls 1 [(0, .ref sa)] := hl
  refine lv_aload_n hx hb js_length_0 rfl (lv_at hl 0 rfl) ?_
  refine vk_getf hx hb hE.2.2.1 hS hown (hts _ (js_G (c := 8056) rfl rfl)) (fun _ h => h) js_length_1 ?_
  refine va_tlen (v := 24) hx hb hE.2.2.2 hS (by decide) js_length_4 ?_
  refine lv_aload_n hx hb js_length_5 rfl (lv_at hl 0 rfl) ?_
  refine W.callR (W.runV (own := "java/lang/String") (C := "java/lang/String") (As := []) (rest := [.int 24]) ⟨hx, hb, hml, hown, hts⟩ (js_c_coder l bs sa av) ⟨callB_of 0 hts js_g_coder rfl rfl rfl (hts _ (js_G (c := 1004) rfl rfl)) (hts _ (js_G (c := 1055) rfl rfl)) js_h_coder ⟨Nat.le_of_ble_eq_true rfl, Nat.le_of_ble_eq_true rfl⟩, (hts _ (js_G (c := 1056) rfl rfl)), (hts _ (js_G (c := 1057) rfl rfl))⟩ ⟨js_bl, vk_recv (adK := fun _ => sa) (i := 0) hX.2.1 (by decide) hS, js_pre hX hS hbs⟩ rfl rfl hl.1 rfl (lv_room (Nat.le_of_ble_eq_true rfl)) js_length_6 ⟨Nat.zero_le _, Nat.zero_le _⟩) ?_
  refine lv_ishr hx hb js_length_9 ?_
  exact W.iret (v := 24) (Qc := QcRead 24) (free := fun _ => False) hx hb hr (fun t ht _ => ⟨rfl, ht⟩) (fun q h => by cases h) js_length_10
set_option maxHeartbeats 2000000 in
theorem js_c_scheck (l : Launch) (bs sa av : Nat) (i n : Int32) (h0 : ¬ i < 0) (h1 : i < n) : Met l js_y_scheck js_w_scheck ({ frames := 1, cells := 0, slots := 0, locals := 22 }) (js_Pc bs sa av [.int i, .int n]) (js_Qv) 0 0 (fun _ => False) := by
  refine Met.ofW (cc := prog_15_method_155_code) (maxL := 2) (ret := none) (by decide +kernel) rfl ?_
  intro p e s m args below meth c s₁ B hml hv
  obtain ⟨rfl, hX⟩ := hv
  have hx := B.exec
  have hb := B.bytes
  have hr := B.returns
  have hts0 := atoms_spec (ws := js_w_scheck) B.pre
  have hts : ∀ w ∈ am_Ts.filter goodWord, w.before ([.int i, .int n] : List Value).toArray s = true := fun w hw => hts0 w (List.mem_cons_of_mem _ hw)
  have hown : s.vm.findClass "java/lang/String" = some m.cls := findClass_of_methodNamed B.named
  have hlocks := B.notSynchronized
  have hbs := hX.2.2.2.2
  have hS : va_S (fun q => bs ≤ q) s.heap s.heap [] := va_S.rf
  have hE := hX.2.1.1 0 (by decide)
  have hl := lv_entry ([.int i, .int n]) (n := 2) (Nat.le_of_ble_eq_true rfl)
  rw [lg_entry_eq]
  generalize (lg_sl ([.int i, .int n]) ++ List.replicate (2 - (lg_sl ([.int i, .int n])).length) Slot.unset).toArray = ls at hl ⊢
  have hl : lv_has ls 2 [(0, .int i), (1, .int n)] := hl
  refine lv_iload_n hx hb js_scheck_0 rfl (lv_at hl 0 rfl) ?_
  refine lv_iload_n hx hb js_scheck_1 rfl (lv_at hl 1 rfl) ?_
  rcases hX.2.2.2.1 with hz | ⟨q, hz⟩
  · refine va_gets hx hb hz hS hown (hts _ (js_G (c := 2169) rfl rfl)) (fun _ h => h) js_scheck_2 ?_
    refine W.callR (W.runS (As := [.int i, .int n, .null]) (rest := []) ⟨hx, hb, hml, hown, hts⟩ (js_c_pcheck l bs sa av i n .null rfl h0 h1) ⟨callB_of 3 hts js_g_pcheck rfl rfl rfl (hts _ (js_G (c := 1015) rfl rfl)) (hts _ (js_G (c := 2171) rfl rfl)) js_h_pcheck ⟨Nat.le_of_ble_eq_true rfl, Nat.le_of_ble_eq_true rfl⟩, (hts _ (js_G (c := 2172) rfl rfl))⟩ ⟨js_bl, js_pre hX hS hbs⟩ rfl rfl hl.1 rfl (lv_room (Nat.le_of_ble_eq_true rfl)) js_scheck_5 ⟨Nat.zero_le _, Nat.zero_le _⟩) ?_
    refine lv_pop hx hb js_scheck_8 rfl ?_
    exact W.vret (Qc := js_Qv) (free := fun _ => False) hx hb hr (fun t ht _ => ⟨rfl, ht⟩) (fun q h => by cases h) js_scheck_9
  · refine va_gets hx hb hz hS hown (hts _ (js_G (c := 2169) rfl rfl)) (fun _ h => h) js_scheck_2 ?_
    refine W.callR (W.runS (As := [.int i, .int n, .ref q]) (rest := []) ⟨hx, hb, hml, hown, hts⟩ (js_c_pcheck l bs sa av i n (.ref q) rfl h0 h1) ⟨callB_of 3 hts js_g_pcheck rfl rfl rfl (hts _ (js_G (c := 1015) rfl rfl)) (hts _ (js_G (c := 2171) rfl rfl)) js_h_pcheck ⟨Nat.le_of_ble_eq_true rfl, Nat.le_of_ble_eq_true rfl⟩, (hts _ (js_G (c := 2172) rfl rfl))⟩ ⟨js_bl, js_pre hX hS hbs⟩ rfl rfl hl.1 rfl (lv_room (Nat.le_of_ble_eq_true rfl)) js_scheck_5 ⟨Nat.zero_le _, Nat.zero_le _⟩) ?_
    refine lv_pop hx hb js_scheck_8 rfl ?_
    exact W.vret (Qc := js_Qv) (free := fun _ => False) hx hb hr (fun t ht _ => ⟨rfl, ht⟩) (fun q h => by cases h) js_scheck_9
theorem js_ch : ∀ k, k < 24 → (((am_txt.getD k 0 &&& 255).toUInt32 % 65536).toInt32 = am_txt.getD k 0 ∧ narrow .char (.int (am_txt.getD k 0)) = .int (am_txt.getD k 0)) := by decide +kernel
set_option maxHeartbeats 2000000 in
theorem js_c_lcharAt (l : Launch) (bs sa av : Nat) (i : Int32) (hi : ¬ (i < 0 ∨ 24 ≤ i.toNatClampNeg)) : Met l js_y_lcharAt js_w_lcharAt ({ frames := 2, cells := 0, slots := 0, locals := 43 }) (js_Pc bs sa av [.ref av, .int i]) (QcRead (am_txt.getD i.toNatClampNeg 0)) 0 0 (fun _ => False) := by
  refine Met.ofW (cc := prog_16_method_2_code) (maxL := 2) (ret := (some .char)) (by decide +kernel) rfl ?_
  intro p e s m args below meth c s₁ B hml hv
  obtain ⟨rfl, hX⟩ := hv
  have hx := B.exec
  have hb := B.bytes
  have hr := B.returns
  have hts0 := atoms_spec (ws := js_w_lcharAt) B.pre
  have hts : ∀ w ∈ am_Ts.filter goodWord, w.before ([.ref av, .int i] : List Value).toArray s = true := fun w hw => hts0 w (List.mem_cons_of_mem _ hw)
  have hown : s.vm.findClass "java/lang/StringLatin1" = some m.cls := findClass_of_methodNamed B.named
  have hlocks := B.notSynchronized
  have hbs := hX.2.2.2.2
  have hS : va_S (fun q => bs ≤ q) s.heap s.heap [] := va_S.rf
  have hE := hX.2.1.1 0 (by decide)
  have hl := lv_entry ([.ref av, .int i]) (n := 2) (Nat.le_of_ble_eq_true rfl)
  rw [lg_entry_eq]
  generalize (lg_sl ([.ref av, .int i]) ++ List.replicate (2 - (lg_sl ([.ref av, .int i])).length) Slot.unset).toArray = ls at hl ⊢
  have hl : lv_has ls 2 [(0, .ref av), (1, .int i)] := hl
  have h0 : ¬ i < 0 := fun z => hi (Or.inl z)
  have h24 : i.toNatClampNeg < 24 := Nat.not_le.mp (fun z => hi (Or.inr z))
  have h1 : i < 24 := by
    have e1 : (24 : Int32).toInt = 24 := by decide
    rw [Int32.lt_iff_toInt_lt, e1]
    have h2 : ¬ i.toInt < 0 := by rw [Int32.lt_iff_toInt_lt] at h0; exact h0
    have h3 : i.toNatClampNeg = i.toInt.toNat := rfl
    omega
  obtain ⟨hc1, hc2⟩ := js_ch _ h24
  refine lv_iload_n hx hb js_lcharAt_0 rfl (lv_at hl 1 rfl) ?_
  refine lv_aload_n hx hb js_lcharAt_1 rfl (lv_at hl 0 rfl) ?_
  refine va_tlen (v := 24) hx hb hE.2.2.2 hS (by decide) js_lcharAt_2 ?_
  refine js_callv (W.runS (As := [.int i, .int 24]) (rest := []) ⟨hx, hb, hml, hown, hts⟩ (js_c_scheck l bs sa av i 24 h0 h1) ⟨callB_of 2 hts js_g_scheck rfl rfl rfl (hts _ (js_G (c := 1004) rfl rfl)) (hts _ (js_G (c := 2166) rfl rfl)) js_h_scheck ⟨Nat.le_of_ble_eq_true rfl, Nat.le_of_ble_eq_true rfl⟩, (hts _ (js_G (c := 2167) rfl rfl))⟩ ⟨js_bl, js_pre hX hS hbs⟩ rfl rfl hl.1 rfl (lv_room (Nat.le_of_ble_eq_true rfl)) js_lcharAt_3 ⟨Nat.zero_le _, Nat.zero_le _⟩) ?_
  refine lv_aload_n hx hb js_lcharAt_6 rfl (lv_at hl 0 rfl) ?_
  refine lv_iload_n hx hb js_lcharAt_7 rfl (lv_at hl 1 rfl) ?_
  refine va_tb hx hb hE.2.2.2 hS hi rfl js_lcharAt_8 ?_
  refine lv_sipush (v := 255) hx hb js_lcharAt_9 (by decide) ?_
  refine lv_iand hx hb js_lcharAt_12 ?_
  refine lv_i2c (v := am_txt.getD i.toNatClampNeg 0) hx hb js_lcharAt_13 hc1 ?_
  exact W.zret (v := am_txt.getD i.toNatClampNeg 0) (Qc := QcRead (am_txt.getD i.toNatClampNeg 0)) (free := fun _ => False) hx hb hr hc2 (fun t ht _ => ⟨rfl, ht⟩) (fun q h => by cases h) js_lcharAt_14
set_option maxHeartbeats 2000000 in
theorem js_c_charAt (l : Launch) (bs sa av : Nat) (i : Int32) (hi : ¬ (i < 0 ∨ 24 ≤ i.toNatClampNeg)) : Met l js_y_charAt js_w_charAt ({ frames := 3, cells := 0, slots := 0, locals := 64 }) (js_Pc bs sa av [.ref sa, .int i]) (QcRead (am_txt.getD i.toNatClampNeg 0)) 0 0 (fun _ => False) := by
  refine Met.ofW (cc := prog_15_method_56_code) (maxL := 2) (ret := (some .char)) (by decide +kernel) rfl ?_
  intro p e s m args below meth c s₁ B hml hv
  obtain ⟨rfl, hX⟩ := hv
  have hx := B.exec
  have hb := B.bytes
  have hr := B.returns
  have hts0 := atoms_spec (ws := js_w_charAt) B.pre
  have hts : ∀ w ∈ am_Ts.filter goodWord, w.before ([.ref sa, .int i] : List Value).toArray s = true := fun w hw => hts0 w (List.mem_cons_of_mem _ hw)
  have hown : s.vm.findClass "java/lang/String" = some m.cls := findClass_of_methodNamed B.named
  have hlocks := B.notSynchronized
  have hbs := hX.2.2.2.2
  have hS : va_S (fun q => bs ≤ q) s.heap s.heap [] := va_S.rf
  have hE := hX.2.1.1 0 (by decide)
  have hl := lv_entry ([.ref sa, .int i]) (n := 2) (Nat.le_of_ble_eq_true rfl)
  rw [lg_entry_eq]
  generalize (lg_sl ([.ref sa, .int i]) ++ List.replicate (2 - (lg_sl ([.ref sa, .int i])).length) Slot.unset).toArray = ls at hl ⊢
  have hl : lv_has ls 2 [(0, .ref sa), (1, .int i)] := hl
  have h24 : i.toNatClampNeg < 24 := Nat.not_le.mp (fun z => hi (Or.inr z))
  obtain ⟨hc1, hc2⟩ := js_ch _ h24
  refine lv_aload_n hx hb js_charAt_0 rfl (lv_at hl 0 rfl) ?_
  refine W.callR (W.runV (own := "java/lang/String") (C := "java/lang/String") (As := []) (rest := []) ⟨hx, hb, hml, hown, hts⟩ (js_c_isLatin1 l bs sa av) ⟨callB_of 0 hts js_g_isLatin1 rfl rfl rfl (hts _ (js_G (c := 1004) rfl rfl)) (hts _ (js_G (c := 2159) rfl rfl)) js_h_isLatin1 ⟨Nat.le_of_ble_eq_true rfl, Nat.le_of_ble_eq_true rfl⟩, (hts _ (js_G (c := 2160) rfl rfl)), (hts _ (js_G (c := 2161) rfl rfl))⟩ ⟨js_bl, vk_recv (adK := fun _ => sa) (i := 0) hX.2.1 (by decide) hS, js_pre hX hS hbs⟩ rfl rfl hl.1 rfl (lv_room (Nat.le_of_ble_eq_true rfl)) js_charAt_1 ⟨Nat.zero_le _, Nat.zero_le _⟩) ?_
  refine W.eq (g2 := F0 m 4 ls [.int 1]) rfl ?_
  refine lv_if_eq (tgt := 16) hx hb js_charAt_4 (by decide) (fun z => absurd z (by decide)) (fun _ => ?_)
  refine lv_aload_n hx hb js_charAt_7 rfl (lv_at hl 0 rfl) ?_
  refine vk_getf hx hb hE.2.2.1 hS hown (hts _ (js_G (c := 8056) rfl rfl)) (fun _ h => h) js_charAt_8 ?_
  refine lv_iload_n hx hb js_charAt_11 rfl (lv_at hl 1 rfl) ?_
  refine W.callR (W.runS (As := [.ref av, .int i]) (rest := []) ⟨hx, hb, hml, hown, hts⟩ (js_c_lcharAt l bs sa av i hi) ⟨callB_of 2 hts js_g_lcharAt rfl rfl rfl (hts _ (js_G (c := 1014) rfl rfl)) (hts _ (js_G (c := 2163) rfl rfl)) js_h_lcharAt ⟨Nat.le_of_ble_eq_true rfl, Nat.le_of_ble_eq_true rfl⟩, (hts _ (js_G (c := 2164) rfl rfl))⟩ ⟨js_bl, js_pre hX hS hbs⟩ rfl rfl hl.1 rfl (lv_room (Nat.le_of_ble_eq_true rfl)) js_charAt_12 ⟨Nat.zero_le _, Nat.zero_le _⟩) ?_
  exact W.zret (v := am_txt.getD i.toNatClampNeg 0) (Qc := QcRead (am_txt.getD i.toNatClampNeg 0)) (free := fun _ => False) hx hb hr hc2 (fun t ht _ => ⟨rfl, ht⟩) (fun q h => by cases h) js_charAt_15
