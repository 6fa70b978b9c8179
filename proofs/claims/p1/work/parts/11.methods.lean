/-! PART 11: the words that the numbers name; the methods -/
def am_Tf (c : Nat) : Option Jvm.Cond := if c < 100000 then (match c / 1000 with
  | 1 => tables_1_1[c % 1000]?
  | 2 => tables_1_2[c % 1000]?
  | 3 => tables_1_3[c % 1000]?
  | 4 => tables_1_4[c % 1000]?
  | 5 => tables_1_5[c % 1000]?
  | 6 => tables_1_6[c % 1000]?
  | 7 => tables_1_7[c % 1000]?
  | 8 => tables_1_8[c % 1000]?
  | _ => none) else (match (c - 100000) / 1000 with
  | 1 => lw_privs_1[c % 1000]?
  | 2 => lw_privs_2[c % 1000]?
  | 3 => lw_privs_3[c % 1000]?
  | 4 => lw_privs_4[c % 1000]?
  | 5 => lw_privs_5[c % 1000]?
  | 6 => lw_privs_6[c % 1000]?
  | 7 => lw_privs_7[c % 1000]?
  | 8 => lw_privs_8[c % 1000]?
  | 9 => lw_privs_9[c % 1000]?
  | 10 => lw_privs_10[c % 1000]?
  | 11 => lw_privs_11[c % 1000]?
  | _ => none).map fun (q : MethodName × Nat) => Jvm.Cond.selects q.1.cls q.1 q.1
def am_Ts : List Jvm.Cond := lw_tbl.filter (fun w => goodWord w || am_nst w)
theorem am_good_ok : am_good am_Ts := fun w hw => by simpa using (List.mem_filter.mp hw).2
theorem am_Ts_in : ∀ w ∈ am_Ts, w ∈ lw_tbl := fun w hw => (List.mem_filter.mp hw).1
theorem am_Tf_ok : ∀ c w, am_Tf c = some w → (goodWord w || am_nst w) = true → w ∈ am_Ts := by
  intro c w h hgw
  refine List.mem_filter.mpr ⟨?_, hgw⟩
  clear hgw
  unfold am_Tf at h
  split at h
  · refine List.mem_append_right _ ?_
    split at h
    · have h := List.mem_of_getElem? h; exact List.mem_append_left _ h
    · have h := List.mem_of_getElem? h; exact List.mem_append_right _ (List.mem_append_left _ h)
    · have h := List.mem_of_getElem? h; exact List.mem_append_right _ (List.mem_append_right _ (List.mem_append_left _ h))
    · have h := List.mem_of_getElem? h; exact List.mem_append_right _ (List.mem_append_right _ (List.mem_append_right _ (List.mem_append_left _ h)))
    · have h := List.mem_of_getElem? h; exact List.mem_append_right _ (List.mem_append_right _ (List.mem_append_right _ (List.mem_append_right _ (List.mem_append_left _ h))))
    · have h := List.mem_of_getElem? h; exact List.mem_append_right _ (List.mem_append_right _ (List.mem_append_right _ (List.mem_append_right _ (List.mem_append_right _ (List.mem_append_left _ h)))))
    · have h := List.mem_of_getElem? h; exact List.mem_append_right _ (List.mem_append_right _ (List.mem_append_right _ (List.mem_append_right _ (List.mem_append_right _ (List.mem_append_right _ (List.mem_append_left _ h))))))
    · have h := List.mem_of_getElem? h; exact List.mem_append_right _ (List.mem_append_right _ (List.mem_append_right _ (List.mem_append_right _ (List.mem_append_right _ (List.mem_append_right _ (List.mem_append_right _ (h)))))))
    · cases h
  · refine List.mem_append_left _ ?_
    obtain ⟨q, hq, rfl⟩ := Option.map_eq_some_iff.mp h
    refine List.mem_map.mpr ⟨q, ?_, rfl⟩
    clear h
    split at hq
    · have h := List.mem_of_getElem? hq; exact List.mem_append_left _ h
    · have h := List.mem_of_getElem? hq; exact List.mem_append_right _ (List.mem_append_left _ h)
    · have h := List.mem_of_getElem? hq; exact List.mem_append_right _ (List.mem_append_right _ (List.mem_append_left _ h))
    · have h := List.mem_of_getElem? hq; exact List.mem_append_right _ (List.mem_append_right _ (List.mem_append_right _ (List.mem_append_left _ h)))
    · have h := List.mem_of_getElem? hq; exact List.mem_append_right _ (List.mem_append_right _ (List.mem_append_right _ (List.mem_append_right _ (List.mem_append_left _ h))))
    · have h := List.mem_of_getElem? hq; exact List.mem_append_right _ (List.mem_append_right _ (List.mem_append_right _ (List.mem_append_right _ (List.mem_append_right _ (List.mem_append_left _ h)))))
    · have h := List.mem_of_getElem? hq; exact List.mem_append_right _ (List.mem_append_right _ (List.mem_append_right _ (List.mem_append_right _ (List.mem_append_right _ (List.mem_append_right _ (List.mem_append_left _ h))))))
    · have h := List.mem_of_getElem? hq; exact List.mem_append_right _ (List.mem_append_right _ (List.mem_append_right _ (List.mem_append_right _ (List.mem_append_right _ (List.mem_append_right _ (List.mem_append_right _ (List.mem_append_left _ h)))))))
    · have h := List.mem_of_getElem? hq; exact List.mem_append_right _ (List.mem_append_right _ (List.mem_append_right _ (List.mem_append_right _ (List.mem_append_right _ (List.mem_append_right _ (List.mem_append_right _ (List.mem_append_right _ (List.mem_append_left _ h))))))))
    · have h := List.mem_of_getElem? hq; exact List.mem_append_right _ (List.mem_append_right _ (List.mem_append_right _ (List.mem_append_right _ (List.mem_append_right _ (List.mem_append_right _ (List.mem_append_right _ (List.mem_append_right _ (List.mem_append_right _ (List.mem_append_left _ h)))))))))
    · have h := List.mem_of_getElem? hq; exact List.mem_append_right _ (List.mem_append_right _ (List.mem_append_right _ (List.mem_append_right _ (List.mem_append_right _ (List.mem_append_right _ (List.mem_append_right _ (List.mem_append_right _ (List.mem_append_right _ (List.mem_append_right _ (h))))))))))
    · cases hq
theorem am_c0 : plainName "LazyHouseModel" = true ∧ ("LazyHouseModel" ≠ "java/lang/invoke/MethodHandle" ∧ "LazyHouseModel" ≠ "java/lang/invoke/VarHandle") := ⟨by decide +kernel, by decide +kernel, by decide +kernel⟩
theorem am_c1 : plainName "LazyHouseLaw" = true ∧ ("LazyHouseLaw" ≠ "java/lang/invoke/MethodHandle" ∧ "LazyHouseLaw" ≠ "java/lang/invoke/VarHandle") := ⟨by decide +kernel, by decide +kernel, by decide +kernel⟩
theorem am_c2 : plainName "LazyHouse" = true ∧ ("LazyHouse" ≠ "java/lang/invoke/MethodHandle" ∧ "LazyHouse" ≠ "java/lang/invoke/VarHandle") := ⟨by decide +kernel, by decide +kernel, by decide +kernel⟩
theorem am_c3 : plainName "LazyHouse$Binder" = true ∧ ("LazyHouse$Binder" ≠ "java/lang/invoke/MethodHandle" ∧ "LazyHouse$Binder" ≠ "java/lang/invoke/VarHandle") := ⟨by decide +kernel, by decide +kernel, by decide +kernel⟩
theorem am_c4 : plainName "LazyHouse$Bytes" = true ∧ ("LazyHouse$Bytes" ≠ "java/lang/invoke/MethodHandle" ∧ "LazyHouse$Bytes" ≠ "java/lang/invoke/VarHandle") := ⟨by decide +kernel, by decide +kernel, by decide +kernel⟩
theorem am_c5 : plainName "LazyHouse$Heap" = true ∧ ("LazyHouse$Heap" ≠ "java/lang/invoke/MethodHandle" ∧ "LazyHouse$Heap" ≠ "java/lang/invoke/VarHandle") := ⟨by decide +kernel, by decide +kernel, by decide +kernel⟩
theorem am_c6 : plainName "LazyHouse$Machine" = true ∧ ("LazyHouse$Machine" ≠ "java/lang/invoke/MethodHandle" ∧ "LazyHouse$Machine" ≠ "java/lang/invoke/VarHandle") := ⟨by decide +kernel, by decide +kernel, by decide +kernel⟩
theorem am_c7 : plainName "LazyHouse$Parser" = true ∧ ("LazyHouse$Parser" ≠ "java/lang/invoke/MethodHandle" ∧ "LazyHouse$Parser" ≠ "java/lang/invoke/VarHandle") := ⟨by decide +kernel, by decide +kernel, by decide +kernel⟩
theorem am_c8 : plainName "LazyHouse$Program" = true ∧ ("LazyHouse$Program" ≠ "java/lang/invoke/MethodHandle" ∧ "LazyHouse$Program" ≠ "java/lang/invoke/VarHandle") := ⟨by decide +kernel, by decide +kernel, by decide +kernel⟩
theorem am_c9 : plainName "LazyHouse$Reader" = true ∧ ("LazyHouse$Reader" ≠ "java/lang/invoke/MethodHandle" ∧ "LazyHouse$Reader" ≠ "java/lang/invoke/VarHandle") := ⟨by decide +kernel, by decide +kernel, by decide +kernel⟩
theorem am_c10 : plainName "LazyHouse$Stack" = true ∧ ("LazyHouse$Stack" ≠ "java/lang/invoke/MethodHandle" ∧ "LazyHouse$Stack" ≠ "java/lang/invoke/VarHandle") := ⟨by decide +kernel, by decide +kernel, by decide +kernel⟩
theorem am_c11 : plainName "LazyHouse$Table" = true ∧ ("LazyHouse$Table" ≠ "java/lang/invoke/MethodHandle" ∧ "LazyHouse$Table" ≠ "java/lang/invoke/VarHandle") := ⟨by decide +kernel, by decide +kernel, by decide +kernel⟩
theorem am_c12 : plainName "LazyHouse$Word" = true ∧ ("LazyHouse$Word" ≠ "java/lang/invoke/MethodHandle" ∧ "LazyHouse$Word" ≠ "java/lang/invoke/VarHandle") := ⟨by decide +kernel, by decide +kernel, by decide +kernel⟩
theorem am_c13 : plainName "LazyHouse$Words" = true ∧ ("LazyHouse$Words" ≠ "java/lang/invoke/MethodHandle" ∧ "LazyHouse$Words" ≠ "java/lang/invoke/VarHandle") := ⟨by decide +kernel, by decide +kernel, by decide +kernel⟩
theorem am_d0 : (parseMethodDescriptor "()I").map (fun d => d.parameters.length) = some 0 := by decide +kernel
theorem am_d1 : (parseMethodDescriptor "()J").map (fun d => d.parameters.length) = some 0 := by decide +kernel
theorem am_d2 : (parseMethodDescriptor "()LLazyHouse$Bytes;").map (fun d => d.parameters.length) = some 0 := by decide +kernel
theorem am_d3 : (parseMethodDescriptor "()V").map (fun d => d.parameters.length) = some 0 := by decide +kernel
theorem am_d4 : (parseMethodDescriptor "()Z").map (fun d => d.parameters.length) = some 0 := by decide +kernel
theorem am_d5 : (parseMethodDescriptor "(I)I").map (fun d => d.parameters.length) = some 1 := by decide +kernel
theorem am_d6 : (parseMethodDescriptor "(I)J").map (fun d => d.parameters.length) = some 1 := by decide +kernel
theorem am_d7 : (parseMethodDescriptor "(I)V").map (fun d => d.parameters.length) = some 1 := by decide +kernel
theorem am_d8 : (parseMethodDescriptor "(I)Z").map (fun d => d.parameters.length) = some 1 := by decide +kernel
theorem am_d9 : (parseMethodDescriptor "(II)I").map (fun d => d.parameters.length) = some 2 := by decide +kernel
theorem am_d10 : (parseMethodDescriptor "(II)J").map (fun d => d.parameters.length) = some 2 := by decide +kernel
theorem am_d11 : (parseMethodDescriptor "(II)V").map (fun d => d.parameters.length) = some 2 := by decide +kernel
theorem am_d12 : (parseMethodDescriptor "(II)Z").map (fun d => d.parameters.length) = some 2 := by decide +kernel
theorem am_d13 : (parseMethodDescriptor "(III)I").map (fun d => d.parameters.length) = some 3 := by decide +kernel
theorem am_d14 : (parseMethodDescriptor "(III)J").map (fun d => d.parameters.length) = some 3 := by decide +kernel
theorem am_d15 : (parseMethodDescriptor "(III)V").map (fun d => d.parameters.length) = some 3 := by decide +kernel
theorem am_d16 : (parseMethodDescriptor "(III)Z").map (fun d => d.parameters.length) = some 3 := by decide +kernel
theorem am_d17 : (parseMethodDescriptor "(IIII)I").map (fun d => d.parameters.length) = some 4 := by decide +kernel
theorem am_d18 : (parseMethodDescriptor "(IIII)Z").map (fun d => d.parameters.length) = some 4 := by decide +kernel
theorem am_d19 : (parseMethodDescriptor "(IIIII)I").map (fun d => d.parameters.length) = some 5 := by decide +kernel
theorem am_d20 : (parseMethodDescriptor "(IIIII)V").map (fun d => d.parameters.length) = some 5 := by decide +kernel
theorem am_d21 : (parseMethodDescriptor "(IIIZ)V").map (fun d => d.parameters.length) = some 4 := by decide +kernel
theorem am_d22 : (parseMethodDescriptor "(IIJ)V").map (fun d => d.parameters.length) = some 3 := by decide +kernel
theorem am_d23 : (parseMethodDescriptor "(IJ)V").map (fun d => d.parameters.length) = some 2 := by decide +kernel
theorem am_d24 : (parseMethodDescriptor "(IJI)Z").map (fun d => d.parameters.length) = some 3 := by decide +kernel
theorem am_d25 : (parseMethodDescriptor "(IZ)I").map (fun d => d.parameters.length) = some 2 := by decide +kernel
theorem am_d26 : (parseMethodDescriptor "(J)I").map (fun d => d.parameters.length) = some 1 := by decide +kernel
theorem am_d27 : (parseMethodDescriptor "(J)J").map (fun d => d.parameters.length) = some 1 := by decide +kernel
theorem am_d28 : (parseMethodDescriptor "(J)V").map (fun d => d.parameters.length) = some 1 := by decide +kernel
theorem am_d29 : (parseMethodDescriptor "(J)Z").map (fun d => d.parameters.length) = some 1 := by decide +kernel
theorem am_d30 : (parseMethodDescriptor "(JII)V").map (fun d => d.parameters.length) = some 3 := by decide +kernel
theorem am_d31 : (parseMethodDescriptor "(LLazyHouse$Bytes;)V").map (fun d => d.parameters.length) = some 1 := by decide +kernel
theorem am_d32 : (parseMethodDescriptor "(LLazyHouse$Bytes;II)V").map (fun d => d.parameters.length) = some 3 := by decide +kernel
theorem am_d33 : (parseMethodDescriptor "(LLazyHouse$Heap;)V").map (fun d => d.parameters.length) = some 1 := by decide +kernel
theorem am_d34 : (parseMethodDescriptor "(LLazyHouse$Program;)V").map (fun d => d.parameters.length) = some 1 := by decide +kernel
theorem am_d35 : (parseMethodDescriptor "(LLazyHouse$Table;II)I").map (fun d => d.parameters.length) = some 3 := by decide +kernel
theorem am_d36 : (parseMethodDescriptor "(Ljava/lang/String;)V").map (fun d => d.parameters.length) = some 1 := by decide +kernel
theorem am_d37 : (parseMethodDescriptor "(Z)J").map (fun d => d.parameters.length) = some 1 := by decide +kernel
theorem am_d38 : (parseMethodDescriptor "(Z)Z").map (fun d => d.parameters.length) = some 1 := by decide +kernel
theorem am_n0 : am_okN am_cl am_Ts am_m0 0 1 := am_N1 ⟨am_c0.1, am_c0.2, (am_Tf_ok 5138 _ rfl rfl), (am_Tf_ok 1013 _ rfl rfl), by decide⟩ am_d3 (am_Tf_ok 5137 _ rfl rfl) rfl rfl
theorem am_n1 : am_okN am_cl am_Ts am_m1 5 0 := am_N0 ⟨am_c0.1, am_c0.2, (am_Tf_ok 5147 _ rfl rfl), (am_Tf_ok 1013 _ rfl rfl), by decide⟩ am_d20 (am_Tf_ok 5146 _ rfl rfl) (am_Tf_ok 106001 _ rfl rfl) ⟨_, _, rfl⟩
theorem am_n2 : am_okN am_cl am_Ts am_m2 2 0 := am_N0 ⟨am_c0.1, am_c0.2, (am_Tf_ok 5151 _ rfl rfl), (am_Tf_ok 1013 _ rfl rfl), by decide⟩ am_d11 (am_Tf_ok 5150 _ rfl rfl) (am_Tf_ok 106002 _ rfl rfl) ⟨_, _, rfl⟩
theorem am_n3 : am_okN am_cl am_Ts am_m3 3 2 := am_N2 ⟨am_c0.1, am_c0.2, (am_Tf_ok 6179 _ rfl rfl), (am_Tf_ok 1013 _ rfl rfl), by decide⟩ am_d16 (am_Tf_ok 6178 _ rfl rfl)
theorem am_n4 : am_okN am_cl am_Ts am_m4 1 0 := am_N0 ⟨am_c0.1, am_c0.2, (am_Tf_ok 6190 _ rfl rfl), (am_Tf_ok 1013 _ rfl rfl), by decide⟩ am_d5 (am_Tf_ok 6189 _ rfl rfl) (am_Tf_ok 106005 _ rfl rfl) ⟨_, _, rfl⟩
theorem am_n5 : am_okN am_cl am_Ts am_m5 1 2 := am_N2 ⟨am_c0.1, am_c0.2, (am_Tf_ok 6182 _ rfl rfl), (am_Tf_ok 1013 _ rfl rfl), by decide⟩ am_d8 (am_Tf_ok 6181 _ rfl rfl)
theorem am_n6 : am_okN am_cl am_Ts am_m6 1 2 := am_N2 ⟨am_c0.1, am_c0.2, (am_Tf_ok 6176 _ rfl rfl), (am_Tf_ok 1013 _ rfl rfl), by decide⟩ am_d8 (am_Tf_ok 6175 _ rfl rfl)
theorem am_n7 : am_okN am_cl am_Ts am_m7 4 0 := am_N0 ⟨am_c0.1, am_c0.2, (am_Tf_ok 6186 _ rfl rfl), (am_Tf_ok 1013 _ rfl rfl), by decide⟩ am_d18 (am_Tf_ok 6185 _ rfl rfl) (am_Tf_ok 106004 _ rfl rfl) ⟨_, _, rfl⟩
theorem am_n8 : am_okN am_cl am_Ts am_m8 0 0 := am_N0 ⟨am_c0.1, am_c0.2, (am_Tf_ok 6194 _ rfl rfl), (am_Tf_ok 1013 _ rfl rfl), by decide⟩ am_d0 (am_Tf_ok 6193 _ rfl rfl) (am_Tf_ok 106006 _ rfl rfl) ⟨_, _, rfl⟩
theorem am_n9 : am_okN am_cl am_Ts am_m9 0 0 := am_N0 ⟨am_c0.1, am_c0.2, (am_Tf_ok 6173 _ rfl rfl), (am_Tf_ok 1013 _ rfl rfl), by decide⟩ am_d3 (am_Tf_ok 6172 _ rfl rfl) (am_Tf_ok 106003 _ rfl rfl) ⟨_, _, rfl⟩
theorem am_n10 : am_okN am_cl am_Ts am_m10 1 0 := am_N0 ⟨am_c0.1, am_c0.2, (am_Tf_ok 6206 _ rfl rfl), (am_Tf_ok 1013 _ rfl rfl), by decide⟩ am_d8 (am_Tf_ok 6205 _ rfl rfl) (am_Tf_ok 106009 _ rfl rfl) ⟨_, _, rfl⟩
theorem am_n11 : am_okN am_cl am_Ts am_m11 1 0 := am_N0 ⟨am_c0.1, am_c0.2, (am_Tf_ok 7014 _ rfl rfl), (am_Tf_ok 1013 _ rfl rfl), by decide⟩ am_d8 (am_Tf_ok 7013 _ rfl rfl) (am_Tf_ok 107005 _ rfl rfl) ⟨_, _, rfl⟩
theorem am_n12 : am_okN am_cl am_Ts am_m12 1 0 := am_N0 ⟨am_c0.1, am_c0.2, (am_Tf_ok 6230 _ rfl rfl), (am_Tf_ok 1013 _ rfl rfl), by decide⟩ am_d38 (am_Tf_ok 6229 _ rfl rfl) (am_Tf_ok 106015 _ rfl rfl) ⟨_, _, rfl⟩
theorem am_n13 : am_okN am_cl am_Ts am_m13 0 0 := am_N0 ⟨am_c0.1, am_c0.2, (am_Tf_ok 7002 _ rfl rfl), (am_Tf_ok 1013 _ rfl rfl), by decide⟩ am_d4 (am_Tf_ok 7001 _ rfl rfl) (am_Tf_ok 107002 _ rfl rfl) ⟨_, _, rfl⟩
theorem am_n14 : am_okN am_cl am_Ts am_m14 4 0 := am_N0 ⟨am_c0.1, am_c0.2, (am_Tf_ok 7010 _ rfl rfl), (am_Tf_ok 1013 _ rfl rfl), by decide⟩ am_d17 (am_Tf_ok 7009 _ rfl rfl) (am_Tf_ok 107004 _ rfl rfl) ⟨_, _, rfl⟩
theorem am_n15 : am_okN am_cl am_Ts am_m15 1 0 := am_N0 ⟨am_c0.1, am_c0.2, (am_Tf_ok 6222 _ rfl rfl), (am_Tf_ok 1013 _ rfl rfl), by decide⟩ am_d7 (am_Tf_ok 6221 _ rfl rfl) (am_Tf_ok 106013 _ rfl rfl) ⟨_, _, rfl⟩
theorem am_n16 : am_okN am_cl am_Ts am_m16 1 0 := am_N0 ⟨am_c0.1, am_c0.2, (am_Tf_ok 6226 _ rfl rfl), (am_Tf_ok 1013 _ rfl rfl), by decide⟩ am_d5 (am_Tf_ok 6225 _ rfl rfl) (am_Tf_ok 106014 _ rfl rfl) ⟨_, _, rfl⟩
theorem am_n17 : am_okN am_cl am_Ts am_m17 4 0 := am_N0 ⟨am_c0.1, am_c0.2, (am_Tf_ok 6210 _ rfl rfl), (am_Tf_ok 1013 _ rfl rfl), by decide⟩ am_d18 (am_Tf_ok 6209 _ rfl rfl) (am_Tf_ok 106010 _ rfl rfl) ⟨_, _, rfl⟩
theorem am_n18 : am_okN am_cl am_Ts am_m18 1 0 := am_N0 ⟨am_c0.1, am_c0.2, (am_Tf_ok 6202 _ rfl rfl), (am_Tf_ok 1013 _ rfl rfl), by decide⟩ am_d5 (am_Tf_ok 6201 _ rfl rfl) (am_Tf_ok 106008 _ rfl rfl) ⟨_, _, rfl⟩
theorem am_n19 : am_okN am_cl am_Ts am_m19 3 0 := am_N0 ⟨am_c0.1, am_c0.2, (am_Tf_ok 6218 _ rfl rfl), (am_Tf_ok 1013 _ rfl rfl), by decide⟩ am_d13 (am_Tf_ok 6217 _ rfl rfl) (am_Tf_ok 106012 _ rfl rfl) ⟨_, _, rfl⟩
theorem am_n20 : am_okN am_cl am_Ts am_m20 1 0 := am_N0 ⟨am_c0.1, am_c0.2, (am_Tf_ok 6214 _ rfl rfl), (am_Tf_ok 1013 _ rfl rfl), by decide⟩ am_d5 (am_Tf_ok 6213 _ rfl rfl) (am_Tf_ok 106011 _ rfl rfl) ⟨_, _, rfl⟩
theorem am_n21 : am_okN am_cl am_Ts am_m21 0 0 := am_N0 ⟨am_c0.1, am_c0.2, (am_Tf_ok 7026 _ rfl rfl), (am_Tf_ok 1013 _ rfl rfl), by decide⟩ am_d0 (am_Tf_ok 7025 _ rfl rfl) (am_Tf_ok 107008 _ rfl rfl) ⟨_, _, rfl⟩
theorem am_n22 : am_okN am_cl am_Ts am_m22 1 0 := am_N0 ⟨am_c0.1, am_c0.2, (am_Tf_ok 6234 _ rfl rfl), (am_Tf_ok 1013 _ rfl rfl), by decide⟩ am_d5 (am_Tf_ok 6233 _ rfl rfl) (am_Tf_ok 107000 _ rfl rfl) ⟨_, _, rfl⟩
theorem am_n23 : am_okN am_cl am_Ts am_m23 1 0 := am_N0 ⟨am_c0.1, am_c0.2, (am_Tf_ok 6238 _ rfl rfl), (am_Tf_ok 1013 _ rfl rfl), by decide⟩ am_d5 (am_Tf_ok 6237 _ rfl rfl) (am_Tf_ok 107001 _ rfl rfl) ⟨_, _, rfl⟩
theorem am_n24 : am_okN am_cl am_Ts am_m24 1 0 := am_N0 ⟨am_c0.1, am_c0.2, (am_Tf_ok 7006 _ rfl rfl), (am_Tf_ok 1013 _ rfl rfl), by decide⟩ am_d5 (am_Tf_ok 7005 _ rfl rfl) (am_Tf_ok 107003 _ rfl rfl) ⟨_, _, rfl⟩
theorem am_n25 : am_okN am_cl am_Ts am_m25 1 0 := am_N0 ⟨am_c0.1, am_c0.2, (am_Tf_ok 7030 _ rfl rfl), (am_Tf_ok 1013 _ rfl rfl), by decide⟩ am_d5 (am_Tf_ok 7029 _ rfl rfl) (am_Tf_ok 107009 _ rfl rfl) ⟨_, _, rfl⟩
theorem am_n26 : am_okN am_cl am_Ts am_m26 1 0 := am_N0 ⟨am_c0.1, am_c0.2, (am_Tf_ok 7018 _ rfl rfl), (am_Tf_ok 1013 _ rfl rfl), by decide⟩ am_d5 (am_Tf_ok 7017 _ rfl rfl) (am_Tf_ok 107006 _ rfl rfl) ⟨_, _, rfl⟩
theorem am_n27 : am_okN am_cl am_Ts am_m27 1 0 := am_N0 ⟨am_c0.1, am_c0.2, (am_Tf_ok 7022 _ rfl rfl), (am_Tf_ok 1013 _ rfl rfl), by decide⟩ am_d7 (am_Tf_ok 7021 _ rfl rfl) (am_Tf_ok 107007 _ rfl rfl) ⟨_, _, rfl⟩
theorem am_n28 : am_okN am_cl am_Ts am_m28 1 0 := am_N0 ⟨am_c0.1, am_c0.2, (am_Tf_ok 7034 _ rfl rfl), (am_Tf_ok 1013 _ rfl rfl), by decide⟩ am_d5 (am_Tf_ok 7033 _ rfl rfl) (am_Tf_ok 107010 _ rfl rfl) ⟨_, _, rfl⟩
theorem am_n29 : am_okN am_cl am_Ts am_m29 1 0 := am_N0 ⟨am_c0.1, am_c0.2, (am_Tf_ok 7038 _ rfl rfl), (am_Tf_ok 1013 _ rfl rfl), by decide⟩ am_d5 (am_Tf_ok 7037 _ rfl rfl) (am_Tf_ok 107011 _ rfl rfl) ⟨_, _, rfl⟩
theorem am_n30 : am_okN am_cl am_Ts am_m30 1 0 := am_N0 ⟨am_c0.1, am_c0.2, (am_Tf_ok 7042 _ rfl rfl), (am_Tf_ok 1013 _ rfl rfl), by decide⟩ am_d5 (am_Tf_ok 7041 _ rfl rfl) (am_Tf_ok 107012 _ rfl rfl) ⟨_, _, rfl⟩
theorem am_n31 : am_okN am_cl am_Ts am_m31 0 0 := am_N0 ⟨am_c0.1, am_c0.2, (am_Tf_ok 7054 _ rfl rfl), (am_Tf_ok 1013 _ rfl rfl), by decide⟩ am_d4 (am_Tf_ok 7053 _ rfl rfl) (am_Tf_ok 107015 _ rfl rfl) ⟨_, _, rfl⟩
theorem am_n32 : am_okN am_cl am_Ts am_m32 1 0 := am_N0 ⟨am_c0.1, am_c0.2, (am_Tf_ok 7046 _ rfl rfl), (am_Tf_ok 1013 _ rfl rfl), by decide⟩ am_d5 (am_Tf_ok 7045 _ rfl rfl) (am_Tf_ok 107013 _ rfl rfl) ⟨_, _, rfl⟩
theorem am_n33 : am_okN am_cl am_Ts am_m33 1 0 := am_N0 ⟨am_c0.1, am_c0.2, (am_Tf_ok 7050 _ rfl rfl), (am_Tf_ok 1013 _ rfl rfl), by decide⟩ am_d5 (am_Tf_ok 7049 _ rfl rfl) (am_Tf_ok 107014 _ rfl rfl) ⟨_, _, rfl⟩
theorem am_n34 : am_okN am_cl am_Ts am_m34 0 0 := am_N0 ⟨am_c0.1, am_c0.2, (am_Tf_ok 6198 _ rfl rfl), (am_Tf_ok 1013 _ rfl rfl), by decide⟩ am_d3 (am_Tf_ok 6197 _ rfl rfl) (am_Tf_ok 106007 _ rfl rfl) ⟨_, _, rfl⟩
theorem am_n35 : am_okN am_cl am_Ts am_m35 2 0 := am_N0 ⟨am_c0.1, am_c0.2, (am_Tf_ok 7062 _ rfl rfl), (am_Tf_ok 1013 _ rfl rfl), by decide⟩ am_d9 (am_Tf_ok 7061 _ rfl rfl) (am_Tf_ok 108001 _ rfl rfl) ⟨_, _, rfl⟩
theorem am_n36 : am_okN am_cl am_Ts am_m36 0 0 := am_N0 ⟨am_c0.1, am_c0.2, (am_Tf_ok 7058 _ rfl rfl), (am_Tf_ok 1013 _ rfl rfl), by decide⟩ am_d3 (am_Tf_ok 7057 _ rfl rfl) (am_Tf_ok 108000 _ rfl rfl) ⟨_, _, rfl⟩
theorem am_n37 : am_okN am_cl am_Ts am_m37 1 0 := am_N0 ⟨am_c0.1, am_c0.2, (am_Tf_ok 7066 _ rfl rfl), (am_Tf_ok 1013 _ rfl rfl), by decide⟩ am_d8 (am_Tf_ok 7065 _ rfl rfl) (am_Tf_ok 108002 _ rfl rfl) ⟨_, _, rfl⟩
theorem am_n38 : am_okN am_cl am_Ts am_m38 0 0 := am_N0 ⟨am_c0.1, am_c0.2, (am_Tf_ok 6169 _ rfl rfl), (am_Tf_ok 1013 _ rfl rfl), by decide⟩ am_d0 (am_Tf_ok 6167 _ rfl rfl) (am_Tf_ok 6168 _ rfl rfl) ⟨_, _, rfl⟩
theorem am_n39 : am_okN am_cl am_Ts am_m39 1 0 := am_N0 ⟨am_c0.1, am_c0.2, (am_Tf_ok 7078 _ rfl rfl), (am_Tf_ok 1013 _ rfl rfl), by decide⟩ am_d7 (am_Tf_ok 7077 _ rfl rfl) (am_Tf_ok 108005 _ rfl rfl) ⟨_, _, rfl⟩
theorem am_n40 : am_okN am_cl am_Ts am_m40 3 0 := am_N0 ⟨am_c0.1, am_c0.2, (am_Tf_ok 7082 _ rfl rfl), (am_Tf_ok 1013 _ rfl rfl), by decide⟩ am_d15 (am_Tf_ok 7081 _ rfl rfl) (am_Tf_ok 108006 _ rfl rfl) ⟨_, _, rfl⟩
theorem am_n41 : am_okN am_cl am_Ts am_m41 1 0 := am_N0 ⟨am_c0.1, am_c0.2, (am_Tf_ok 7074 _ rfl rfl), (am_Tf_ok 1013 _ rfl rfl), by decide⟩ am_d7 (am_Tf_ok 7073 _ rfl rfl) (am_Tf_ok 108004 _ rfl rfl) ⟨_, _, rfl⟩
theorem am_n42 : am_okN am_cl am_Ts am_m42 0 0 := am_N0 ⟨am_c0.1, am_c0.2, (am_Tf_ok 7070 _ rfl rfl), (am_Tf_ok 1013 _ rfl rfl), by decide⟩ am_d3 (am_Tf_ok 7069 _ rfl rfl) (am_Tf_ok 108003 _ rfl rfl) ⟨_, _, rfl⟩
theorem am_n43 : am_okN am_cl am_Ts am_m43 1 0 := am_N0 ⟨am_c0.1, am_c0.2, (am_Tf_ok 7146 _ rfl rfl), (am_Tf_ok 1013 _ rfl rfl), by decide⟩ am_d5 (am_Tf_ok 7145 _ rfl rfl) (am_Tf_ok 109000 _ rfl rfl) ⟨_, _, rfl⟩
theorem am_n44 : am_okN am_cl am_Ts am_m44 2 2 := am_N2 ⟨am_c0.1, am_c0.2, (am_Tf_ok 7113 _ rfl rfl), (am_Tf_ok 1013 _ rfl rfl), by decide⟩ am_d10 (am_Tf_ok 7112 _ rfl rfl)
theorem am_n45 : am_okN am_cl am_Ts am_m45 1 2 := am_N2 ⟨am_c0.1, am_c0.2, (am_Tf_ok 7169 _ rfl rfl), (am_Tf_ok 1013 _ rfl rfl), by decide⟩ am_d26 (am_Tf_ok 7168 _ rfl rfl)
theorem am_n46 : am_okN am_cl am_Ts am_m46 1 0 := am_N0 ⟨am_c0.1, am_c0.2, (am_Tf_ok 7166 _ rfl rfl), (am_Tf_ok 1013 _ rfl rfl), by decide⟩ am_d28 (am_Tf_ok 7165 _ rfl rfl) (am_Tf_ok 109005 _ rfl rfl) ⟨_, _, rfl⟩
theorem am_n47 : am_okN am_cl am_Ts am_m47 0 0 := am_N0 ⟨am_c0.1, am_c0.2, (am_Tf_ok 7162 _ rfl rfl), (am_Tf_ok 1013 _ rfl rfl), by decide⟩ am_d0 (am_Tf_ok 7161 _ rfl rfl) (am_Tf_ok 109004 _ rfl rfl) ⟨_, _, rfl⟩
theorem am_n48 : am_okN am_cl am_Ts am_m48 1 0 := am_N0 ⟨am_c0.1, am_c0.2, (am_Tf_ok 7177 _ rfl rfl), (am_Tf_ok 1013 _ rfl rfl), by decide⟩ am_d27 (am_Tf_ok 7176 _ rfl rfl) (am_Tf_ok 109007 _ rfl rfl) ⟨_, _, rfl⟩
theorem am_n49 : am_okN am_cl am_Ts am_m49 0 0 := am_N0 ⟨am_c0.1, am_c0.2, (am_Tf_ok 7173 _ rfl rfl), (am_Tf_ok 1013 _ rfl rfl), by decide⟩ am_d3 (am_Tf_ok 7172 _ rfl rfl) (am_Tf_ok 109006 _ rfl rfl) ⟨_, _, rfl⟩
theorem am_n50 : am_okN am_cl am_Ts am_m50 1 0 := am_N0 ⟨am_c0.1, am_c0.2, (am_Tf_ok 7158 _ rfl rfl), (am_Tf_ok 1013 _ rfl rfl), by decide⟩ am_d8 (am_Tf_ok 7157 _ rfl rfl) (am_Tf_ok 109003 _ rfl rfl) ⟨_, _, rfl⟩
theorem am_n51 : am_okN am_cl am_Ts am_m51 3 0 := am_N0 ⟨am_c0.1, am_c0.2, (am_Tf_ok 7189 _ rfl rfl), (am_Tf_ok 1013 _ rfl rfl), by decide⟩ am_d13 (am_Tf_ok 7188 _ rfl rfl) (am_Tf_ok 109010 _ rfl rfl) ⟨_, _, rfl⟩
theorem am_n52 : am_okN am_cl am_Ts am_m52 1 0 := am_N0 ⟨am_c0.1, am_c0.2, (am_Tf_ok 7110 _ rfl rfl), (am_Tf_ok 1013 _ rfl rfl), by decide⟩ am_d5 (am_Tf_ok 7109 _ rfl rfl) (am_Tf_ok 108009 _ rfl rfl) ⟨_, _, rfl⟩
theorem am_n53 : am_okN am_cl am_Ts am_m53 4 0 := am_N0 ⟨am_c0.1, am_c0.2, (am_Tf_ok 7102 _ rfl rfl), (am_Tf_ok 1013 _ rfl rfl), by decide⟩ am_d21 (am_Tf_ok 7101 _ rfl rfl) (am_Tf_ok 108007 _ rfl rfl) ⟨_, _, rfl⟩
theorem am_n54 : am_okN am_cl am_Ts am_m54 1 0 := am_N0 ⟨am_c0.1, am_c0.2, (am_Tf_ok 7209 _ rfl rfl), (am_Tf_ok 1013 _ rfl rfl), by decide⟩ am_d28 (am_Tf_ok 7208 _ rfl rfl) (am_Tf_ok 109015 _ rfl rfl) ⟨_, _, rfl⟩
theorem am_n55 : am_okN am_cl am_Ts am_m55 0 0 := am_N0 ⟨am_c0.1, am_c0.2, (am_Tf_ok 7106 _ rfl rfl), (am_Tf_ok 1013 _ rfl rfl), by decide⟩ am_d3 (am_Tf_ok 7105 _ rfl rfl) (am_Tf_ok 108008 _ rfl rfl) ⟨_, _, rfl⟩
theorem am_n56 : am_okN am_cl am_Ts am_m56 1 0 := am_N0 ⟨am_c0.1, am_c0.2, (am_Tf_ok 7221 _ rfl rfl), (am_Tf_ok 1013 _ rfl rfl), by decide⟩ am_d7 (am_Tf_ok 7220 _ rfl rfl) (am_Tf_ok 110002 _ rfl rfl) ⟨_, _, rfl⟩
theorem am_n57 : am_okN am_cl am_Ts am_m57 0 0 := am_N0 ⟨am_c0.1, am_c0.2, (am_Tf_ok 8001 _ rfl rfl), (am_Tf_ok 1013 _ rfl rfl), by decide⟩ am_d3 (am_Tf_ok 8000 _ rfl rfl) (am_Tf_ok 110007 _ rfl rfl) ⟨_, _, rfl⟩
theorem am_n58 : am_okN am_cl am_Ts am_m58 1 0 := am_N0 ⟨am_c0.1, am_c0.2, (am_Tf_ok 7154 _ rfl rfl), (am_Tf_ok 1013 _ rfl rfl), by decide⟩ am_d7 (am_Tf_ok 7153 _ rfl rfl) (am_Tf_ok 109002 _ rfl rfl) ⟨_, _, rfl⟩
theorem am_n59 : am_okN am_cl am_Ts am_m59 2 0 := am_N0 ⟨am_c0.1, am_c0.2, (am_Tf_ok 7150 _ rfl rfl), (am_Tf_ok 1013 _ rfl rfl), by decide⟩ am_d12 (am_Tf_ok 7149 _ rfl rfl) (am_Tf_ok 109001 _ rfl rfl) ⟨_, _, rfl⟩
theorem am_n60 : am_okN am_cl am_Ts am_m60 1 0 := am_N0 ⟨am_c0.1, am_c0.2, (am_Tf_ok 7142 _ rfl rfl), (am_Tf_ok 1013 _ rfl rfl), by decide⟩ am_d8 (am_Tf_ok 7141 _ rfl rfl) (am_Tf_ok 108015 _ rfl rfl) ⟨_, _, rfl⟩
theorem am_n61 : am_okN am_cl am_Ts am_m61 1 0 := am_N0 ⟨am_c0.1, am_c0.2, (am_Tf_ok 7138 _ rfl rfl), (am_Tf_ok 1013 _ rfl rfl), by decide⟩ am_d8 (am_Tf_ok 7137 _ rfl rfl) (am_Tf_ok 108014 _ rfl rfl) ⟨_, _, rfl⟩
theorem am_n62 : am_okN am_cl am_Ts am_m62 1 0 := am_N0 ⟨am_c0.1, am_c0.2, (am_Tf_ok 7134 _ rfl rfl), (am_Tf_ok 1013 _ rfl rfl), by decide⟩ am_d5 (am_Tf_ok 7133 _ rfl rfl) (am_Tf_ok 108013 _ rfl rfl) ⟨_, _, rfl⟩
theorem am_n63 : am_okN am_cl am_Ts am_m63 1 0 := am_N0 ⟨am_c0.1, am_c0.2, (am_Tf_ok 7201 _ rfl rfl), (am_Tf_ok 1013 _ rfl rfl), by decide⟩ am_d5 (am_Tf_ok 7200 _ rfl rfl) (am_Tf_ok 109013 _ rfl rfl) ⟨_, _, rfl⟩
theorem am_n64 : am_okN am_cl am_Ts am_m64 1 0 := am_N0 ⟨am_c0.1, am_c0.2, (am_Tf_ok 7126 _ rfl rfl), (am_Tf_ok 1013 _ rfl rfl), by decide⟩ am_d6 (am_Tf_ok 7125 _ rfl rfl) (am_Tf_ok 108011 _ rfl rfl) ⟨_, _, rfl⟩
theorem am_n65 : am_okN am_cl am_Ts am_m65 1 0 := am_N0 ⟨am_c0.1, am_c0.2, (am_Tf_ok 7185 _ rfl rfl), (am_Tf_ok 1013 _ rfl rfl), by decide⟩ am_d5 (am_Tf_ok 7184 _ rfl rfl) (am_Tf_ok 109009 _ rfl rfl) ⟨_, _, rfl⟩
theorem am_n66 : am_okN am_cl am_Ts am_m66 2 0 := am_N0 ⟨am_c0.1, am_c0.2, (am_Tf_ok 7193 _ rfl rfl), (am_Tf_ok 1013 _ rfl rfl), by decide⟩ am_d11 (am_Tf_ok 7192 _ rfl rfl) (am_Tf_ok 109011 _ rfl rfl) ⟨_, _, rfl⟩
theorem am_n67 : am_okN am_cl am_Ts am_m67 1 0 := am_N0 ⟨am_c0.1, am_c0.2, (am_Tf_ok 7181 _ rfl rfl), (am_Tf_ok 1013 _ rfl rfl), by decide⟩ am_d6 (am_Tf_ok 7180 _ rfl rfl) (am_Tf_ok 109008 _ rfl rfl) ⟨_, _, rfl⟩
theorem am_n68 : am_okN am_cl am_Ts am_m68 1 0 := am_N0 ⟨am_c0.1, am_c0.2, (am_Tf_ok 7130 _ rfl rfl), (am_Tf_ok 1013 _ rfl rfl), by decide⟩ am_d28 (am_Tf_ok 7129 _ rfl rfl) (am_Tf_ok 108012 _ rfl rfl) ⟨_, _, rfl⟩
theorem am_n69 : am_okN am_cl am_Ts am_m69 1 0 := am_N0 ⟨am_c0.1, am_c0.2, (am_Tf_ok 7213 _ rfl rfl), (am_Tf_ok 1013 _ rfl rfl), by decide⟩ am_d7 (am_Tf_ok 7212 _ rfl rfl) (am_Tf_ok 110000 _ rfl rfl) ⟨_, _, rfl⟩
theorem am_n70 : am_okN am_cl am_Ts am_m70 1 0 := am_N0 ⟨am_c0.1, am_c0.2, (am_Tf_ok 7205 _ rfl rfl), (am_Tf_ok 1013 _ rfl rfl), by decide⟩ am_d7 (am_Tf_ok 7204 _ rfl rfl) (am_Tf_ok 109014 _ rfl rfl) ⟨_, _, rfl⟩
theorem am_n71 : am_okN am_cl am_Ts am_m71 1 0 := am_N0 ⟨am_c0.1, am_c0.2, (am_Tf_ok 7197 _ rfl rfl), (am_Tf_ok 1013 _ rfl rfl), by decide⟩ am_d7 (am_Tf_ok 7196 _ rfl rfl) (am_Tf_ok 109012 _ rfl rfl) ⟨_, _, rfl⟩
theorem am_n72 : am_okN am_cl am_Ts am_m72 1 0 := am_N0 ⟨am_c0.1, am_c0.2, (am_Tf_ok 7217 _ rfl rfl), (am_Tf_ok 1013 _ rfl rfl), by decide⟩ am_d7 (am_Tf_ok 7216 _ rfl rfl) (am_Tf_ok 110001 _ rfl rfl) ⟨_, _, rfl⟩
theorem am_n73 : am_okN am_cl am_Ts am_m73 0 0 := am_N0 ⟨am_c0.1, am_c0.2, (am_Tf_ok 7122 _ rfl rfl), (am_Tf_ok 1013 _ rfl rfl), by decide⟩ am_d3 (am_Tf_ok 7121 _ rfl rfl) (am_Tf_ok 108010 _ rfl rfl) ⟨_, _, rfl⟩
theorem am_n74 : am_okN am_cl am_Ts am_m74 0 0 := am_N0 ⟨am_c0.1, am_c0.2, (am_Tf_ok 7225 _ rfl rfl), (am_Tf_ok 1013 _ rfl rfl), by decide⟩ am_d3 (am_Tf_ok 7224 _ rfl rfl) (am_Tf_ok 110003 _ rfl rfl) ⟨_, _, rfl⟩
theorem am_n75 : am_okN am_cl am_Ts am_m75 1 0 := am_N0 ⟨am_c0.1, am_c0.2, (am_Tf_ok 7229 _ rfl rfl), (am_Tf_ok 1013 _ rfl rfl), by decide⟩ am_d7 (am_Tf_ok 7228 _ rfl rfl) (am_Tf_ok 110004 _ rfl rfl) ⟨_, _, rfl⟩
theorem am_n76 : am_okN am_cl am_Ts am_m76 0 0 := am_N0 ⟨am_c0.1, am_c0.2, (am_Tf_ok 7237 _ rfl rfl), (am_Tf_ok 1013 _ rfl rfl), by decide⟩ am_d3 (am_Tf_ok 7236 _ rfl rfl) (am_Tf_ok 110006 _ rfl rfl) ⟨_, _, rfl⟩
theorem am_n77 : am_okN am_cl am_Ts am_m77 1 0 := am_N0 ⟨am_c0.1, am_c0.2, (am_Tf_ok 8009 _ rfl rfl), (am_Tf_ok 1013 _ rfl rfl), by decide⟩ am_d29 (am_Tf_ok 8008 _ rfl rfl) (am_Tf_ok 110009 _ rfl rfl) ⟨_, _, rfl⟩
theorem am_n78 : am_okN am_cl am_Ts am_m78 0 0 := am_N0 ⟨am_c0.1, am_c0.2, (am_Tf_ok 8005 _ rfl rfl), (am_Tf_ok 1013 _ rfl rfl), by decide⟩ am_d3 (am_Tf_ok 8004 _ rfl rfl) (am_Tf_ok 110008 _ rfl rfl) ⟨_, _, rfl⟩
theorem am_n79 : am_okN am_cl am_Ts am_m79 0 0 := am_N0 ⟨am_c0.1, am_c0.2, (am_Tf_ok 8013 _ rfl rfl), (am_Tf_ok 1013 _ rfl rfl), by decide⟩ am_d3 (am_Tf_ok 8012 _ rfl rfl) (am_Tf_ok 110010 _ rfl rfl) ⟨_, _, rfl⟩
theorem am_n80 : am_okN am_cl am_Ts am_m80 0 0 := am_N0 ⟨am_c0.1, am_c0.2, (am_Tf_ok 8017 _ rfl rfl), (am_Tf_ok 1013 _ rfl rfl), by decide⟩ am_d3 (am_Tf_ok 8016 _ rfl rfl) (am_Tf_ok 110011 _ rfl rfl) ⟨_, _, rfl⟩
theorem am_n81 : am_okN am_cl am_Ts am_m81 0 0 := am_N0 ⟨am_c0.1, am_c0.2, (am_Tf_ok 8021 _ rfl rfl), (am_Tf_ok 1013 _ rfl rfl), by decide⟩ am_d3 (am_Tf_ok 8020 _ rfl rfl) (am_Tf_ok 110012 _ rfl rfl) ⟨_, _, rfl⟩
theorem am_n82 : am_okN am_cl am_Ts am_m82 1 0 := am_N0 ⟨am_c0.1, am_c0.2, (am_Tf_ok 8033 _ rfl rfl), (am_Tf_ok 1013 _ rfl rfl), by decide⟩ am_d8 (am_Tf_ok 8032 _ rfl rfl) (am_Tf_ok 110015 _ rfl rfl) ⟨_, _, rfl⟩
theorem am_n83 : am_okN am_cl am_Ts am_m83 1 0 := am_N0 ⟨am_c0.1, am_c0.2, (am_Tf_ok 8029 _ rfl rfl), (am_Tf_ok 1013 _ rfl rfl), by decide⟩ am_d8 (am_Tf_ok 8028 _ rfl rfl) (am_Tf_ok 110014 _ rfl rfl) ⟨_, _, rfl⟩
theorem am_n84 : am_okN am_cl am_Ts am_m84 1 0 := am_N0 ⟨am_c0.1, am_c0.2, (am_Tf_ok 8038 _ rfl rfl), (am_Tf_ok 1013 _ rfl rfl), by decide⟩ am_d8 (am_Tf_ok 8037 _ rfl rfl) (am_Tf_ok 111000 _ rfl rfl) ⟨_, _, rfl⟩
theorem am_n85 : am_okN am_cl am_Ts am_m85 0 0 := am_N0 ⟨am_c0.1, am_c0.2, (am_Tf_ok 8025 _ rfl rfl), (am_Tf_ok 1013 _ rfl rfl), by decide⟩ am_d3 (am_Tf_ok 8024 _ rfl rfl) (am_Tf_ok 110013 _ rfl rfl) ⟨_, _, rfl⟩
theorem am_n86 : am_okN am_cl am_Ts am_m86 0 0 := am_N0 ⟨am_c0.1, am_c0.2, (am_Tf_ok 8042 _ rfl rfl), (am_Tf_ok 1013 _ rfl rfl), by decide⟩ am_d4 (am_Tf_ok 8041 _ rfl rfl) (am_Tf_ok 111001 _ rfl rfl) ⟨_, _, rfl⟩
theorem am_n87 : am_okN am_cl am_Ts am_m87 0 0 := am_N0 ⟨am_c0.1, am_c0.2, (am_Tf_ok 7233 _ rfl rfl), (am_Tf_ok 1013 _ rfl rfl), by decide⟩ am_d3 (am_Tf_ok 7232 _ rfl rfl) (am_Tf_ok 110005 _ rfl rfl) ⟨_, _, rfl⟩
theorem am_n88 : am_okN am_cl am_Ts am_m88 5 0 := am_N0 ⟨am_c0.1, am_c0.2, (am_Tf_ok 7086 _ rfl rfl), (am_Tf_ok 1013 _ rfl rfl), by decide⟩ am_d19 (am_Tf_ok 7084 _ rfl rfl) (am_Tf_ok 7085 _ rfl rfl) ⟨_, _, rfl⟩
theorem am_n89 : am_okN am_cl am_Ts am_m89 1 0 := am_N0 ⟨am_c0.1, am_c0.2, (am_Tf_ok 7090 _ rfl rfl), (am_Tf_ok 1013 _ rfl rfl), by decide⟩ am_d5 (am_Tf_ok 7088 _ rfl rfl) (am_Tf_ok 7089 _ rfl rfl) ⟨_, _, rfl⟩
theorem am_n90 : am_okN am_cl am_Ts am_m90 1 0 := am_N0 ⟨am_c0.1, am_c0.2, (am_Tf_ok 7094 _ rfl rfl), (am_Tf_ok 1013 _ rfl rfl), by decide⟩ am_d5 (am_Tf_ok 7092 _ rfl rfl) (am_Tf_ok 7093 _ rfl rfl) ⟨_, _, rfl⟩
theorem am_n91 : am_okN am_cl am_Ts am_m91 0 0 := am_N0 ⟨am_c0.1, am_c0.2, (am_Tf_ok 7098 _ rfl rfl), (am_Tf_ok 1013 _ rfl rfl), by decide⟩ am_d0 (am_Tf_ok 7096 _ rfl rfl) (am_Tf_ok 7097 _ rfl rfl) ⟨_, _, rfl⟩
theorem am_n92 : am_okN am_cl am_Ts am_m92 1 0 := am_N0 ⟨am_c0.1, am_c0.2, (am_Tf_ok 7118 _ rfl rfl), (am_Tf_ok 1013 _ rfl rfl), by decide⟩ am_d5 (am_Tf_ok 7116 _ rfl rfl) (am_Tf_ok 7117 _ rfl rfl) ⟨_, _, rfl⟩
theorem am_n93 : am_okN am_cl am_Ts am_m93 0 0 := am_N0 ⟨am_c0.1, am_c0.2, (am_Tf_ok 8046 _ rfl rfl), (am_Tf_ok 1013 _ rfl rfl), by decide⟩ am_d0 (am_Tf_ok 8044 _ rfl rfl) (am_Tf_ok 8045 _ rfl rfl) ⟨_, _, rfl⟩
theorem am_n94 : am_okN am_cl am_Ts am_m94 1 0 := am_N0 ⟨am_c0.1, am_c0.2, (am_Tf_ok 8050 _ rfl rfl), (am_Tf_ok 1013 _ rfl rfl), by decide⟩ am_d5 (am_Tf_ok 8048 _ rfl rfl) (am_Tf_ok 8049 _ rfl rfl) ⟨_, _, rfl⟩
theorem am_n95 : am_okN am_cl am_Ts am_m95 1 0 := am_N0 ⟨am_c0.1, am_c0.2, (am_Tf_ok 8055 _ rfl rfl), (am_Tf_ok 1013 _ rfl rfl), by decide⟩ am_d5 (am_Tf_ok 8053 _ rfl rfl) (am_Tf_ok 8054 _ rfl rfl) ⟨_, _, rfl⟩
theorem am_n97 : am_okN am_cl am_Ts am_m97 0 1 := am_N1 ⟨am_c2.1, am_c2.2, (am_Tf_ok 1022 _ rfl rfl), (am_Tf_ok 1001 _ rfl rfl), by decide⟩ am_d3 (am_Tf_ok 1021 _ rfl rfl) rfl rfl
theorem am_n98 : am_okN am_cl am_Ts am_m98 5 0 := am_N0 ⟨am_c2.1, am_c2.2, (am_Tf_ok 2089 _ rfl rfl), (am_Tf_ok 1001 _ rfl rfl), by decide⟩ am_d19 (am_Tf_ok 2087 _ rfl rfl) (am_Tf_ok 2088 _ rfl rfl) ⟨_, _, rfl⟩
theorem am_n99 : am_okN am_cl am_Ts am_m99 1 0 := am_N0 ⟨am_c2.1, am_c2.2, (am_Tf_ok 2105 _ rfl rfl), (am_Tf_ok 1001 _ rfl rfl), by decide⟩ am_d5 (am_Tf_ok 2103 _ rfl rfl) (am_Tf_ok 2104 _ rfl rfl) ⟨_, _, rfl⟩
theorem am_n100 : am_okN am_cl am_Ts am_m100 0 0 := am_N0 ⟨am_c2.1, am_c2.2, (am_Tf_ok 2113 _ rfl rfl), (am_Tf_ok 1001 _ rfl rfl), by decide⟩ am_d0 (am_Tf_ok 2111 _ rfl rfl) (am_Tf_ok 2112 _ rfl rfl) ⟨_, _, rfl⟩
theorem am_n101 : am_okN am_cl am_Ts am_m101 1 0 := am_N0 ⟨am_c2.1, am_c2.2, (am_Tf_ok 3201 _ rfl rfl), (am_Tf_ok 1001 _ rfl rfl), by decide⟩ am_d5 (am_Tf_ok 3199 _ rfl rfl) (am_Tf_ok 3200 _ rfl rfl) ⟨_, _, rfl⟩
theorem am_n102 : am_okN am_cl am_Ts am_m102 0 0 := am_N0 ⟨am_c2.1, am_c2.2, (am_Tf_ok 3205 _ rfl rfl), (am_Tf_ok 1001 _ rfl rfl), by decide⟩ am_d0 (am_Tf_ok 3203 _ rfl rfl) (am_Tf_ok 3204 _ rfl rfl) ⟨_, _, rfl⟩
theorem am_n103 : am_okN am_cl am_Ts am_m103 1 0 := am_N0 ⟨am_c2.1, am_c2.2, (am_Tf_ok 3239 _ rfl rfl), (am_Tf_ok 1001 _ rfl rfl), by decide⟩ am_d5 (am_Tf_ok 3237 _ rfl rfl) (am_Tf_ok 3238 _ rfl rfl) ⟨_, _, rfl⟩
theorem am_n104 : am_okN am_cl am_Ts am_m104 0 0 := am_N0 ⟨am_c2.1, am_c2.2, (am_Tf_ok 5084 _ rfl rfl), (am_Tf_ok 1001 _ rfl rfl), by decide⟩ am_d0 (am_Tf_ok 5082 _ rfl rfl) (am_Tf_ok 5083 _ rfl rfl) ⟨_, _, rfl⟩
theorem am_n105 : am_okN am_cl am_Ts am_m105 1 0 := am_N0 ⟨am_c2.1, am_c2.2, (am_Tf_ok 5092 _ rfl rfl), (am_Tf_ok 1001 _ rfl rfl), by decide⟩ am_d5 (am_Tf_ok 5090 _ rfl rfl) (am_Tf_ok 5091 _ rfl rfl) ⟨_, _, rfl⟩
theorem am_n106 : am_okN am_cl am_Ts am_m106 1 0 := am_N0 ⟨am_c2.1, am_c2.2, (am_Tf_ok 5097 _ rfl rfl), (am_Tf_ok 1001 _ rfl rfl), by decide⟩ am_d5 (am_Tf_ok 5095 _ rfl rfl) (am_Tf_ok 5096 _ rfl rfl) ⟨_, _, rfl⟩
theorem am_n107 : am_okN am_cl am_Ts am_m107 1 1 := am_N1 ⟨am_c3.1, am_c3.2, (am_Tf_ok 1184 _ rfl rfl), (am_Tf_ok 1008 _ rfl rfl), by decide⟩ am_d34 (am_Tf_ok 1183 _ rfl rfl) rfl rfl
theorem am_n108 : am_okN am_cl am_Ts am_m108 0 0 := am_N0 ⟨am_c3.1, am_c3.2, (am_Tf_ok 3148 _ rfl rfl), (am_Tf_ok 1008 _ rfl rfl), by decide⟩ am_d0 (am_Tf_ok 3146 _ rfl rfl) (am_Tf_ok 3147 _ rfl rfl) ⟨_, _, rfl⟩
theorem am_n109 : am_okN am_cl am_Ts am_m109 1 0 := am_N0 ⟨am_c3.1, am_c3.2, (am_Tf_ok 3153 _ rfl rfl), (am_Tf_ok 1008 _ rfl rfl), by decide⟩ am_d8 (am_Tf_ok 3152 _ rfl rfl) (am_Tf_ok 102014 _ rfl rfl) ⟨_, _, rfl⟩
theorem am_n110 : am_okN am_cl am_Ts am_m110 2 0 := am_N0 ⟨am_c3.1, am_c3.2, (am_Tf_ok 3158 _ rfl rfl), (am_Tf_ok 1008 _ rfl rfl), by decide⟩ am_d9 (am_Tf_ok 3157 _ rfl rfl) (am_Tf_ok 102015 _ rfl rfl) ⟨_, _, rfl⟩
theorem am_n111 : am_okN am_cl am_Ts am_m111 1 0 := am_N0 ⟨am_c3.1, am_c3.2, (am_Tf_ok 3172 _ rfl rfl), (am_Tf_ok 1008 _ rfl rfl), by decide⟩ am_d7 (am_Tf_ok 3171 _ rfl rfl) (am_Tf_ok 103000 _ rfl rfl) ⟨_, _, rfl⟩
theorem am_n112 : am_okN am_cl am_Ts am_m112 1 0 := am_N0 ⟨am_c3.1, am_c3.2, (am_Tf_ok 3184 _ rfl rfl), (am_Tf_ok 1008 _ rfl rfl), by decide⟩ am_d5 (am_Tf_ok 3183 _ rfl rfl) (am_Tf_ok 103002 _ rfl rfl) ⟨_, _, rfl⟩
theorem am_n113 : am_okN am_cl am_Ts am_m113 1 0 := am_N0 ⟨am_c3.1, am_c3.2, (am_Tf_ok 3188 _ rfl rfl), (am_Tf_ok 1008 _ rfl rfl), by decide⟩ am_d5 (am_Tf_ok 3187 _ rfl rfl) (am_Tf_ok 103003 _ rfl rfl) ⟨_, _, rfl⟩
theorem am_n114 : am_okN am_cl am_Ts am_m114 1 0 := am_N0 ⟨am_c3.1, am_c3.2, (am_Tf_ok 3192 _ rfl rfl), (am_Tf_ok 1008 _ rfl rfl), by decide⟩ am_d8 (am_Tf_ok 3191 _ rfl rfl) (am_Tf_ok 103004 _ rfl rfl) ⟨_, _, rfl⟩
theorem am_n115 : am_okN am_cl am_Ts am_m115 1 0 := am_N0 ⟨am_c3.1, am_c3.2, (am_Tf_ok 3196 _ rfl rfl), (am_Tf_ok 1008 _ rfl rfl), by decide⟩ am_d8 (am_Tf_ok 3195 _ rfl rfl) (am_Tf_ok 103005 _ rfl rfl) ⟨_, _, rfl⟩
theorem am_n116 : am_okN am_cl am_Ts am_m116 1 0 := am_N0 ⟨am_c3.1, am_c3.2, (am_Tf_ok 3176 _ rfl rfl), (am_Tf_ok 1008 _ rfl rfl), by decide⟩ am_d5 (am_Tf_ok 3175 _ rfl rfl) (am_Tf_ok 103001 _ rfl rfl) ⟨_, _, rfl⟩
theorem am_n117 : am_okN am_cl am_Ts am_m117 1 1 := am_N1 ⟨am_c4.1, am_c4.2, (am_Tf_ok 1030 _ rfl rfl), (am_Tf_ok 1002 _ rfl rfl), by decide⟩ am_d7 (am_Tf_ok 1029 _ rfl rfl) rfl rfl
theorem am_n118 : am_okN am_cl am_Ts am_m118 0 0 := am_N0 ⟨am_c4.1, am_c4.2, (am_Tf_ok 2093 _ rfl rfl), (am_Tf_ok 1002 _ rfl rfl), by decide⟩ am_d0 (am_Tf_ok 2091 _ rfl rfl) (am_Tf_ok 2092 _ rfl rfl) ⟨_, _, rfl⟩
theorem am_n119 : am_okN am_cl am_Ts am_m119 0 0 := am_N0 ⟨am_c4.1, am_c4.2, (am_Tf_ok 5080 _ rfl rfl), (am_Tf_ok 1002 _ rfl rfl), by decide⟩ am_d4 (am_Tf_ok 5078 _ rfl rfl) (am_Tf_ok 5079 _ rfl rfl) ⟨_, _, rfl⟩
theorem am_n120 : am_okN am_cl am_Ts am_m120 1 0 := am_N0 ⟨am_c4.1, am_c4.2, (am_Tf_ok 2149 _ rfl rfl), (am_Tf_ok 1002 _ rfl rfl), by decide⟩ am_d5 (am_Tf_ok 2147 _ rfl rfl) (am_Tf_ok 2148 _ rfl rfl) ⟨_, _, rfl⟩
theorem am_n121 : am_okN am_cl am_Ts am_m121 1 0 := am_N0 ⟨am_c4.1, am_c4.2, (am_Tf_ok 2109 _ rfl rfl), (am_Tf_ok 1002 _ rfl rfl), by decide⟩ am_d7 (am_Tf_ok 2107 _ rfl rfl) (am_Tf_ok 2108 _ rfl rfl) ⟨_, _, rfl⟩
theorem am_n122 : am_okN am_cl am_Ts am_m122 1 0 := am_N0 ⟨am_c4.1, am_c4.2, (am_Tf_ok 2101 _ rfl rfl), (am_Tf_ok 1002 _ rfl rfl), by decide⟩ am_d7 (am_Tf_ok 2099 _ rfl rfl) (am_Tf_ok 2100 _ rfl rfl) ⟨_, _, rfl⟩
theorem am_n123 : am_okN am_cl am_Ts am_m123 1 0 := am_N0 ⟨am_c4.1, am_c4.2, (am_Tf_ok 2097 _ rfl rfl), (am_Tf_ok 1002 _ rfl rfl), by decide⟩ am_d7 (am_Tf_ok 2095 _ rfl rfl) (am_Tf_ok 2096 _ rfl rfl) ⟨_, _, rfl⟩
theorem am_n124 : am_okN am_cl am_Ts am_m124 1 0 := am_N0 ⟨am_c4.1, am_c4.2, (am_Tf_ok 2153 _ rfl rfl), (am_Tf_ok 1002 _ rfl rfl), by decide⟩ am_d36 (am_Tf_ok 2151 _ rfl rfl) (am_Tf_ok 2152 _ rfl rfl) ⟨_, _, rfl⟩
theorem am_n125 : am_okN am_cl am_Ts am_m125 3 0 := am_N0 ⟨am_c4.1, am_c4.2, (am_Tf_ok 2145 _ rfl rfl), (am_Tf_ok 1002 _ rfl rfl), by decide⟩ am_d32 (am_Tf_ok 2143 _ rfl rfl) (am_Tf_ok 2144 _ rfl rfl) ⟨_, _, rfl⟩
theorem am_n126 : am_okN am_cl am_Ts am_m126 1 0 := am_N0 ⟨am_c4.1, am_c4.2, (am_Tf_ok 5071 _ rfl rfl), (am_Tf_ok 1002 _ rfl rfl), by decide⟩ am_d7 (am_Tf_ok 5069 _ rfl rfl) (am_Tf_ok 5070 _ rfl rfl) ⟨_, _, rfl⟩
theorem am_n127 : am_okN am_cl am_Ts am_m127 0 1 := am_N1 ⟨am_c5.1, am_c5.2, (am_Tf_ok 1203 _ rfl rfl), (am_Tf_ok 1010 _ rfl rfl), by decide⟩ am_d3 (am_Tf_ok 1202 _ rfl rfl) rfl rfl
theorem am_n128 : am_okN am_cl am_Ts am_m128 1 0 := am_N0 ⟨am_c5.1, am_c5.2, (am_Tf_ok 2125 _ rfl rfl), (am_Tf_ok 1010 _ rfl rfl), by decide⟩ am_d7 (am_Tf_ok 2123 _ rfl rfl) (am_Tf_ok 2124 _ rfl rfl) ⟨_, _, rfl⟩
theorem am_n129 : am_okN am_cl am_Ts am_m129 0 0 := am_N0 ⟨am_c5.1, am_c5.2, (am_Tf_ok 5117 _ rfl rfl), (am_Tf_ok 1010 _ rfl rfl), by decide⟩ am_d0 (am_Tf_ok 5115 _ rfl rfl) (am_Tf_ok 5116 _ rfl rfl) ⟨_, _, rfl⟩
theorem am_n130 : am_okN am_cl am_Ts am_m130 0 0 := am_N0 ⟨am_c5.1, am_c5.2, (am_Tf_ok 5109 _ rfl rfl), (am_Tf_ok 1010 _ rfl rfl), by decide⟩ am_d0 (am_Tf_ok 5107 _ rfl rfl) (am_Tf_ok 5108 _ rfl rfl) ⟨_, _, rfl⟩
theorem am_n131 : am_okN am_cl am_Ts am_m131 1 0 := am_N0 ⟨am_c5.1, am_c5.2, (am_Tf_ok 4097 _ rfl rfl), (am_Tf_ok 1010 _ rfl rfl), by decide⟩ am_d8 (am_Tf_ok 4095 _ rfl rfl) (am_Tf_ok 4096 _ rfl rfl) ⟨_, _, rfl⟩
theorem am_n132 : am_okN am_cl am_Ts am_m132 3 0 := am_N0 ⟨am_c5.1, am_c5.2, (am_Tf_ok 4163 _ rfl rfl), (am_Tf_ok 1010 _ rfl rfl), by decide⟩ am_d13 (am_Tf_ok 4161 _ rfl rfl) (am_Tf_ok 4162 _ rfl rfl) ⟨_, _, rfl⟩
theorem am_n133 : am_okN am_cl am_Ts am_m133 3 2 := am_N2 ⟨am_c5.1, am_c5.2, (am_Tf_ok 4123 _ rfl rfl), (am_Tf_ok 1010 _ rfl rfl), by decide⟩ am_d14 (am_Tf_ok 4122 _ rfl rfl)
theorem am_n134 : am_okN am_cl am_Ts am_m134 1 0 := am_N0 ⟨am_c5.1, am_c5.2, (am_Tf_ok 4081 _ rfl rfl), (am_Tf_ok 1010 _ rfl rfl), by decide⟩ am_d5 (am_Tf_ok 4079 _ rfl rfl) (am_Tf_ok 4080 _ rfl rfl) ⟨_, _, rfl⟩
theorem am_n135 : am_okN am_cl am_Ts am_m135 1 0 := am_N0 ⟨am_c5.1, am_c5.2, (am_Tf_ok 4061 _ rfl rfl), (am_Tf_ok 1010 _ rfl rfl), by decide⟩ am_d5 (am_Tf_ok 4059 _ rfl rfl) (am_Tf_ok 4060 _ rfl rfl) ⟨_, _, rfl⟩
theorem am_n136 : am_okN am_cl am_Ts am_m136 1 2 := am_N2 ⟨am_c5.1, am_c5.2, (am_Tf_ok 4064 _ rfl rfl), (am_Tf_ok 1010 _ rfl rfl), by decide⟩ am_d26 (am_Tf_ok 4063 _ rfl rfl)
theorem am_n137 : am_okN am_cl am_Ts am_m137 2 0 := am_N0 ⟨am_c5.1, am_c5.2, (am_Tf_ok 4073 _ rfl rfl), (am_Tf_ok 1010 _ rfl rfl), by decide⟩ am_d10 (am_Tf_ok 4071 _ rfl rfl) (am_Tf_ok 4072 _ rfl rfl) ⟨_, _, rfl⟩
theorem am_n138 : am_okN am_cl am_Ts am_m138 3 0 := am_N0 ⟨am_c5.1, am_c5.2, (am_Tf_ok 4171 _ rfl rfl), (am_Tf_ok 1010 _ rfl rfl), by decide⟩ am_d22 (am_Tf_ok 4169 _ rfl rfl) (am_Tf_ok 4170 _ rfl rfl) ⟨_, _, rfl⟩
theorem am_n139 : am_okN am_cl am_Ts am_m139 1 0 := am_N0 ⟨am_c5.1, am_c5.2, (am_Tf_ok 4027 _ rfl rfl), (am_Tf_ok 1010 _ rfl rfl), by decide⟩ am_d26 (am_Tf_ok 4025 _ rfl rfl) (am_Tf_ok 4026 _ rfl rfl) ⟨_, _, rfl⟩
theorem am_n140 : am_okN am_cl am_Ts am_m140 1 0 := am_N0 ⟨am_c5.1, am_c5.2, (am_Tf_ok 4219 _ rfl rfl), (am_Tf_ok 1010 _ rfl rfl), by decide⟩ am_d7 (am_Tf_ok 4217 _ rfl rfl) (am_Tf_ok 4218 _ rfl rfl) ⟨_, _, rfl⟩
theorem am_n141 : am_okN am_cl am_Ts am_m141 2 0 := am_N0 ⟨am_c5.1, am_c5.2, (am_Tf_ok 4239 _ rfl rfl), (am_Tf_ok 1010 _ rfl rfl), by decide⟩ am_d23 (am_Tf_ok 4237 _ rfl rfl) (am_Tf_ok 4238 _ rfl rfl) ⟨_, _, rfl⟩
theorem am_n142 : am_okN am_cl am_Ts am_m142 1 0 := am_N0 ⟨am_c5.1, am_c5.2, (am_Tf_ok 4211 _ rfl rfl), (am_Tf_ok 1010 _ rfl rfl), by decide⟩ am_d6 (am_Tf_ok 4209 _ rfl rfl) (am_Tf_ok 4210 _ rfl rfl) ⟨_, _, rfl⟩
theorem am_n143 : am_okN am_cl am_Ts am_m143 0 0 := am_N0 ⟨am_c5.1, am_c5.2, (am_Tf_ok 4105 _ rfl rfl), (am_Tf_ok 1010 _ rfl rfl), by decide⟩ am_d3 (am_Tf_ok 4103 _ rfl rfl) (am_Tf_ok 4104 _ rfl rfl) ⟨_, _, rfl⟩
theorem am_n144 : am_okN am_cl am_Ts am_m144 1 0 := am_N0 ⟨am_c5.1, am_c5.2, (am_Tf_ok 4113 _ rfl rfl), (am_Tf_ok 1010 _ rfl rfl), by decide⟩ am_d27 (am_Tf_ok 4111 _ rfl rfl) (am_Tf_ok 4112 _ rfl rfl) ⟨_, _, rfl⟩
theorem am_n145 : am_okN am_cl am_Ts am_m145 1 0 := am_N0 ⟨am_c5.1, am_c5.2, (am_Tf_ok 4117 _ rfl rfl), (am_Tf_ok 1010 _ rfl rfl), by decide⟩ am_d6 (am_Tf_ok 4116 _ rfl rfl) (am_Tf_ok 104001 _ rfl rfl) ⟨_, _, rfl⟩
theorem am_n146 : am_okN am_cl am_Ts am_m146 0 0 := am_N0 ⟨am_c5.1, am_c5.2, (am_Tf_ok 4137 _ rfl rfl), (am_Tf_ok 1010 _ rfl rfl), by decide⟩ am_d3 (am_Tf_ok 4135 _ rfl rfl) (am_Tf_ok 4136 _ rfl rfl) ⟨_, _, rfl⟩
theorem am_n147 : am_okN am_cl am_Ts am_m147 1 1 := am_N1 ⟨am_c6.1, am_c6.2, (am_Tf_ok 1197 _ rfl rfl), (am_Tf_ok 1009 _ rfl rfl), by decide⟩ am_d34 (am_Tf_ok 1196 _ rfl rfl) rfl rfl
theorem am_n148 : am_okN am_cl am_Ts am_m148 0 0 := am_N0 ⟨am_c6.1, am_c6.2, (am_Tf_ok 4003 _ rfl rfl), (am_Tf_ok 1009 _ rfl rfl), by decide⟩ am_d4 (am_Tf_ok 4001 _ rfl rfl) (am_Tf_ok 4002 _ rfl rfl) ⟨_, _, rfl⟩
theorem am_n149 : am_okN am_cl am_Ts am_m149 0 0 := am_N0 ⟨am_c6.1, am_c6.2, (am_Tf_ok 5088 _ rfl rfl), (am_Tf_ok 1009 _ rfl rfl), by decide⟩ am_d2 (am_Tf_ok 5086 _ rfl rfl) (am_Tf_ok 5087 _ rfl rfl) ⟨_, _, rfl⟩
theorem am_n150 : am_okN am_cl am_Ts am_m150 0 0 := am_N0 ⟨am_c6.1, am_c6.2, (am_Tf_ok 5101 _ rfl rfl), (am_Tf_ok 1009 _ rfl rfl), by decide⟩ am_d0 (am_Tf_ok 5099 _ rfl rfl) (am_Tf_ok 5100 _ rfl rfl) ⟨_, _, rfl⟩
theorem am_n151 : am_okN am_cl am_Ts am_m151 0 0 := am_N0 ⟨am_c6.1, am_c6.2, (am_Tf_ok 5105 _ rfl rfl), (am_Tf_ok 1009 _ rfl rfl), by decide⟩ am_d0 (am_Tf_ok 5103 _ rfl rfl) (am_Tf_ok 5104 _ rfl rfl) ⟨_, _, rfl⟩
theorem am_n152 : am_okN am_cl am_Ts am_m152 0 0 := am_N0 ⟨am_c6.1, am_c6.2, (am_Tf_ok 5121 _ rfl rfl), (am_Tf_ok 1009 _ rfl rfl), by decide⟩ am_d0 (am_Tf_ok 5119 _ rfl rfl) (am_Tf_ok 5120 _ rfl rfl) ⟨_, _, rfl⟩
theorem am_n153 : am_okN am_cl am_Ts am_m153 0 0 := am_N0 ⟨am_c6.1, am_c6.2, (am_Tf_ok 5125 _ rfl rfl), (am_Tf_ok 1009 _ rfl rfl), by decide⟩ am_d0 (am_Tf_ok 5123 _ rfl rfl) (am_Tf_ok 5124 _ rfl rfl) ⟨_, _, rfl⟩
theorem am_n154 : am_okN am_cl am_Ts am_m154 0 0 := am_N0 ⟨am_c6.1, am_c6.2, (am_Tf_ok 5133 _ rfl rfl), (am_Tf_ok 1009 _ rfl rfl), by decide⟩ am_d0 (am_Tf_ok 5131 _ rfl rfl) (am_Tf_ok 5132 _ rfl rfl) ⟨_, _, rfl⟩
theorem am_n155 : am_okN am_cl am_Ts am_m155 0 0 := am_N0 ⟨am_c6.1, am_c6.2, (am_Tf_ok 5113 _ rfl rfl), (am_Tf_ok 1009 _ rfl rfl), by decide⟩ am_d0 (am_Tf_ok 5111 _ rfl rfl) (am_Tf_ok 5112 _ rfl rfl) ⟨_, _, rfl⟩
theorem am_n156 : am_okN am_cl am_Ts am_m156 0 0 := am_N0 ⟨am_c6.1, am_c6.2, (am_Tf_ok 2117 _ rfl rfl), (am_Tf_ok 1009 _ rfl rfl), by decide⟩ am_d3 (am_Tf_ok 2115 _ rfl rfl) (am_Tf_ok 2116 _ rfl rfl) ⟨_, _, rfl⟩
theorem am_n157 : am_okN am_cl am_Ts am_m157 1 0 := am_N0 ⟨am_c6.1, am_c6.2, (am_Tf_ok 2121 _ rfl rfl), (am_Tf_ok 1009 _ rfl rfl), by decide⟩ am_d7 (am_Tf_ok 2120 _ rfl rfl) (am_Tf_ok 101000 _ rfl rfl) ⟨_, _, rfl⟩
theorem am_n158 : am_okN am_cl am_Ts am_m158 1 0 := am_N0 ⟨am_c6.1, am_c6.2, (am_Tf_ok 3209 _ rfl rfl), (am_Tf_ok 1009 _ rfl rfl), by decide⟩ am_d7 (am_Tf_ok 3207 _ rfl rfl) (am_Tf_ok 3208 _ rfl rfl) ⟨_, _, rfl⟩
theorem am_n159 : am_okN am_cl am_Ts am_m159 1 0 := am_N0 ⟨am_c6.1, am_c6.2, (am_Tf_ok 4007 _ rfl rfl), (am_Tf_ok 1009 _ rfl rfl), by decide⟩ am_d5 (am_Tf_ok 4005 _ rfl rfl) (am_Tf_ok 4006 _ rfl rfl) ⟨_, _, rfl⟩
theorem am_n160 : am_okN am_cl am_Ts am_m160 0 0 := am_N0 ⟨am_c6.1, am_c6.2, (am_Tf_ok 4011 _ rfl rfl), (am_Tf_ok 1009 _ rfl rfl), by decide⟩ am_d4 (am_Tf_ok 4010 _ rfl rfl) (am_Tf_ok 103007 _ rfl rfl) ⟨_, _, rfl⟩
theorem am_n161 : am_okN am_cl am_Ts am_m161 1 0 := am_N0 ⟨am_c6.1, am_c6.2, (am_Tf_ok 4187 _ rfl rfl), (am_Tf_ok 1009 _ rfl rfl), by decide⟩ am_d7 (am_Tf_ok 4186 _ rfl rfl) (am_Tf_ok 104011 _ rfl rfl) ⟨_, _, rfl⟩
theorem am_n162 : am_okN am_cl am_Ts am_m162 1 0 := am_N0 ⟨am_c6.1, am_c6.2, (am_Tf_ok 3235 _ rfl rfl), (am_Tf_ok 1009 _ rfl rfl), by decide⟩ am_d28 (am_Tf_ok 3234 _ rfl rfl) (am_Tf_ok 103006 _ rfl rfl) ⟨_, _, rfl⟩
theorem am_n163 : am_okN am_cl am_Ts am_m163 1 0 := am_N0 ⟨am_c6.1, am_c6.2, (am_Tf_ok 4151 _ rfl rfl), (am_Tf_ok 1009 _ rfl rfl), by decide⟩ am_d28 (am_Tf_ok 4150 _ rfl rfl) (am_Tf_ok 104005 _ rfl rfl) ⟨_, _, rfl⟩
theorem am_n164 : am_okN am_cl am_Ts am_m164 1 0 := am_N0 ⟨am_c6.1, am_c6.2, (am_Tf_ok 4093 _ rfl rfl), (am_Tf_ok 1009 _ rfl rfl), by decide⟩ am_d7 (am_Tf_ok 4092 _ rfl rfl) (am_Tf_ok 103015 _ rfl rfl) ⟨_, _, rfl⟩
theorem am_n165 : am_okN am_cl am_Ts am_m165 0 0 := am_N0 ⟨am_c6.1, am_c6.2, (am_Tf_ok 4015 _ rfl rfl), (am_Tf_ok 1009 _ rfl rfl), by decide⟩ am_d0 (am_Tf_ok 4014 _ rfl rfl) (am_Tf_ok 103008 _ rfl rfl) ⟨_, _, rfl⟩
theorem am_n166 : am_okN am_cl am_Ts am_m166 0 0 := am_N0 ⟨am_c6.1, am_c6.2, (am_Tf_ok 4053 _ rfl rfl), (am_Tf_ok 1009 _ rfl rfl), by decide⟩ am_d0 (am_Tf_ok 4052 _ rfl rfl) (am_Tf_ok 103010 _ rfl rfl) ⟨_, _, rfl⟩
theorem am_n167 : am_okN am_cl am_Ts am_m167 0 0 := am_N0 ⟨am_c6.1, am_c6.2, (am_Tf_ok 4020 _ rfl rfl), (am_Tf_ok 1009 _ rfl rfl), by decide⟩ am_d4 (am_Tf_ok 4019 _ rfl rfl) (am_Tf_ok 103009 _ rfl rfl) ⟨_, _, rfl⟩
theorem am_n168 : am_okN am_cl am_Ts am_m168 2 0 := am_N0 ⟨am_c6.1, am_c6.2, (am_Tf_ok 4085 _ rfl rfl), (am_Tf_ok 1009 _ rfl rfl), by decide⟩ am_d12 (am_Tf_ok 4084 _ rfl rfl) (am_Tf_ok 103014 _ rfl rfl) ⟨_, _, rfl⟩
theorem am_n169 : am_okN am_cl am_Ts am_m169 0 0 := am_N0 ⟨am_c6.1, am_c6.2, (am_Tf_ok 4101 _ rfl rfl), (am_Tf_ok 1009 _ rfl rfl), by decide⟩ am_d3 (am_Tf_ok 4100 _ rfl rfl) (am_Tf_ok 104000 _ rfl rfl) ⟨_, _, rfl⟩
theorem am_n170 : am_okN am_cl am_Ts am_m170 0 0 := am_N0 ⟨am_c6.1, am_c6.2, (am_Tf_ok 4127 _ rfl rfl), (am_Tf_ok 1009 _ rfl rfl), by decide⟩ am_d3 (am_Tf_ok 4126 _ rfl rfl) (am_Tf_ok 104002 _ rfl rfl) ⟨_, _, rfl⟩
theorem am_n171 : am_okN am_cl am_Ts am_m171 0 0 := am_N0 ⟨am_c6.1, am_c6.2, (am_Tf_ok 4143 _ rfl rfl), (am_Tf_ok 1009 _ rfl rfl), by decide⟩ am_d3 (am_Tf_ok 4142 _ rfl rfl) (am_Tf_ok 104003 _ rfl rfl) ⟨_, _, rfl⟩
theorem am_n172 : am_okN am_cl am_Ts am_m172 1 0 := am_N0 ⟨am_c6.1, am_c6.2, (am_Tf_ok 4147 _ rfl rfl), (am_Tf_ok 1009 _ rfl rfl), by decide⟩ am_d6 (am_Tf_ok 4146 _ rfl rfl) (am_Tf_ok 104004 _ rfl rfl) ⟨_, _, rfl⟩
theorem am_n173 : am_okN am_cl am_Ts am_m173 0 0 := am_N0 ⟨am_c6.1, am_c6.2, (am_Tf_ok 4175 _ rfl rfl), (am_Tf_ok 1009 _ rfl rfl), by decide⟩ am_d3 (am_Tf_ok 4174 _ rfl rfl) (am_Tf_ok 104009 _ rfl rfl) ⟨_, _, rfl⟩
theorem am_n174 : am_okN am_cl am_Ts am_m174 0 0 := am_N0 ⟨am_c6.1, am_c6.2, (am_Tf_ok 4179 _ rfl rfl), (am_Tf_ok 1009 _ rfl rfl), by decide⟩ am_d3 (am_Tf_ok 4178 _ rfl rfl) (am_Tf_ok 104010 _ rfl rfl) ⟨_, _, rfl⟩
theorem am_n175 : am_okN am_cl am_Ts am_m175 0 0 := am_N0 ⟨am_c6.1, am_c6.2, (am_Tf_ok 4191 _ rfl rfl), (am_Tf_ok 1009 _ rfl rfl), by decide⟩ am_d3 (am_Tf_ok 4190 _ rfl rfl) (am_Tf_ok 104012 _ rfl rfl) ⟨_, _, rfl⟩
theorem am_n176 : am_okN am_cl am_Ts am_m176 3 0 := am_N0 ⟨am_c6.1, am_c6.2, (am_Tf_ok 4195 _ rfl rfl), (am_Tf_ok 1009 _ rfl rfl), by decide⟩ am_d15 (am_Tf_ok 4194 _ rfl rfl) (am_Tf_ok 104013 _ rfl rfl) ⟨_, _, rfl⟩
theorem am_n177 : am_okN am_cl am_Ts am_m177 1 0 := am_N0 ⟨am_c6.1, am_c6.2, (am_Tf_ok 4155 _ rfl rfl), (am_Tf_ok 1009 _ rfl rfl), by decide⟩ am_d6 (am_Tf_ok 4154 _ rfl rfl) (am_Tf_ok 104006 _ rfl rfl) ⟨_, _, rfl⟩
theorem am_n178 : am_okN am_cl am_Ts am_m178 1 0 := am_N0 ⟨am_c6.1, am_c6.2, (am_Tf_ok 4159 _ rfl rfl), (am_Tf_ok 1009 _ rfl rfl), by decide⟩ am_d5 (am_Tf_ok 4158 _ rfl rfl) (am_Tf_ok 104007 _ rfl rfl) ⟨_, _, rfl⟩
theorem am_n179 : am_okN am_cl am_Ts am_m179 2 0 := am_N0 ⟨am_c6.1, am_c6.2, (am_Tf_ok 4167 _ rfl rfl), (am_Tf_ok 1009 _ rfl rfl), by decide⟩ am_d11 (am_Tf_ok 4166 _ rfl rfl) (am_Tf_ok 104008 _ rfl rfl) ⟨_, _, rfl⟩
theorem am_n180 : am_okN am_cl am_Ts am_m180 2 0 := am_N0 ⟨am_c6.1, am_c6.2, (am_Tf_ok 4215 _ rfl rfl), (am_Tf_ok 1009 _ rfl rfl), by decide⟩ am_d11 (am_Tf_ok 4214 _ rfl rfl) (am_Tf_ok 105001 _ rfl rfl) ⟨_, _, rfl⟩
theorem am_n181 : am_okN am_cl am_Ts am_m181 1 0 := am_N0 ⟨am_c6.1, am_c6.2, (am_Tf_ok 5019 _ rfl rfl), (am_Tf_ok 1009 _ rfl rfl), by decide⟩ am_d7 (am_Tf_ok 5018 _ rfl rfl) (am_Tf_ok 105007 _ rfl rfl) ⟨_, _, rfl⟩
theorem am_n182 : am_okN am_cl am_Ts am_m182 0 0 := am_N0 ⟨am_c6.1, am_c6.2, (am_Tf_ok 4199 _ rfl rfl), (am_Tf_ok 1009 _ rfl rfl), by decide⟩ am_d3 (am_Tf_ok 4198 _ rfl rfl) (am_Tf_ok 104014 _ rfl rfl) ⟨_, _, rfl⟩
theorem am_n183 : am_okN am_cl am_Ts am_m183 1 0 := am_N0 ⟨am_c6.1, am_c6.2, (am_Tf_ok 4203 _ rfl rfl), (am_Tf_ok 1009 _ rfl rfl), by decide⟩ am_d7 (am_Tf_ok 4202 _ rfl rfl) (am_Tf_ok 104015 _ rfl rfl) ⟨_, _, rfl⟩
theorem am_n184 : am_okN am_cl am_Ts am_m184 0 0 := am_N0 ⟨am_c6.1, am_c6.2, (am_Tf_ok 4207 _ rfl rfl), (am_Tf_ok 1009 _ rfl rfl), by decide⟩ am_d3 (am_Tf_ok 4206 _ rfl rfl) (am_Tf_ok 105000 _ rfl rfl) ⟨_, _, rfl⟩
theorem am_n185 : am_okN am_cl am_Ts am_m185 0 0 := am_N0 ⟨am_c6.1, am_c6.2, (am_Tf_ok 4223 _ rfl rfl), (am_Tf_ok 1009 _ rfl rfl), by decide⟩ am_d3 (am_Tf_ok 4222 _ rfl rfl) (am_Tf_ok 105002 _ rfl rfl) ⟨_, _, rfl⟩
theorem am_n186 : am_okN am_cl am_Ts am_m186 0 0 := am_N0 ⟨am_c6.1, am_c6.2, (am_Tf_ok 4227 _ rfl rfl), (am_Tf_ok 1009 _ rfl rfl), by decide⟩ am_d3 (am_Tf_ok 4226 _ rfl rfl) (am_Tf_ok 105003 _ rfl rfl) ⟨_, _, rfl⟩
theorem am_n187 : am_okN am_cl am_Ts am_m187 0 0 := am_N0 ⟨am_c6.1, am_c6.2, (am_Tf_ok 5003 _ rfl rfl), (am_Tf_ok 1009 _ rfl rfl), by decide⟩ am_d3 (am_Tf_ok 5002 _ rfl rfl) (am_Tf_ok 105004 _ rfl rfl) ⟨_, _, rfl⟩
theorem am_n188 : am_okN am_cl am_Ts am_m188 1 0 := am_N0 ⟨am_c6.1, am_c6.2, (am_Tf_ok 5011 _ rfl rfl), (am_Tf_ok 1009 _ rfl rfl), by decide⟩ am_d5 (am_Tf_ok 5010 _ rfl rfl) (am_Tf_ok 105005 _ rfl rfl) ⟨_, _, rfl⟩
theorem am_n189 : am_okN am_cl am_Ts am_m189 3 0 := am_N0 ⟨am_c6.1, am_c6.2, (am_Tf_ok 5015 _ rfl rfl), (am_Tf_ok 1009 _ rfl rfl), by decide⟩ am_d24 (am_Tf_ok 5014 _ rfl rfl) (am_Tf_ok 105006 _ rfl rfl) ⟨_, _, rfl⟩
theorem am_n190 : am_okN am_cl am_Ts am_m190 0 0 := am_N0 ⟨am_c6.1, am_c6.2, (am_Tf_ok 5023 _ rfl rfl), (am_Tf_ok 1009 _ rfl rfl), by decide⟩ am_d3 (am_Tf_ok 5022 _ rfl rfl) (am_Tf_ok 105008 _ rfl rfl) ⟨_, _, rfl⟩
theorem am_n191 : am_okN am_cl am_Ts am_m191 0 0 := am_N0 ⟨am_c6.1, am_c6.2, (am_Tf_ok 5027 _ rfl rfl), (am_Tf_ok 1009 _ rfl rfl), by decide⟩ am_d3 (am_Tf_ok 5026 _ rfl rfl) (am_Tf_ok 105009 _ rfl rfl) ⟨_, _, rfl⟩
theorem am_n192 : am_okN am_cl am_Ts am_m192 1 2 := am_N2 ⟨am_c6.1, am_c6.2, (am_Tf_ok 5030 _ rfl rfl), (am_Tf_ok 1009 _ rfl rfl), by decide⟩ am_d37 (am_Tf_ok 5029 _ rfl rfl)
theorem am_n193 : am_okN am_cl am_Ts am_m193 3 2 := am_N2 ⟨am_c6.1, am_c6.2, (am_Tf_ok 5033 _ rfl rfl), (am_Tf_ok 1009 _ rfl rfl), by decide⟩ am_d13 (am_Tf_ok 5032 _ rfl rfl)
theorem am_n194 : am_okN am_cl am_Ts am_m194 0 0 := am_N0 ⟨am_c6.1, am_c6.2, (am_Tf_ok 5037 _ rfl rfl), (am_Tf_ok 1009 _ rfl rfl), by decide⟩ am_d3 (am_Tf_ok 5036 _ rfl rfl) (am_Tf_ok 105010 _ rfl rfl) ⟨_, _, rfl⟩
theorem am_n195 : am_okN am_cl am_Ts am_m195 0 0 := am_N0 ⟨am_c6.1, am_c6.2, (am_Tf_ok 4069 _ rfl rfl), (am_Tf_ok 1009 _ rfl rfl), by decide⟩ am_d1 (am_Tf_ok 4068 _ rfl rfl) (am_Tf_ok 103012 _ rfl rfl) ⟨_, _, rfl⟩
theorem am_n196 : am_okN am_cl am_Ts am_m196 0 0 := am_N0 ⟨am_c6.1, am_c6.2, (am_Tf_ok 4057 _ rfl rfl), (am_Tf_ok 1009 _ rfl rfl), by decide⟩ am_d0 (am_Tf_ok 4056 _ rfl rfl) (am_Tf_ok 103011 _ rfl rfl) ⟨_, _, rfl⟩
theorem am_n197 : am_okN am_cl am_Ts am_m197 1 0 := am_N0 ⟨am_c6.1, am_c6.2, (am_Tf_ok 4077 _ rfl rfl), (am_Tf_ok 1009 _ rfl rfl), by decide⟩ am_d26 (am_Tf_ok 4076 _ rfl rfl) (am_Tf_ok 103013 _ rfl rfl) ⟨_, _, rfl⟩
theorem am_n198 : am_okN am_cl am_Ts am_m198 2 0 := am_N0 ⟨am_c6.1, am_c6.2, (am_Tf_ok 5041 _ rfl rfl), (am_Tf_ok 1009 _ rfl rfl), by decide⟩ am_d11 (am_Tf_ok 5040 _ rfl rfl) (am_Tf_ok 105011 _ rfl rfl) ⟨_, _, rfl⟩
theorem am_n199 : am_okN am_cl am_Ts am_m199 2 0 := am_N0 ⟨am_c6.1, am_c6.2, (am_Tf_ok 5045 _ rfl rfl), (am_Tf_ok 1009 _ rfl rfl), by decide⟩ am_d10 (am_Tf_ok 5044 _ rfl rfl) (am_Tf_ok 105012 _ rfl rfl) ⟨_, _, rfl⟩
theorem am_n200 : am_okN am_cl am_Ts am_m200 3 0 := am_N0 ⟨am_c6.1, am_c6.2, (am_Tf_ok 5049 _ rfl rfl), (am_Tf_ok 1009 _ rfl rfl), by decide⟩ am_d30 (am_Tf_ok 5048 _ rfl rfl) (am_Tf_ok 105013 _ rfl rfl) ⟨_, _, rfl⟩
theorem am_n201 : am_okN am_cl am_Ts am_m201 0 0 := am_N0 ⟨am_c6.1, am_c6.2, (am_Tf_ok 5061 _ rfl rfl), (am_Tf_ok 1009 _ rfl rfl), by decide⟩ am_d3 (am_Tf_ok 5060 _ rfl rfl) (am_Tf_ok 105014 _ rfl rfl) ⟨_, _, rfl⟩
theorem am_n202 : am_okN am_cl am_Ts am_m202 1 0 := am_N0 ⟨am_c6.1, am_c6.2, (am_Tf_ok 5066 _ rfl rfl), (am_Tf_ok 1009 _ rfl rfl), by decide⟩ am_d7 (am_Tf_ok 5065 _ rfl rfl) (am_Tf_ok 105015 _ rfl rfl) ⟨_, _, rfl⟩
theorem am_n203 : am_okN am_cl am_Ts am_m203 0 0 := am_N0 ⟨am_c6.1, am_c6.2, (am_Tf_ok 5076 _ rfl rfl), (am_Tf_ok 1009 _ rfl rfl), by decide⟩ am_d3 (am_Tf_ok 5075 _ rfl rfl) (am_Tf_ok 106000 _ rfl rfl) ⟨_, _, rfl⟩
theorem am_n204 : am_okN am_cl am_Ts am_m204 1 1 := am_N1 ⟨am_c7.1, am_c7.2, (am_Tf_ok 1140 _ rfl rfl), (am_Tf_ok 1006 _ rfl rfl), by decide⟩ am_d34 (am_Tf_ok 1139 _ rfl rfl) rfl rfl
theorem am_n205 : am_okN am_cl am_Ts am_m205 0 0 := am_N0 ⟨am_c7.1, am_c7.2, (am_Tf_ok 2218 _ rfl rfl), (am_Tf_ok 1006 _ rfl rfl), by decide⟩ am_d0 (am_Tf_ok 2216 _ rfl rfl) (am_Tf_ok 2217 _ rfl rfl) ⟨_, _, rfl⟩
theorem am_n206 : am_okN am_cl am_Ts am_m206 0 0 := am_N0 ⟨am_c7.1, am_c7.2, (am_Tf_ok 3023 _ rfl rfl), (am_Tf_ok 1006 _ rfl rfl), by decide⟩ am_d0 (am_Tf_ok 3022 _ rfl rfl) (am_Tf_ok 101005 _ rfl rfl) ⟨_, _, rfl⟩
theorem am_n207 : am_okN am_cl am_Ts am_m207 1 0 := am_N0 ⟨am_c7.1, am_c7.2, (am_Tf_ok 3068 _ rfl rfl), (am_Tf_ok 1006 _ rfl rfl), by decide⟩ am_d5 (am_Tf_ok 3067 _ rfl rfl) (am_Tf_ok 101011 _ rfl rfl) ⟨_, _, rfl⟩
theorem am_n208 : am_okN am_cl am_Ts am_m208 1 0 := am_N0 ⟨am_c7.1, am_c7.2, (am_Tf_ok 3072 _ rfl rfl), (am_Tf_ok 1006 _ rfl rfl), by decide⟩ am_d5 (am_Tf_ok 3071 _ rfl rfl) (am_Tf_ok 101012 _ rfl rfl) ⟨_, _, rfl⟩
theorem am_n209 : am_okN am_cl am_Ts am_m209 1 0 := am_N0 ⟨am_c7.1, am_c7.2, (am_Tf_ok 3100 _ rfl rfl), (am_Tf_ok 1006 _ rfl rfl), by decide⟩ am_d5 (am_Tf_ok 3099 _ rfl rfl) (am_Tf_ok 102003 _ rfl rfl) ⟨_, _, rfl⟩
theorem am_n210 : am_okN am_cl am_Ts am_m210 2 0 := am_N0 ⟨am_c7.1, am_c7.2, (am_Tf_ok 3084 _ rfl rfl), (am_Tf_ok 1006 _ rfl rfl), by decide⟩ am_d9 (am_Tf_ok 3083 _ rfl rfl) (am_Tf_ok 101015 _ rfl rfl) ⟨_, _, rfl⟩
theorem am_n211 : am_okN am_cl am_Ts am_m211 1 0 := am_N0 ⟨am_c7.1, am_c7.2, (am_Tf_ok 3104 _ rfl rfl), (am_Tf_ok 1006 _ rfl rfl), by decide⟩ am_d5 (am_Tf_ok 3103 _ rfl rfl) (am_Tf_ok 102004 _ rfl rfl) ⟨_, _, rfl⟩
theorem am_n212 : am_okN am_cl am_Ts am_m212 1 0 := am_N0 ⟨am_c7.1, am_c7.2, (am_Tf_ok 3108 _ rfl rfl), (am_Tf_ok 1006 _ rfl rfl), by decide⟩ am_d5 (am_Tf_ok 3107 _ rfl rfl) (am_Tf_ok 102005 _ rfl rfl) ⟨_, _, rfl⟩
theorem am_n213 : am_okN am_cl am_Ts am_m213 1 0 := am_N0 ⟨am_c7.1, am_c7.2, (am_Tf_ok 3112 _ rfl rfl), (am_Tf_ok 1006 _ rfl rfl), by decide⟩ am_d5 (am_Tf_ok 3111 _ rfl rfl) (am_Tf_ok 102006 _ rfl rfl) ⟨_, _, rfl⟩
theorem am_n214 : am_okN am_cl am_Ts am_m214 3 0 := am_N0 ⟨am_c7.1, am_c7.2, (am_Tf_ok 3140 _ rfl rfl), (am_Tf_ok 1006 _ rfl rfl), by decide⟩ am_d13 (am_Tf_ok 3139 _ rfl rfl) (am_Tf_ok 102013 _ rfl rfl) ⟨_, _, rfl⟩
theorem am_n215 : am_okN am_cl am_Ts am_m215 1 0 := am_N0 ⟨am_c7.1, am_c7.2, (am_Tf_ok 3116 _ rfl rfl), (am_Tf_ok 1006 _ rfl rfl), by decide⟩ am_d5 (am_Tf_ok 3115 _ rfl rfl) (am_Tf_ok 102007 _ rfl rfl) ⟨_, _, rfl⟩
theorem am_n216 : am_okN am_cl am_Ts am_m216 2 0 := am_N0 ⟨am_c7.1, am_c7.2, (am_Tf_ok 3132 _ rfl rfl), (am_Tf_ok 1006 _ rfl rfl), by decide⟩ am_d25 (am_Tf_ok 3131 _ rfl rfl) (am_Tf_ok 102011 _ rfl rfl) ⟨_, _, rfl⟩
theorem am_n217 : am_okN am_cl am_Ts am_m217 0 0 := am_N0 ⟨am_c7.1, am_c7.2, (am_Tf_ok 3120 _ rfl rfl), (am_Tf_ok 1006 _ rfl rfl), by decide⟩ am_d4 (am_Tf_ok 3119 _ rfl rfl) (am_Tf_ok 102008 _ rfl rfl) ⟨_, _, rfl⟩
theorem am_n218 : am_okN am_cl am_Ts am_m218 0 0 := am_N0 ⟨am_c7.1, am_c7.2, (am_Tf_ok 3124 _ rfl rfl), (am_Tf_ok 1006 _ rfl rfl), by decide⟩ am_d0 (am_Tf_ok 3123 _ rfl rfl) (am_Tf_ok 102009 _ rfl rfl) ⟨_, _, rfl⟩
theorem am_n219 : am_okN am_cl am_Ts am_m219 1 0 := am_N0 ⟨am_c7.1, am_c7.2, (am_Tf_ok 3128 _ rfl rfl), (am_Tf_ok 1006 _ rfl rfl), by decide⟩ am_d7 (am_Tf_ok 3127 _ rfl rfl) (am_Tf_ok 102010 _ rfl rfl) ⟨_, _, rfl⟩
theorem am_n220 : am_okN am_cl am_Ts am_m220 1 0 := am_N0 ⟨am_c7.1, am_c7.2, (am_Tf_ok 3064 _ rfl rfl), (am_Tf_ok 1006 _ rfl rfl), by decide⟩ am_d7 (am_Tf_ok 3063 _ rfl rfl) (am_Tf_ok 101010 _ rfl rfl) ⟨_, _, rfl⟩
theorem am_n221 : am_okN am_cl am_Ts am_m221 1 0 := am_N0 ⟨am_c7.1, am_c7.2, (am_Tf_ok 3076 _ rfl rfl), (am_Tf_ok 1006 _ rfl rfl), by decide⟩ am_d8 (am_Tf_ok 3075 _ rfl rfl) (am_Tf_ok 101013 _ rfl rfl) ⟨_, _, rfl⟩
theorem am_n222 : am_okN am_cl am_Ts am_m222 1 0 := am_N0 ⟨am_c7.1, am_c7.2, (am_Tf_ok 3052 _ rfl rfl), (am_Tf_ok 1006 _ rfl rfl), by decide⟩ am_d5 (am_Tf_ok 3051 _ rfl rfl) (am_Tf_ok 101007 _ rfl rfl) ⟨_, _, rfl⟩
theorem am_n223 : am_okN am_cl am_Ts am_m223 1 0 := am_N0 ⟨am_c7.1, am_c7.2, (am_Tf_ok 3056 _ rfl rfl), (am_Tf_ok 1006 _ rfl rfl), by decide⟩ am_d5 (am_Tf_ok 3055 _ rfl rfl) (am_Tf_ok 101008 _ rfl rfl) ⟨_, _, rfl⟩
theorem am_n224 : am_okN am_cl am_Ts am_m224 2 0 := am_N0 ⟨am_c7.1, am_c7.2, (am_Tf_ok 3060 _ rfl rfl), (am_Tf_ok 1006 _ rfl rfl), by decide⟩ am_d12 (am_Tf_ok 3059 _ rfl rfl) (am_Tf_ok 101009 _ rfl rfl) ⟨_, _, rfl⟩
theorem am_n225 : am_okN am_cl am_Ts am_m225 0 0 := am_N0 ⟨am_c7.1, am_c7.2, (am_Tf_ok 3043 _ rfl rfl), (am_Tf_ok 1006 _ rfl rfl), by decide⟩ am_d0 (am_Tf_ok 3042 _ rfl rfl) (am_Tf_ok 101006 _ rfl rfl) ⟨_, _, rfl⟩
theorem am_n226 : am_okN am_cl am_Ts am_m226 1 0 := am_N0 ⟨am_c7.1, am_c7.2, (am_Tf_ok 3088 _ rfl rfl), (am_Tf_ok 1006 _ rfl rfl), by decide⟩ am_d7 (am_Tf_ok 3087 _ rfl rfl) (am_Tf_ok 102000 _ rfl rfl) ⟨_, _, rfl⟩
theorem am_n227 : am_okN am_cl am_Ts am_m227 1 0 := am_N0 ⟨am_c7.1, am_c7.2, (am_Tf_ok 3080 _ rfl rfl), (am_Tf_ok 1006 _ rfl rfl), by decide⟩ am_d5 (am_Tf_ok 3079 _ rfl rfl) (am_Tf_ok 101014 _ rfl rfl) ⟨_, _, rfl⟩
theorem am_n228 : am_okN am_cl am_Ts am_m228 2 0 := am_N0 ⟨am_c7.1, am_c7.2, (am_Tf_ok 3136 _ rfl rfl), (am_Tf_ok 1006 _ rfl rfl), by decide⟩ am_d11 (am_Tf_ok 3135 _ rfl rfl) (am_Tf_ok 102012 _ rfl rfl) ⟨_, _, rfl⟩
theorem am_n229 : am_okN am_cl am_Ts am_m229 1 0 := am_N0 ⟨am_c7.1, am_c7.2, (am_Tf_ok 3092 _ rfl rfl), (am_Tf_ok 1006 _ rfl rfl), by decide⟩ am_d5 (am_Tf_ok 3091 _ rfl rfl) (am_Tf_ok 102001 _ rfl rfl) ⟨_, _, rfl⟩
theorem am_n230 : am_okN am_cl am_Ts am_m230 3 0 := am_N0 ⟨am_c7.1, am_c7.2, (am_Tf_ok 3096 _ rfl rfl), (am_Tf_ok 1006 _ rfl rfl), by decide⟩ am_d15 (am_Tf_ok 3095 _ rfl rfl) (am_Tf_ok 102002 _ rfl rfl) ⟨_, _, rfl⟩
theorem am_n231 : am_okN am_cl am_Ts am_m231 0 1 := am_N1 ⟨am_c8.1, am_c8.2, (am_Tf_ok 1047 _ rfl rfl), (am_Tf_ok 1003 _ rfl rfl), by decide⟩ am_d3 (am_Tf_ok 1046 _ rfl rfl) rfl rfl
theorem am_n232 : am_okN am_cl am_Ts am_m232 1 0 := am_N0 ⟨am_c8.1, am_c8.2, (am_Tf_ok 2131 _ rfl rfl), (am_Tf_ok 1003 _ rfl rfl), by decide⟩ am_d31 (am_Tf_ok 2129 _ rfl rfl) (am_Tf_ok 2130 _ rfl rfl) ⟨_, _, rfl⟩
theorem am_n233 : am_okN am_cl am_Ts am_m233 0 0 := am_N0 ⟨am_c8.1, am_c8.2, (am_Tf_ok 2135 _ rfl rfl), (am_Tf_ok 1003 _ rfl rfl), by decide⟩ am_d3 (am_Tf_ok 2134 _ rfl rfl) (am_Tf_ok 101001 _ rfl rfl) ⟨_, _, rfl⟩
theorem am_n234 : am_okN am_cl am_Ts am_m234 3 0 := am_N0 ⟨am_c8.1, am_c8.2, (am_Tf_ok 2196 _ rfl rfl), (am_Tf_ok 1003 _ rfl rfl), by decide⟩ am_d35 (am_Tf_ok 2194 _ rfl rfl) (am_Tf_ok 2195 _ rfl rfl) ⟨_, _, rfl⟩
theorem am_n235 : am_okN am_cl am_Ts am_m235 1 0 := am_N0 ⟨am_c8.1, am_c8.2, (am_Tf_ok 3180 _ rfl rfl), (am_Tf_ok 1003 _ rfl rfl), by decide⟩ am_d7 (am_Tf_ok 3178 _ rfl rfl) (am_Tf_ok 3179 _ rfl rfl) ⟨_, _, rfl⟩
theorem am_n236 : am_okN am_cl am_Ts am_m236 1 0 := am_N0 ⟨am_c8.1, am_c8.2, (am_Tf_ok 4133 _ rfl rfl), (am_Tf_ok 1003 _ rfl rfl), by decide⟩ am_d7 (am_Tf_ok 4131 _ rfl rfl) (am_Tf_ok 4132 _ rfl rfl) ⟨_, _, rfl⟩
theorem am_n237 : am_okN am_cl am_Ts am_m237 0 0 := am_N0 ⟨am_c8.1, am_c8.2, (am_Tf_ok 3164 _ rfl rfl), (am_Tf_ok 1003 _ rfl rfl), by decide⟩ am_d0 (am_Tf_ok 3162 _ rfl rfl) (am_Tf_ok 3163 _ rfl rfl) ⟨_, _, rfl⟩
theorem am_n238 : am_okN am_cl am_Ts am_m238 1 0 := am_N0 ⟨am_c8.1, am_c8.2, (am_Tf_ok 3168 _ rfl rfl), (am_Tf_ok 1003 _ rfl rfl), by decide⟩ am_d8 (am_Tf_ok 3166 _ rfl rfl) (am_Tf_ok 3167 _ rfl rfl) ⟨_, _, rfl⟩
theorem am_n239 : am_okN am_cl am_Ts am_m239 1 1 := am_N1 ⟨am_c9.1, am_c9.2, (am_Tf_ok 1146 _ rfl rfl), (am_Tf_ok 1007 _ rfl rfl), by decide⟩ am_d34 (am_Tf_ok 1145 _ rfl rfl) rfl rfl
theorem am_n240 : am_okN am_cl am_Ts am_m240 0 0 := am_N0 ⟨am_c9.1, am_c9.2, (am_Tf_ok 2222 _ rfl rfl), (am_Tf_ok 1007 _ rfl rfl), by decide⟩ am_d3 (am_Tf_ok 2220 _ rfl rfl) (am_Tf_ok 2221 _ rfl rfl) ⟨_, _, rfl⟩
theorem am_n241 : am_okN am_cl am_Ts am_m241 0 0 := am_N0 ⟨am_c9.1, am_c9.2, (am_Tf_ok 3031 _ rfl rfl), (am_Tf_ok 1007 _ rfl rfl), by decide⟩ am_d0 (am_Tf_ok 3029 _ rfl rfl) (am_Tf_ok 3030 _ rfl rfl) ⟨_, _, rfl⟩
theorem am_n242 : am_okN am_cl am_Ts am_m242 0 0 := am_N0 ⟨am_c9.1, am_c9.2, (am_Tf_ok 3047 _ rfl rfl), (am_Tf_ok 1007 _ rfl rfl), by decide⟩ am_d0 (am_Tf_ok 3045 _ rfl rfl) (am_Tf_ok 3046 _ rfl rfl) ⟨_, _, rfl⟩
theorem am_n243 : am_okN am_cl am_Ts am_m243 0 0 := am_N0 ⟨am_c9.1, am_c9.2, (am_Tf_ok 3027 _ rfl rfl), (am_Tf_ok 1007 _ rfl rfl), by decide⟩ am_d0 (am_Tf_ok 3025 _ rfl rfl) (am_Tf_ok 3026 _ rfl rfl) ⟨_, _, rfl⟩
theorem am_n244 : am_okN am_cl am_Ts am_m244 0 0 := am_N0 ⟨am_c9.1, am_c9.2, (am_Tf_ok 3144 _ rfl rfl), (am_Tf_ok 1007 _ rfl rfl), by decide⟩ am_d0 (am_Tf_ok 3142 _ rfl rfl) (am_Tf_ok 3143 _ rfl rfl) ⟨_, _, rfl⟩
theorem am_n245 : am_okN am_cl am_Ts am_m245 0 0 := am_N0 ⟨am_c9.1, am_c9.2, (am_Tf_ok 3036 _ rfl rfl), (am_Tf_ok 1007 _ rfl rfl), by decide⟩ am_d3 (am_Tf_ok 3034 _ rfl rfl) (am_Tf_ok 3035 _ rfl rfl) ⟨_, _, rfl⟩
theorem am_n246 : am_okN am_cl am_Ts am_m246 0 0 := am_N0 ⟨am_c9.1, am_c9.2, (am_Tf_ok 2226 _ rfl rfl), (am_Tf_ok 1007 _ rfl rfl), by decide⟩ am_d3 (am_Tf_ok 2224 _ rfl rfl) (am_Tf_ok 2225 _ rfl rfl) ⟨_, _, rfl⟩
theorem am_n247 : am_okN am_cl am_Ts am_m247 0 0 := am_N0 ⟨am_c9.1, am_c9.2, (am_Tf_ok 2237 _ rfl rfl), (am_Tf_ok 1007 _ rfl rfl), by decide⟩ am_d3 (am_Tf_ok 2236 _ rfl rfl) (am_Tf_ok 101002 _ rfl rfl) ⟨_, _, rfl⟩
theorem am_n248 : am_okN am_cl am_Ts am_m248 0 0 := am_N0 ⟨am_c9.1, am_c9.2, (am_Tf_ok 3004 _ rfl rfl), (am_Tf_ok 1007 _ rfl rfl), by decide⟩ am_d3 (am_Tf_ok 3003 _ rfl rfl) (am_Tf_ok 101003 _ rfl rfl) ⟨_, _, rfl⟩
theorem am_n249 : am_okN am_cl am_Ts am_m249 1 0 := am_N0 ⟨am_c9.1, am_c9.2, (am_Tf_ok 3015 _ rfl rfl), (am_Tf_ok 1007 _ rfl rfl), by decide⟩ am_d7 (am_Tf_ok 3014 _ rfl rfl) (am_Tf_ok 101004 _ rfl rfl) ⟨_, _, rfl⟩
theorem am_n250 : am_okN am_cl am_Ts am_m250 1 2 := am_N2 ⟨am_c9.1, am_c9.2, (am_Tf_ok 3018 _ rfl rfl), (am_Tf_ok 1007 _ rfl rfl), by decide⟩ am_d8 (am_Tf_ok 3017 _ rfl rfl)
theorem am_n251 : am_okN am_cl am_Ts am_m251 1 2 := am_N2 ⟨am_c9.1, am_c9.2, (am_Tf_ok 2230 _ rfl rfl), (am_Tf_ok 1007 _ rfl rfl), by decide⟩ am_d8 (am_Tf_ok 2229 _ rfl rfl)
theorem am_n252 : am_okN am_cl am_Ts am_m252 1 2 := am_N2 ⟨am_c9.1, am_c9.2, (am_Tf_ok 2233 _ rfl rfl), (am_Tf_ok 1007 _ rfl rfl), by decide⟩ am_d8 (am_Tf_ok 2232 _ rfl rfl)
theorem am_n253 : am_okN am_cl am_Ts am_m253 1 2 := am_N2 ⟨am_c9.1, am_c9.2, (am_Tf_ok 3000 _ rfl rfl), (am_Tf_ok 1007 _ rfl rfl), by decide⟩ am_d8 (am_Tf_ok 2239 _ rfl rfl)
theorem am_n254 : am_okN am_cl am_Ts am_m254 1 2 := am_N2 ⟨am_c9.1, am_c9.2, (am_Tf_ok 3011 _ rfl rfl), (am_Tf_ok 1007 _ rfl rfl), by decide⟩ am_d8 (am_Tf_ok 3010 _ rfl rfl)
theorem am_n255 : am_okN am_cl am_Ts am_m255 1 2 := am_N2 ⟨am_c9.1, am_c9.2, (am_Tf_ok 3007 _ rfl rfl), (am_Tf_ok 1007 _ rfl rfl), by decide⟩ am_d8 (am_Tf_ok 3006 _ rfl rfl)
theorem am_n256 : am_okN am_cl am_Ts am_m256 0 1 := am_N1 ⟨am_c10.1, am_c10.2, (am_Tf_ok 1236 _ rfl rfl), (am_Tf_ok 1012 _ rfl rfl), by decide⟩ am_d3 (am_Tf_ok 1235 _ rfl rfl) rfl rfl
theorem am_n257 : am_okN am_cl am_Ts am_m257 0 0 := am_N0 ⟨am_c10.1, am_c10.2, (am_Tf_ok 2003 _ rfl rfl), (am_Tf_ok 1012 _ rfl rfl), by decide⟩ am_d3 (am_Tf_ok 2001 _ rfl rfl) (am_Tf_ok 2002 _ rfl rfl) ⟨_, _, rfl⟩
theorem am_n258 : am_okN am_cl am_Ts am_m258 0 0 := am_N0 ⟨am_c10.1, am_c10.2, (am_Tf_ok 4089 _ rfl rfl), (am_Tf_ok 1012 _ rfl rfl), by decide⟩ am_d0 (am_Tf_ok 4087 _ rfl rfl) (am_Tf_ok 4088 _ rfl rfl) ⟨_, _, rfl⟩
theorem am_n259 : am_okN am_cl am_Ts am_m259 0 0 := am_N0 ⟨am_c10.1, am_c10.2, (am_Tf_ok 5129 _ rfl rfl), (am_Tf_ok 1012 _ rfl rfl), by decide⟩ am_d0 (am_Tf_ok 5127 _ rfl rfl) (am_Tf_ok 5128 _ rfl rfl) ⟨_, _, rfl⟩
theorem am_n260 : am_okN am_cl am_Ts am_m260 3 0 := am_N0 ⟨am_c10.1, am_c10.2, (am_Tf_ok 3227 _ rfl rfl), (am_Tf_ok 1012 _ rfl rfl), by decide⟩ am_d15 (am_Tf_ok 3225 _ rfl rfl) (am_Tf_ok 3226 _ rfl rfl) ⟨_, _, rfl⟩
theorem am_n261 : am_okN am_cl am_Ts am_m261 0 0 := am_N0 ⟨am_c10.1, am_c10.2, (am_Tf_ok 4043 _ rfl rfl), (am_Tf_ok 1012 _ rfl rfl), by decide⟩ am_d0 (am_Tf_ok 4041 _ rfl rfl) (am_Tf_ok 4042 _ rfl rfl) ⟨_, _, rfl⟩
theorem am_n262 : am_okN am_cl am_Ts am_m262 0 0 := am_N0 ⟨am_c10.1, am_c10.2, (am_Tf_ok 5007 _ rfl rfl), (am_Tf_ok 1012 _ rfl rfl), by decide⟩ am_d0 (am_Tf_ok 5005 _ rfl rfl) (am_Tf_ok 5006 _ rfl rfl) ⟨_, _, rfl⟩
theorem am_n263 : am_okN am_cl am_Ts am_m263 0 0 := am_N0 ⟨am_c10.1, am_c10.2, (am_Tf_ok 4049 _ rfl rfl), (am_Tf_ok 1012 _ rfl rfl), by decide⟩ am_d0 (am_Tf_ok 4047 _ rfl rfl) (am_Tf_ok 4048 _ rfl rfl) ⟨_, _, rfl⟩
theorem am_n264 : am_okN am_cl am_Ts am_m264 1 0 := am_N0 ⟨am_c10.1, am_c10.2, (am_Tf_ok 4231 _ rfl rfl), (am_Tf_ok 1012 _ rfl rfl), by decide⟩ am_d6 (am_Tf_ok 4229 _ rfl rfl) (am_Tf_ok 4230 _ rfl rfl) ⟨_, _, rfl⟩
theorem am_n265 : am_okN am_cl am_Ts am_m265 2 0 := am_N0 ⟨am_c10.1, am_c10.2, (am_Tf_ok 4183 _ rfl rfl), (am_Tf_ok 1012 _ rfl rfl), by decide⟩ am_d23 (am_Tf_ok 4181 _ rfl rfl) (am_Tf_ok 4182 _ rfl rfl) ⟨_, _, rfl⟩
theorem am_n266 : am_okN am_cl am_Ts am_m266 0 0 := am_N0 ⟨am_c10.1, am_c10.2, (am_Tf_ok 4235 _ rfl rfl), (am_Tf_ok 1012 _ rfl rfl), by decide⟩ am_d3 (am_Tf_ok 4233 _ rfl rfl) (am_Tf_ok 4234 _ rfl rfl) ⟨_, _, rfl⟩
theorem am_n267 : am_okN am_cl am_Ts am_m267 1 0 := am_N0 ⟨am_c10.1, am_c10.2, (am_Tf_ok 5053 _ rfl rfl), (am_Tf_ok 1012 _ rfl rfl), by decide⟩ am_d7 (am_Tf_ok 5051 _ rfl rfl) (am_Tf_ok 5052 _ rfl rfl) ⟨_, _, rfl⟩
theorem am_n268 : am_okN am_cl am_Ts am_m268 1 0 := am_N0 ⟨am_c10.1, am_c10.2, (am_Tf_ok 4109 _ rfl rfl), (am_Tf_ok 1012 _ rfl rfl), by decide⟩ am_d33 (am_Tf_ok 4107 _ rfl rfl) (am_Tf_ok 4108 _ rfl rfl) ⟨_, _, rfl⟩
theorem am_n269 : am_okN am_cl am_Ts am_m269 1 1 := am_N1 ⟨am_c11.1, am_c11.2, (am_Tf_ok 1066 _ rfl rfl), (am_Tf_ok 1005 _ rfl rfl), by decide⟩ am_d7 (am_Tf_ok 1065 _ rfl rfl) rfl rfl
theorem am_n270 : am_okN am_cl am_Ts am_m270 0 0 := am_N0 ⟨am_c11.1, am_c11.2, (am_Tf_ok 2200 _ rfl rfl), (am_Tf_ok 1005 _ rfl rfl), by decide⟩ am_d0 (am_Tf_ok 2198 _ rfl rfl) (am_Tf_ok 2199 _ rfl rfl) ⟨_, _, rfl⟩
theorem am_n271 : am_okN am_cl am_Ts am_m271 1 0 := am_N0 ⟨am_c11.1, am_c11.2, (am_Tf_ok 2140 _ rfl rfl), (am_Tf_ok 1005 _ rfl rfl), by decide⟩ am_d7 (am_Tf_ok 2138 _ rfl rfl) (am_Tf_ok 2139 _ rfl rfl) ⟨_, _, rfl⟩
theorem am_n272 : am_okN am_cl am_Ts am_m272 0 0 := am_N0 ⟨am_c11.1, am_c11.2, (am_Tf_ok 2209 _ rfl rfl), (am_Tf_ok 1005 _ rfl rfl), by decide⟩ am_d0 (am_Tf_ok 2207 _ rfl rfl) (am_Tf_ok 2208 _ rfl rfl) ⟨_, _, rfl⟩
theorem am_n273 : am_okN am_cl am_Ts am_m273 2 0 := am_N0 ⟨am_c11.1, am_c11.2, (am_Tf_ok 2204 _ rfl rfl), (am_Tf_ok 1005 _ rfl rfl), by decide⟩ am_d9 (am_Tf_ok 2202 _ rfl rfl) (am_Tf_ok 2203 _ rfl rfl) ⟨_, _, rfl⟩
theorem am_n274 : am_okN am_cl am_Ts am_m274 3 0 := am_N0 ⟨am_c11.1, am_c11.2, (am_Tf_ok 2214 _ rfl rfl), (am_Tf_ok 1005 _ rfl rfl), by decide⟩ am_d15 (am_Tf_ok 2212 _ rfl rfl) (am_Tf_ok 2213 _ rfl rfl) ⟨_, _, rfl⟩
theorem am_n275 : am_okN am_cl am_Ts am_m275 2 2 := am_N2 ⟨am_c12.1, am_c12.2, (am_Tf_ok 3218 _ rfl rfl), (am_Tf_ok 1017 _ rfl rfl), by decide⟩ am_d10 (am_Tf_ok 3217 _ rfl rfl)
theorem am_n276 : am_okN am_cl am_Ts am_m276 1 2 := am_N2 ⟨am_c12.1, am_c12.2, (am_Tf_ok 4023 _ rfl rfl), (am_Tf_ok 1017 _ rfl rfl), by decide⟩ am_d26 (am_Tf_ok 4022 _ rfl rfl)
theorem am_n277 : am_okN am_cl am_Ts am_m277 1 2 := am_N2 ⟨am_c12.1, am_c12.2, (am_Tf_ok 4031 _ rfl rfl), (am_Tf_ok 1017 _ rfl rfl), by decide⟩ am_d26 (am_Tf_ok 4030 _ rfl rfl)
theorem am_n278 : am_okN am_cl am_Ts am_m278 0 1 := am_N1 ⟨am_c13.1, am_c13.2, (am_Tf_ok 1209 _ rfl rfl), (am_Tf_ok 1011 _ rfl rfl), by decide⟩ am_d3 (am_Tf_ok 1208 _ rfl rfl) rfl rfl
theorem am_n279 : am_okN am_cl am_Ts am_m279 1 0 := am_N0 ⟨am_c13.1, am_c13.2, (am_Tf_ok 3214 _ rfl rfl), (am_Tf_ok 1011 _ rfl rfl), by decide⟩ am_d7 (am_Tf_ok 3212 _ rfl rfl) (am_Tf_ok 3213 _ rfl rfl) ⟨_, _, rfl⟩
theorem am_n280 : am_okN am_cl am_Ts am_m280 1 0 := am_N0 ⟨am_c13.1, am_c13.2, (am_Tf_ok 4035 _ rfl rfl), (am_Tf_ok 1011 _ rfl rfl), by decide⟩ am_d6 (am_Tf_ok 4033 _ rfl rfl) (am_Tf_ok 4034 _ rfl rfl) ⟨_, _, rfl⟩
theorem am_n281 : am_okN am_cl am_Ts am_m281 2 0 := am_N0 ⟨am_c13.1, am_c13.2, (am_Tf_ok 3223 _ rfl rfl), (am_Tf_ok 1011 _ rfl rfl), by decide⟩ am_d23 (am_Tf_ok 3221 _ rfl rfl) (am_Tf_ok 3222 _ rfl rfl) ⟨_, _, rfl⟩
