/-! PART 19: the classes of the tables -/
theorem am_lay0 : ∀ k, k < 84 → u_lay "LazyHouseModel" am_U0 k ∈ am_Ts := fun k hk => match k, hk with
  | 0, _ => (am_Tf_ok 5236 _ rfl rfl)
  | 1, _ => (am_Tf_ok 5238 _ rfl rfl)
  | 2, _ => (am_Tf_ok 6000 _ rfl rfl)
  | 3, _ => (am_Tf_ok 6002 _ rfl rfl)
  | 4, _ => (am_Tf_ok 6004 _ rfl rfl)
  | 5, _ => (am_Tf_ok 6006 _ rfl rfl)
  | 6, _ => (am_Tf_ok 6008 _ rfl rfl)
  | 7, _ => (am_Tf_ok 6010 _ rfl rfl)
  | 8, _ => (am_Tf_ok 6012 _ rfl rfl)
  | 9, _ => (am_Tf_ok 6014 _ rfl rfl)
  | 10, _ => (am_Tf_ok 6016 _ rfl rfl)
  | 11, _ => (am_Tf_ok 6018 _ rfl rfl)
  | 12, _ => (am_Tf_ok 6020 _ rfl rfl)
  | 13, _ => (am_Tf_ok 6022 _ rfl rfl)
  | 14, _ => (am_Tf_ok 6024 _ rfl rfl)
  | 15, _ => (am_Tf_ok 6026 _ rfl rfl)
  | 16, _ => (am_Tf_ok 6028 _ rfl rfl)
  | 17, _ => (am_Tf_ok 6030 _ rfl rfl)
  | 18, _ => (am_Tf_ok 6032 _ rfl rfl)
  | 19, _ => (am_Tf_ok 6034 _ rfl rfl)
  | 20, _ => (am_Tf_ok 6036 _ rfl rfl)
  | 21, _ => (am_Tf_ok 6038 _ rfl rfl)
  | 22, _ => (am_Tf_ok 6040 _ rfl rfl)
  | 23, _ => (am_Tf_ok 6042 _ rfl rfl)
  | 24, _ => (am_Tf_ok 6044 _ rfl rfl)
  | 25, _ => (am_Tf_ok 6046 _ rfl rfl)
  | 26, _ => (am_Tf_ok 6048 _ rfl rfl)
  | 27, _ => (am_Tf_ok 6050 _ rfl rfl)
  | 28, _ => (am_Tf_ok 6052 _ rfl rfl)
  | 29, _ => (am_Tf_ok 6054 _ rfl rfl)
  | 30, _ => (am_Tf_ok 6056 _ rfl rfl)
  | 31, _ => (am_Tf_ok 6058 _ rfl rfl)
  | 32, _ => (am_Tf_ok 6060 _ rfl rfl)
  | 33, _ => (am_Tf_ok 6062 _ rfl rfl)
  | 34, _ => (am_Tf_ok 6064 _ rfl rfl)
  | 35, _ => (am_Tf_ok 6066 _ rfl rfl)
  | 36, _ => (am_Tf_ok 6068 _ rfl rfl)
  | 37, _ => (am_Tf_ok 6070 _ rfl rfl)
  | 38, _ => (am_Tf_ok 6072 _ rfl rfl)
  | 39, _ => (am_Tf_ok 6074 _ rfl rfl)
  | 40, _ => (am_Tf_ok 6076 _ rfl rfl)
  | 41, _ => (am_Tf_ok 6078 _ rfl rfl)
  | 42, _ => (am_Tf_ok 6080 _ rfl rfl)
  | 43, _ => (am_Tf_ok 6082 _ rfl rfl)
  | 44, _ => (am_Tf_ok 6084 _ rfl rfl)
  | 45, _ => (am_Tf_ok 6086 _ rfl rfl)
  | 46, _ => (am_Tf_ok 6088 _ rfl rfl)
  | 47, _ => (am_Tf_ok 6090 _ rfl rfl)
  | 48, _ => (am_Tf_ok 6092 _ rfl rfl)
  | 49, _ => (am_Tf_ok 6094 _ rfl rfl)
  | 50, _ => (am_Tf_ok 6096 _ rfl rfl)
  | 51, _ => (am_Tf_ok 6098 _ rfl rfl)
  | 52, _ => (am_Tf_ok 6100 _ rfl rfl)
  | 53, _ => (am_Tf_ok 6102 _ rfl rfl)
  | 54, _ => (am_Tf_ok 6104 _ rfl rfl)
  | 55, _ => (am_Tf_ok 6106 _ rfl rfl)
  | 56, _ => (am_Tf_ok 6108 _ rfl rfl)
  | 57, _ => (am_Tf_ok 6110 _ rfl rfl)
  | 58, _ => (am_Tf_ok 6112 _ rfl rfl)
  | 59, _ => (am_Tf_ok 6114 _ rfl rfl)
  | 60, _ => (am_Tf_ok 6116 _ rfl rfl)
  | 61, _ => (am_Tf_ok 6118 _ rfl rfl)
  | 62, _ => (am_Tf_ok 6120 _ rfl rfl)
  | 63, _ => (am_Tf_ok 6122 _ rfl rfl)
  | 64, _ => (am_Tf_ok 6124 _ rfl rfl)
  | 65, _ => (am_Tf_ok 6126 _ rfl rfl)
  | 66, _ => (am_Tf_ok 6128 _ rfl rfl)
  | 67, _ => (am_Tf_ok 6130 _ rfl rfl)
  | 68, _ => (am_Tf_ok 6132 _ rfl rfl)
  | 69, _ => (am_Tf_ok 6134 _ rfl rfl)
  | 70, _ => (am_Tf_ok 6136 _ rfl rfl)
  | 71, _ => (am_Tf_ok 6138 _ rfl rfl)
  | 72, _ => (am_Tf_ok 6140 _ rfl rfl)
  | 73, _ => (am_Tf_ok 6142 _ rfl rfl)
  | 74, _ => (am_Tf_ok 6144 _ rfl rfl)
  | 75, _ => (am_Tf_ok 6146 _ rfl rfl)
  | 76, _ => (am_Tf_ok 6148 _ rfl rfl)
  | 77, _ => (am_Tf_ok 6150 _ rfl rfl)
  | 78, _ => (am_Tf_ok 6152 _ rfl rfl)
  | 79, _ => (am_Tf_ok 6154 _ rfl rfl)
  | 80, _ => (am_Tf_ok 6156 _ rfl rfl)
  | 81, _ => (am_Tf_ok 6158 _ rfl rfl)
  | 82, _ => (am_Tf_ok 6160 _ rfl rfl)
  | 83, _ => (am_Tf_ok 6162 _ rfl rfl)
  | k + 84, h => absurd h (by omega)
theorem am_ws0 : ∀ w ∈ u_ws "LazyHouseModel" am_U0 84, w ∈ am_Ts := fun w h => by
  obtain ⟨k, hk, rfl⟩ := List.mem_map.mp h
  exact am_lay0 k (List.mem_range.mp hk)
theorem am_ty0 : ∀ k, k < 84 → parseFieldDescriptor (am_U0 k).2.2.1 = some ((am_nf 0).getD k .int) := by decide +kernel
theorem am_nm0 : ∀ a, a < 84 → ∀ b, b < 84 → a ≠ b → (am_U0 a).2.1 ≠ (am_U0 b).2.1 := by decide +kernel
theorem am_lay1 : ∀ k, k < 7 → u_lay "LazyHouse" am_U1 k ∈ am_Ts := fun k hk => match k, hk with
  | 0, _ => (am_Tf_ok 2071 _ rfl rfl)
  | 1, _ => (am_Tf_ok 2073 _ rfl rfl)
  | 2, _ => (am_Tf_ok 2075 _ rfl rfl)
  | 3, _ => (am_Tf_ok 2077 _ rfl rfl)
  | 4, _ => (am_Tf_ok 2079 _ rfl rfl)
  | 5, _ => (am_Tf_ok 2081 _ rfl rfl)
  | 6, _ => (am_Tf_ok 2083 _ rfl rfl)
  | k + 7, h => absurd h (by omega)
theorem am_ws1 : ∀ w ∈ u_ws "LazyHouse" am_U1 7, w ∈ am_Ts := fun w h => by
  obtain ⟨k, hk, rfl⟩ := List.mem_map.mp h
  exact am_lay1 k (List.mem_range.mp hk)
theorem am_ty1 : ∀ k, k < 7 → parseFieldDescriptor (am_U1 k).2.2.1 = some ((am_nf 1).getD k .int) := by decide +kernel
theorem am_nm1 : ∀ a, a < 7 → ∀ b, b < 7 → a ≠ b → (am_U1 a).2.1 ≠ (am_U1 b).2.1 := by decide +kernel
theorem am_lay2 : ∀ k, k < 2 → u_lay "LazyHouse$Binder" am_U2 k ∈ am_Ts := fun k hk => match k, hk with
  | 0, _ => (am_Tf_ok 1188 _ rfl rfl)
  | 1, _ => (am_Tf_ok 1190 _ rfl rfl)
  | k + 2, h => absurd h (by omega)
theorem am_ws2 : ∀ w ∈ u_ws "LazyHouse$Binder" am_U2 2, w ∈ am_Ts := fun w h => by
  obtain ⟨k, hk, rfl⟩ := List.mem_map.mp h
  exact am_lay2 k (List.mem_range.mp hk)
theorem am_ty2 : ∀ k, k < 2 → parseFieldDescriptor (am_U2 k).2.2.1 = some ((am_nf 2).getD k .int) := by decide +kernel
theorem am_nm2 : ∀ a, a < 2 → ∀ b, b < 2 → a ≠ b → (am_U2 a).2.1 ≠ (am_U2 b).2.1 := by decide +kernel
theorem am_lay3 : ∀ k, k < 3 → u_lay "LazyHouse$Bytes" am_U3 k ∈ am_Ts := fun k hk => match k, hk with
  | 0, _ => (am_Tf_ok 1035 _ rfl rfl)
  | 1, _ => (am_Tf_ok 1037 _ rfl rfl)
  | 2, _ => (am_Tf_ok 1039 _ rfl rfl)
  | k + 3, h => absurd h (by omega)
theorem am_ws3 : ∀ w ∈ u_ws "LazyHouse$Bytes" am_U3 3, w ∈ am_Ts := fun w h => by
  obtain ⟨k, hk, rfl⟩ := List.mem_map.mp h
  exact am_lay3 k (List.mem_range.mp hk)
theorem am_ty3 : ∀ k, k < 3 → parseFieldDescriptor (am_U3 k).2.2.1 = some ((am_nf 3).getD k .int) := by decide +kernel
theorem am_nm3 : ∀ a, a < 3 → ∀ b, b < 3 → a ≠ b → (am_U3 a).2.1 ≠ (am_U3 b).2.1 := by decide +kernel
theorem am_lay4 : ∀ k, k < 5 → u_lay "LazyHouse$Heap" am_U4 k ∈ am_Ts := fun k hk => match k, hk with
  | 0, _ => (am_Tf_ok 1221 _ rfl rfl)
  | 1, _ => (am_Tf_ok 1223 _ rfl rfl)
  | 2, _ => (am_Tf_ok 1225 _ rfl rfl)
  | 3, _ => (am_Tf_ok 1227 _ rfl rfl)
  | 4, _ => (am_Tf_ok 1229 _ rfl rfl)
  | k + 5, h => absurd h (by omega)
theorem am_ws4 : ∀ w ∈ u_ws "LazyHouse$Heap" am_U4 5, w ∈ am_Ts := fun w h => by
  obtain ⟨k, hk, rfl⟩ := List.mem_map.mp h
  exact am_lay4 k (List.mem_range.mp hk)
theorem am_ty4 : ∀ k, k < 5 → parseFieldDescriptor (am_U4 k).2.2.1 = some ((am_nf 4).getD k .int) := by decide +kernel
theorem am_nm4 : ∀ a, a < 5 → ∀ b, b < 5 → a ≠ b → (am_U4 a).2.1 ≠ (am_U4 b).2.1 := by decide +kernel
theorem am_lay5 : ∀ k, k < 14 → u_lay "LazyHouse$Machine" am_U5 k ∈ am_Ts := fun k hk => match k, hk with
  | 0, _ => (am_Tf_ok 2035 _ rfl rfl)
  | 1, _ => (am_Tf_ok 2037 _ rfl rfl)
  | 2, _ => (am_Tf_ok 2039 _ rfl rfl)
  | 3, _ => (am_Tf_ok 2041 _ rfl rfl)
  | 4, _ => (am_Tf_ok 2043 _ rfl rfl)
  | 5, _ => (am_Tf_ok 2045 _ rfl rfl)
  | 6, _ => (am_Tf_ok 2047 _ rfl rfl)
  | 7, _ => (am_Tf_ok 2049 _ rfl rfl)
  | 8, _ => (am_Tf_ok 2051 _ rfl rfl)
  | 9, _ => (am_Tf_ok 2053 _ rfl rfl)
  | 10, _ => (am_Tf_ok 2055 _ rfl rfl)
  | 11, _ => (am_Tf_ok 2057 _ rfl rfl)
  | 12, _ => (am_Tf_ok 2059 _ rfl rfl)
  | 13, _ => (am_Tf_ok 2061 _ rfl rfl)
  | k + 14, h => absurd h (by omega)
theorem am_ws5 : ∀ w ∈ u_ws "LazyHouse$Machine" am_U5 14, w ∈ am_Ts := fun w h => by
  obtain ⟨k, hk, rfl⟩ := List.mem_map.mp h
  exact am_lay5 k (List.mem_range.mp hk)
theorem am_ty5 : ∀ k, k < 14 → parseFieldDescriptor (am_U5 k).2.2.1 = some ((am_nf 5).getD k .int) := by decide +kernel
theorem am_nm5 : ∀ a, a < 14 → ∀ b, b < 14 → a ≠ b → (am_U5 a).2.1 ≠ (am_U5 b).2.1 := by decide +kernel
theorem am_lay6 : ∀ k, k < 3 → u_lay "LazyHouse$Parser" am_U6 k ∈ am_Ts := fun k hk => match k, hk with
  | 0, _ => (am_Tf_ok 1173 _ rfl rfl)
  | 1, _ => (am_Tf_ok 1175 _ rfl rfl)
  | 2, _ => (am_Tf_ok 1177 _ rfl rfl)
  | k + 3, h => absurd h (by omega)
theorem am_ws6 : ∀ w ∈ u_ws "LazyHouse$Parser" am_U6 3, w ∈ am_Ts := fun w h => by
  obtain ⟨k, hk, rfl⟩ := List.mem_map.mp h
  exact am_lay6 k (List.mem_range.mp hk)
theorem am_ty6 : ∀ k, k < 3 → parseFieldDescriptor (am_U6 k).2.2.1 = some ((am_nf 6).getD k .int) := by decide +kernel
theorem am_nm6 : ∀ a, a < 3 → ∀ b, b < 3 → a ≠ b → (am_U6 a).2.1 ≠ (am_U6 b).2.1 := by decide +kernel
theorem am_lay7 : ∀ k, k < 11 → u_lay "LazyHouse$Program" am_U7 k ∈ am_Ts := fun k hk => match k, hk with
  | 0, _ => (am_Tf_ok 1113 _ rfl rfl)
  | 1, _ => (am_Tf_ok 1115 _ rfl rfl)
  | 2, _ => (am_Tf_ok 1117 _ rfl rfl)
  | 3, _ => (am_Tf_ok 1119 _ rfl rfl)
  | 4, _ => (am_Tf_ok 1121 _ rfl rfl)
  | 5, _ => (am_Tf_ok 1123 _ rfl rfl)
  | 6, _ => (am_Tf_ok 1125 _ rfl rfl)
  | 7, _ => (am_Tf_ok 1127 _ rfl rfl)
  | 8, _ => (am_Tf_ok 1129 _ rfl rfl)
  | 9, _ => (am_Tf_ok 1131 _ rfl rfl)
  | 10, _ => (am_Tf_ok 1133 _ rfl rfl)
  | k + 11, h => absurd h (by omega)
theorem am_ws7 : ∀ w ∈ u_ws "LazyHouse$Program" am_U7 11, w ∈ am_Ts := fun w h => by
  obtain ⟨k, hk, rfl⟩ := List.mem_map.mp h
  exact am_lay7 k (List.mem_range.mp hk)
theorem am_ty7 : ∀ k, k < 11 → parseFieldDescriptor (am_U7 k).2.2.1 = some ((am_nf 7).getD k .int) := by decide +kernel
theorem am_nm7 : ∀ a, a < 11 → ∀ b, b < 11 → a ≠ b → (am_U7 a).2.1 ≠ (am_U7 b).2.1 := by decide +kernel
theorem am_lay8 : ∀ k, k < 7 → u_lay "LazyHouse$Reader" am_U8 k ∈ am_Ts := fun k hk => match k, hk with
  | 0, _ => (am_Tf_ok 1155 _ rfl rfl)
  | 1, _ => (am_Tf_ok 1157 _ rfl rfl)
  | 2, _ => (am_Tf_ok 1159 _ rfl rfl)
  | 3, _ => (am_Tf_ok 1161 _ rfl rfl)
  | 4, _ => (am_Tf_ok 1163 _ rfl rfl)
  | 5, _ => (am_Tf_ok 1165 _ rfl rfl)
  | 6, _ => (am_Tf_ok 1167 _ rfl rfl)
  | k + 7, h => absurd h (by omega)
theorem am_ws8 : ∀ w ∈ u_ws "LazyHouse$Reader" am_U8 7, w ∈ am_Ts := fun w h => by
  obtain ⟨k, hk, rfl⟩ := List.mem_map.mp h
  exact am_lay8 k (List.mem_range.mp hk)
theorem am_ty8 : ∀ k, k < 7 → parseFieldDescriptor (am_U8 k).2.2.1 = some ((am_nf 8).getD k .int) := by decide +kernel
theorem am_nm8 : ∀ a, a < 7 → ∀ b, b < 7 → a ≠ b → (am_U8 a).2.1 ≠ (am_U8 b).2.1 := by decide +kernel
theorem am_lay9 : ∀ k, k < 4 → u_lay "LazyHouse$Stack" am_U9 k ∈ am_Ts := fun k hk => match k, hk with
  | 0, _ => (am_Tf_ok 2008 _ rfl rfl)
  | 1, _ => (am_Tf_ok 2010 _ rfl rfl)
  | 2, _ => (am_Tf_ok 2012 _ rfl rfl)
  | 3, _ => (am_Tf_ok 2014 _ rfl rfl)
  | k + 4, h => absurd h (by omega)
theorem am_ws9 : ∀ w ∈ u_ws "LazyHouse$Stack" am_U9 4, w ∈ am_Ts := fun w h => by
  obtain ⟨k, hk, rfl⟩ := List.mem_map.mp h
  exact am_lay9 k (List.mem_range.mp hk)
theorem am_ty9 : ∀ k, k < 4 → parseFieldDescriptor (am_U9 k).2.2.1 = some ((am_nf 9).getD k .int) := by decide +kernel
theorem am_nm9 : ∀ a, a < 4 → ∀ b, b < 4 → a ≠ b → (am_U9 a).2.1 ≠ (am_U9 b).2.1 := by decide +kernel
theorem am_lay10 : ∀ k, k < 3 → u_lay "LazyHouse$Table" am_U10 k ∈ am_Ts := fun k hk => match k, hk with
  | 0, _ => (am_Tf_ok 1071 _ rfl rfl)
  | 1, _ => (am_Tf_ok 1073 _ rfl rfl)
  | 2, _ => (am_Tf_ok 1075 _ rfl rfl)
  | k + 3, h => absurd h (by omega)
theorem am_ws10 : ∀ w ∈ u_ws "LazyHouse$Table" am_U10 3, w ∈ am_Ts := fun w h => by
  obtain ⟨k, hk, rfl⟩ := List.mem_map.mp h
  exact am_lay10 k (List.mem_range.mp hk)
theorem am_ty10 : ∀ k, k < 3 → parseFieldDescriptor (am_U10 k).2.2.1 = some ((am_nf 10).getD k .int) := by decide +kernel
theorem am_nm10 : ∀ a, a < 3 → ∀ b, b < 3 → a ≠ b → (am_U10 a).2.1 ≠ (am_U10 b).2.1 := by decide +kernel
theorem am_lay11 : ∀ k, k < 1 → u_lay "LazyHouse$Words" am_U11 k ∈ am_Ts := fun k hk => match k, hk with
  | 0, _ => (am_Tf_ok 1212 _ rfl rfl)
  | k + 1, h => absurd h (by omega)
theorem am_ws11 : ∀ w ∈ u_ws "LazyHouse$Words" am_U11 1, w ∈ am_Ts := fun w h => by
  obtain ⟨k, hk, rfl⟩ := List.mem_map.mp h
  exact am_lay11 k (List.mem_range.mp hk)
theorem am_ty11 : ∀ k, k < 1 → parseFieldDescriptor (am_U11 k).2.2.1 = some ((am_nf 11).getD k .int) := by decide +kernel
theorem am_nm11 : ∀ a, a < 1 → ∀ b, b < 1 → a ≠ b → (am_U11 a).2.1 ≠ (am_U11 b).2.1 := by decide +kernel
theorem am_okC_all : am_okC am_cl am_nf am_Ts := by
  intro ci C T N h
  match ci, h with
  | 0, h => cases h; exact ⟨am_ws0, am_ty0, am_nm0, rfl, (am_Tf_ok 5135 _ rfl rfl), (am_Tf_ok 1013 _ rfl rfl)⟩
  | 1, h => cases h; exact ⟨am_ws1, am_ty1, am_nm1, rfl, (am_Tf_ok 1019 _ rfl rfl), (am_Tf_ok 1001 _ rfl rfl)⟩
  | 2, h => cases h; exact ⟨am_ws2, am_ty2, am_nm2, rfl, (am_Tf_ok 1181 _ rfl rfl), (am_Tf_ok 1008 _ rfl rfl)⟩
  | 3, h => cases h; exact ⟨am_ws3, am_ty3, am_nm3, rfl, (am_Tf_ok 1027 _ rfl rfl), (am_Tf_ok 1002 _ rfl rfl)⟩
  | 4, h => cases h; exact ⟨am_ws4, am_ty4, am_nm4, rfl, (am_Tf_ok 1200 _ rfl rfl), (am_Tf_ok 1010 _ rfl rfl)⟩
  | 5, h => cases h; exact ⟨am_ws5, am_ty5, am_nm5, rfl, (am_Tf_ok 1194 _ rfl rfl), (am_Tf_ok 1009 _ rfl rfl)⟩
  | 6, h => cases h; exact ⟨am_ws6, am_ty6, am_nm6, rfl, (am_Tf_ok 1137 _ rfl rfl), (am_Tf_ok 1006 _ rfl rfl)⟩
  | 7, h => cases h; exact ⟨am_ws7, am_ty7, am_nm7, rfl, (am_Tf_ok 1044 _ rfl rfl), (am_Tf_ok 1003 _ rfl rfl)⟩
  | 8, h => cases h; exact ⟨am_ws8, am_ty8, am_nm8, rfl, (am_Tf_ok 1143 _ rfl rfl), (am_Tf_ok 1007 _ rfl rfl)⟩
  | 9, h => cases h; exact ⟨am_ws9, am_ty9, am_nm9, rfl, (am_Tf_ok 1233 _ rfl rfl), (am_Tf_ok 1012 _ rfl rfl)⟩
  | 10, h => cases h; exact ⟨am_ws10, am_ty10, am_nm10, rfl, (am_Tf_ok 1063 _ rfl rfl), (am_Tf_ok 1005 _ rfl rfl)⟩
  | 11, h => cases h; exact ⟨am_ws11, am_ty11, am_nm11, rfl, (am_Tf_ok 1206 _ rfl rfl), (am_Tf_ok 1011 _ rfl rfl)⟩
  | n + 12, h => simp [am_cl] at h
