theorem kl_RX0 : ∀ k, k < 11 → u_lay RX0 TX0 k ∈ kt_T
  | 0, _ => kw_111
  | 1, _ => kw_113
  | 2, _ => kw_115
  | 3, _ => kw_117
  | 4, _ => kw_119
  | 5, _ => kw_121
  | 6, _ => kw_123
  | 7, _ => kw_125
  | 8, _ => kw_127
  | 9, _ => kw_129
  | 10, _ => kw_131
  | n + 11, h => absurd h (by omega)
theorem ki_RX0 : ∀ w ∈ u_ws RX0 TX0 11, w ∈ kt_T := fun w h => by
  obtain ⟨k, hk, rfl⟩ := List.mem_map.mp h
  exact kl_RX0 k (List.mem_range.mp hk)
theorem kl_RX1 : ∀ k, k < 1 → u_lay RX1 TX1 k ∈ kt_T
  | 0, _ => kw_273
  | n + 1, h => absurd h (by omega)
theorem ki_RX1 : ∀ w ∈ u_ws RX1 TX1 1, w ∈ kt_T := fun w h => by
  obtain ⟨k, hk, rfl⟩ := List.mem_map.mp h
  exact kl_RX1 k (List.mem_range.mp hk)
theorem kl_RX2 : ∀ k, k < 8 → u_lay RX2 TX2 k ∈ kt_T
  | 0, _ => kw_188
  | 1, _ => kw_190
  | 2, _ => kw_192
  | 3, _ => kw_194
  | 4, _ => kw_196
  | 5, _ => kw_198
  | 6, _ => kw_200
  | 7, _ => kw_202
  | n + 8, h => absurd h (by omega)
theorem ki_RX2 : ∀ w ∈ u_ws RX2 TX2 8, w ∈ kt_T := fun w h => by
  obtain ⟨k, hk, rfl⟩ := List.mem_map.mp h
  exact kl_RX2 k (List.mem_range.mp hk)
theorem kl_RX3 : ∀ k, k < 4 → u_lay RX3 TX3 k ∈ kt_T
  | 0, _ => kw_217
  | 1, _ => kw_219
  | 2, _ => kw_221
  | 3, _ => kw_223
  | n + 4, h => absurd h (by omega)
theorem ki_RX3 : ∀ w ∈ u_ws RX3 TX3 4, w ∈ kt_T := fun w h => by
  obtain ⟨k, hk, rfl⟩ := List.mem_map.mp h
  exact kl_RX3 k (List.mem_range.mp hk)
theorem kl_RX4 : ∀ k, k < 4 → u_lay RX4 TX4 k ∈ kt_T
  | 0, _ => kw_144
  | 1, _ => kw_146
  | 2, _ => kw_148
  | 3, _ => kw_150
  | n + 4, h => absurd h (by omega)
theorem ki_RX4 : ∀ w ∈ u_ws RX4 TX4 4, w ∈ kt_T := fun w h => by
  obtain ⟨k, hk, rfl⟩ := List.mem_map.mp h
  exact kl_RX4 k (List.mem_range.mp hk)
theorem kl_RX5 : ∀ k, k < 3 → u_lay RX5 TX5 k ∈ kt_T
  | 0, _ => kw_170
  | 1, _ => kw_172
  | 2, _ => kw_174
  | n + 3, h => absurd h (by omega)
theorem ki_RX5 : ∀ w ∈ u_ws RX5 TX5 3, w ∈ kt_T := fun w h => by
  obtain ⟨k, hk, rfl⟩ := List.mem_map.mp h
  exact kl_RX5 k (List.mem_range.mp hk)
theorem kl_RX6 : ∀ k, k < 7 → u_lay RX6 TX6 k ∈ kt_T
  | 0, _ => kw_43
  | 1, _ => kw_45
  | 2, _ => kw_47
  | 3, _ => kw_49
  | 4, _ => kw_51
  | 5, _ => kw_53
  | 6, _ => kw_55
  | n + 7, h => absurd h (by omega)
theorem ki_RX6 : ∀ w ∈ u_ws RX6 TX6 7, w ∈ kt_T := fun w h => by
  obtain ⟨k, hk, rfl⟩ := List.mem_map.mp h
  exact kl_RX6 k (List.mem_range.mp hk)
theorem kl_RX7 : ∀ k, k < 9 → u_lay RX7 TX7 k ∈ kt_T
  | 0, _ => kw_246
  | 1, _ => kw_248
  | 2, _ => kw_250
  | 3, _ => kw_252
  | 4, _ => kw_254
  | 5, _ => kw_256
  | 6, _ => kw_258
  | 7, _ => kw_260
  | 8, _ => kw_262
  | n + 9, h => absurd h (by omega)
theorem ki_RX7 : ∀ w ∈ u_ws RX7 TX7 9, w ∈ kt_T := fun w h => by
  obtain ⟨k, hk, rfl⟩ := List.mem_map.mp h
  exact kl_RX7 k (List.mem_range.mp hk)
theorem kl_RX8 : ∀ k, k < 3 → u_lay RX8 TX8 k ∈ kt_T
  | 0, _ => kw_287
  | 1, _ => kw_289
  | 2, _ => kw_291
  | n + 3, h => absurd h (by omega)
theorem ki_RX8 : ∀ w ∈ u_ws RX8 TX8 3, w ∈ kt_T := fun w h => by
  obtain ⟨k, hk, rfl⟩ := List.mem_map.mp h
  exact kl_RX8 k (List.mem_range.mp hk)
theorem kl_RX9 : ∀ k, k < 16 → u_lay RX9 TX9 k ∈ kt_T
  | 0, _ => kw_310
  | 1, _ => kw_312
  | 2, _ => kw_314
  | 3, _ => kw_316
  | 4, _ => kw_318
  | 5, _ => kw_320
  | 6, _ => kw_322
  | 7, _ => kw_324
  | 8, _ => kw_326
  | 9, _ => kw_328
  | 10, _ => kw_330
  | 11, _ => kw_332
  | 12, _ => kw_334
  | 13, _ => kw_336
  | 14, _ => kw_338
  | 15, _ => kw_340
  | n + 16, h => absurd h (by omega)
theorem ki_RX9 : ∀ w ∈ u_ws RX9 TX9 16, w ∈ kt_T := fun w h => by
  obtain ⟨k, hk, rfl⟩ := List.mem_map.mp h
  exact kl_RX9 k (List.mem_range.mp hk)
theorem kl_RX10 : ∀ k, k < 34 → u_lay RX10 TX10 k ∈ kt_T
  | 0, _ => kw_1051
  | 1, _ => kw_1053
  | 2, _ => kw_1055
  | 3, _ => kw_1057
  | 4, _ => kw_1059
  | 5, _ => kw_1061
  | 6, _ => kw_1063
  | 7, _ => kw_1065
  | 8, _ => kw_1067
  | 9, _ => kw_1069
  | 10, _ => kw_1071
  | 11, _ => kw_1073
  | 12, _ => kw_1075
  | 13, _ => kw_1077
  | 14, _ => kw_1079
  | 15, _ => kw_1081
  | 16, _ => kw_1083
  | 17, _ => kw_1085
  | 18, _ => kw_1087
  | 19, _ => kw_1089
  | 20, _ => kw_1091
  | 21, _ => kw_1093
  | 22, _ => kw_1095
  | 23, _ => kw_1097
  | 24, _ => kw_1099
  | 25, _ => kw_1101
  | 26, _ => kw_1103
  | 27, _ => kw_1105
  | 28, _ => kw_1107
  | 29, _ => kw_1109
  | 30, _ => kw_1111
  | 31, _ => kw_1113
  | 32, _ => kw_1115
  | 33, _ => kw_1117
  | n + 34, h => absurd h (by omega)
theorem ki_RX10 : ∀ w ∈ u_ws RX10 TX10 34, w ∈ kt_T := fun w h => by
  obtain ⟨k, hk, rfl⟩ := List.mem_map.mp h
  exact kl_RX10 k (List.mem_range.mp hk)
