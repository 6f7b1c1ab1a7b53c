theorem kwOI : Cond.instanceMethod Lib.objectInit ∈ gtbl := kt32
theorem kwOC : Cond.code Lib.objectInit ⟨#[0xb1]⟩ 1 none ∈ gtbl := kt33
theorem kw_mmax_s : Cond.static Lib.Math.max.name ∈ gtbl := kt148
theorem kw_mmax_c : Cond.code Lib.Math.max.name Lib.Math.max.code 2 (some .int) ∈ gtbl := kt149
theorem kw_mmin_s : Cond.static Lib.Math.min.name ∈ gtbl := kt182
theorem kw_mmin_c : Cond.code Lib.Math.min.name Lib.Math.min.code 2 (some .int) ∈ gtbl := kt183
theorem kw_mabs_s : Cond.static Lib.Math.abs.name ∈ gtbl := kt939
theorem kw_mabs_c : Cond.code Lib.Math.abs.name Lib.Math.abs.code 1 (some .int) ∈ gtbl := kt940
theorem kw_math : Cond.initialized "java/lang/Math" ∈ gtbl := kt10
theorem kwCn : Cond.native arraycopyName ∈ gtbl := kt186
theorem kwCs : Cond.static arraycopyName ∈ gtbl := kt185
theorem kwCi : Cond.initialized "java/lang/System" ∈ gtbl := kt12
theorem kwGi : Cond.instanceMethod ⟨"java/lang/Object", "getClass", "()Ljava/lang/Class;"⟩ ∈ gtbl := kt158
theorem kwGn : Cond.native ⟨"java/lang/Object", "getClass", "()Ljava/lang/Class;"⟩ ∈ gtbl := kt174
theorem kwGs : Cond.selects "[Ljava/lang/Object;" ⟨"java/lang/Object", "getClass", "()Ljava/lang/Class;"⟩ ⟨"java/lang/Object", "getClass", "()Ljava/lang/Class;"⟩ ∈ gtbl := kt1078
theorem arr20 : Cond.arrayClass (newarray.typeOf .int) ∈ gtbl := kt102
theorem arr21 : Cond.arrayClass (newarray.typeOf .boolean) ∈ gtbl := kt103
theorem uw0 : ∀ w ∈ u_ws RJx4a65c TJx4a65c 3, w ∈ gtbl := by
  intro w hw
  obtain ⟨k, hk, rfl⟩ := List.mem_map.mp hw
  have hk := List.mem_range.mp hk
  rcases (show k = 0 ∨ k = 1 ∨ k = 2 by omega) with rfl | rfl | rfl
  · exact kt57
  · exact kt53
  · exact kt55
theorem cf0 : CF 0 RJx4a65c TJx4a65c 3 tyJx4a65c := ⟨rfl, uw0, tyJx4a65c_ok, nmJx4a65c, by decide, by decide⟩
theorem def0 : ∀ k, k < 3 → defaultValue (tyJx4a65c k) = if refF (16 * 0 + k) = true then .null else .int 0 := by
  intro k hk
  rcases (show k = 0 ∨ k = 1 ∨ k = 2 by omega) with rfl | rfl | rfl <;> rfl
theorem uw1 : ∀ w ∈ u_ws RX0 TX0 5, w ∈ gtbl := by
  intro w hw
  obtain ⟨k, hk, rfl⟩ := List.mem_map.mp hw
  have hk := List.mem_range.mp hk
  rcases (show k = 0 ∨ k = 1 ∨ k = 2 ∨ k = 3 ∨ k = 4 by omega) with rfl | rfl | rfl | rfl | rfl
  · exact kt541
  · exact kt543
  · exact kt545
  · exact kt547
  · exact kt549
theorem cf1 : CF 1 RX0 TX0 5 tyX0 := ⟨rfl, uw1, tyX0_ok, nmX0, by decide, by decide⟩
theorem def1 : ∀ k, k < 5 → defaultValue (tyX0 k) = if refF (16 * 1 + k) = true then .null else .int 0 := by
  intro k hk
  rcases (show k = 0 ∨ k = 1 ∨ k = 2 ∨ k = 3 ∨ k = 4 by omega) with rfl | rfl | rfl | rfl | rfl <;> rfl
theorem uw2 : ∀ w ∈ u_ws RX1 TX1 3, w ∈ gtbl := by
  intro w hw
  obtain ⟨k, hk, rfl⟩ := List.mem_map.mp hw
  have hk := List.mem_range.mp hk
  rcases (show k = 0 ∨ k = 1 ∨ k = 2 by omega) with rfl | rfl | rfl
  · exact kt503
  · exact kt505
  · exact kt507
theorem cf2 : CF 2 RX1 TX1 3 tyX1 := ⟨rfl, uw2, tyX1_ok, nmX1, by decide, by decide⟩
theorem def2 : ∀ k, k < 3 → defaultValue (tyX1 k) = if refF (16 * 2 + k) = true then .null else .int 0 := by
  intro k hk
  rcases (show k = 0 ∨ k = 1 ∨ k = 2 by omega) with rfl | rfl | rfl <;> rfl
theorem uw3 : ∀ w ∈ u_ws RX2 TX2 2, w ∈ gtbl := by
  intro w hw
  obtain ⟨k, hk, rfl⟩ := List.mem_map.mp hw
  have hk := List.mem_range.mp hk
  rcases (show k = 0 ∨ k = 1 by omega) with rfl | rfl
  · exact kt97
  · exact kt99
theorem cf3 : CF 3 RX2 TX2 2 tyX2 := ⟨rfl, uw3, tyX2_ok, nmX2, by decide, by decide⟩
theorem def3 : ∀ k, k < 2 → defaultValue (tyX2 k) = if refF (16 * 3 + k) = true then .null else .int 0 := by
  intro k hk
  rcases (show k = 0 ∨ k = 1 by omega) with rfl | rfl <;> rfl
theorem uw4 : ∀ w ∈ u_ws RX3 TX3 3, w ∈ gtbl := by
  intro w hw
  obtain ⟨k, hk, rfl⟩ := List.mem_map.mp hw
  have hk := List.mem_range.mp hk
  rcases (show k = 0 ∨ k = 1 ∨ k = 2 by omega) with rfl | rfl | rfl
  · exact kt202
  · exact kt204
  · exact kt206
theorem cf4 : CF 4 RX3 TX3 3 tyX3 := ⟨rfl, uw4, tyX3_ok, nmX3, by decide, by decide⟩
theorem def4 : ∀ k, k < 3 → defaultValue (tyX3 k) = if refF (16 * 4 + k) = true then .null else .int 0 := by
  intro k hk
  rcases (show k = 0 ∨ k = 1 ∨ k = 2 by omega) with rfl | rfl | rfl <;> rfl
theorem uw5 : ∀ w ∈ u_ws RX4 TX4 6, w ∈ gtbl := by
  intro w hw
  obtain ⟨k, hk, rfl⟩ := List.mem_map.mp hw
  have hk := List.mem_range.mp hk
  rcases (show k = 0 ∨ k = 1 ∨ k = 2 ∨ k = 3 ∨ k = 4 ∨ k = 5 by omega) with rfl | rfl | rfl | rfl | rfl | rfl
  · exact kt1013
  · exact kt1015
  · exact kt1017
  · exact kt1019
  · exact kt1021
  · exact kt1023
theorem cf5 : CF 5 RX4 TX4 6 tyX4 := ⟨rfl, uw5, tyX4_ok, nmX4, by decide, by decide⟩
theorem def5 : ∀ k, k < 6 → defaultValue (tyX4 k) = if refF (16 * 5 + k) = true then .null else .int 0 := by
  intro k hk
  rcases (show k = 0 ∨ k = 1 ∨ k = 2 ∨ k = 3 ∨ k = 4 ∨ k = 5 by omega) with rfl | rfl | rfl | rfl | rfl | rfl <;> rfl
theorem uw6 : ∀ w ∈ u_ws RX5 TX5 4, w ∈ gtbl := by
  intro w hw
  obtain ⟨k, hk, rfl⟩ := List.mem_map.mp hw
  have hk := List.mem_range.mp hk
  rcases (show k = 0 ∨ k = 1 ∨ k = 2 ∨ k = 3 by omega) with rfl | rfl | rfl | rfl
  · exact kt119
  · exact kt121
  · exact kt123
  · exact kt125
theorem cf6 : CF 6 RX5 TX5 4 tyX5 := ⟨rfl, uw6, tyX5_ok, nmX5, by decide, by decide⟩
theorem def6 : ∀ k, k < 4 → defaultValue (tyX5 k) = if refF (16 * 6 + k) = true then .null else .int 0 := by
  intro k hk
  rcases (show k = 0 ∨ k = 1 ∨ k = 2 ∨ k = 3 by omega) with rfl | rfl | rfl | rfl <;> rfl
theorem uw7 : ∀ w ∈ u_ws RX6 TX6 1, w ∈ gtbl := by
  intro w hw
  obtain ⟨k, hk, rfl⟩ := List.mem_map.mp hw
  have hk := List.mem_range.mp hk
  rcases (show k = 0 by omega) with rfl
  · exact kt86
theorem cf7 : CF 7 RX6 TX6 1 tyX6 := ⟨rfl, uw7, tyX6_ok, nmX6, by decide, by decide⟩
theorem def7 : ∀ k, k < 1 → defaultValue (tyX6 k) = if refF (16 * 7 + k) = true then .null else .int 0 := by
  intro k hk
  rcases (show k = 0 by omega) with rfl <;> rfl
theorem uw8 : ∀ w ∈ u_ws RX7 TX7 12, w ∈ gtbl := by
  intro w hw
  obtain ⟨k, hk, rfl⟩ := List.mem_map.mp hw
  have hk := List.mem_range.mp hk
  rcases (show k = 0 ∨ k = 1 ∨ k = 2 ∨ k = 3 ∨ k = 4 ∨ k = 5 ∨ k = 6 ∨ k = 7 ∨ k = 8 ∨ k = 9 ∨ k = 10 ∨ k = 11 by omega) with rfl | rfl | rfl | rfl | rfl | rfl | rfl | rfl | rfl | rfl | rfl | rfl
  · exact kt445
  · exact kt447
  · exact kt449
  · exact kt451
  · exact kt453
  · exact kt455
  · exact kt457
  · exact kt459
  · exact kt461
  · exact kt463
  · exact kt465
  · exact kt467
theorem cf8 : CF 8 RX7 TX7 12 tyX7 := ⟨rfl, uw8, tyX7_ok, nmX7, by decide, by decide⟩
theorem def8 : ∀ k, k < 12 → defaultValue (tyX7 k) = if refF (16 * 8 + k) = true then .null else .int 0 := by
  intro k hk
  rcases (show k = 0 ∨ k = 1 ∨ k = 2 ∨ k = 3 ∨ k = 4 ∨ k = 5 ∨ k = 6 ∨ k = 7 ∨ k = 8 ∨ k = 9 ∨ k = 10 ∨ k = 11 by omega) with rfl | rfl | rfl | rfl | rfl | rfl | rfl | rfl | rfl | rfl | rfl | rfl <;> rfl
theorem uw9 : ∀ w ∈ u_ws RX8 TX8 2, w ∈ gtbl := by
  intro w hw
  obtain ⟨k, hk, rfl⟩ := List.mem_map.mp hw
  have hk := List.mem_range.mp hk
  rcases (show k = 0 ∨ k = 1 by omega) with rfl | rfl
  · exact kt68
  · exact kt70
theorem cf9 : CF 9 RX8 TX8 2 tyX8 := ⟨rfl, uw9, tyX8_ok, nmX8, by decide, by decide⟩
theorem def9 : ∀ k, k < 2 → defaultValue (tyX8 k) = if refF (16 * 9 + k) = true then .null else .int 0 := by
  intro k hk
  rcases (show k = 0 ∨ k = 1 by omega) with rfl | rfl <;> rfl
theorem uw10 : ∀ w ∈ u_ws RX9 TX9 14, w ∈ gtbl := by
  intro w hw
  obtain ⟨k, hk, rfl⟩ := List.mem_map.mp hw
  have hk := List.mem_range.mp hk
  rcases (show k = 0 ∨ k = 1 ∨ k = 2 ∨ k = 3 ∨ k = 4 ∨ k = 5 ∨ k = 6 ∨ k = 7 ∨ k = 8 ∨ k = 9 ∨ k = 10 ∨ k = 11 ∨ k = 12 ∨ k = 13 by omega) with rfl | rfl | rfl | rfl | rfl | rfl | rfl | rfl | rfl | rfl | rfl | rfl | rfl | rfl
  · exact kt223
  · exact kt225
  · exact kt227
  · exact kt229
  · exact kt231
  · exact kt233
  · exact kt235
  · exact kt237
  · exact kt239
  · exact kt241
  · exact kt243
  · exact kt245
  · exact kt247
  · exact kt249
theorem cf10 : CF 10 RX9 TX9 14 tyX9 := ⟨rfl, uw10, tyX9_ok, nmX9, by decide, by decide⟩
theorem def10 : ∀ k, k < 14 → defaultValue (tyX9 k) = if refF (16 * 10 + k) = true then .null else .int 0 := by
  intro k hk
  rcases (show k = 0 ∨ k = 1 ∨ k = 2 ∨ k = 3 ∨ k = 4 ∨ k = 5 ∨ k = 6 ∨ k = 7 ∨ k = 8 ∨ k = 9 ∨ k = 10 ∨ k = 11 ∨ k = 12 ∨ k = 13 by omega) with rfl | rfl | rfl | rfl | rfl | rfl | rfl | rfl | rfl | rfl | rfl | rfl | rfl | rfl <;> rfl
theorem mf_Jxa1e45_init_da8c8 : MF yJxa1e45_init_da8c8 cJxa1e45_init_da8c8 1 none 0 := ⟨kt44, kt2, by decide +kernel, by decide⟩
theorem mf_Jxc12de_init_da8c8 : MF yJxc12de_init_da8c8 cJxc12de_init_da8c8 1 none 0 := ⟨kt41, kt3, by decide +kernel, by decide⟩
theorem mf_Jx4a65c_init_da8c8 : MF yJx4a65c_init_da8c8 cJx4a65c_init_da8c8 1 none 0 := ⟨kt38, kt4, by decide +kernel, by decide⟩
theorem mf_Jx4a65c_size_8abf5 : MF yJx4a65c_size_8abf5 cJx4a65c_size_8abf5 1 (some .int) 0 := ⟨kt263, kt4, by decide +kernel, by decide⟩
theorem mf_Jx4a65c_isEmpty_aae02 : MF yJx4a65c_isEmpty_aae02 cJx4a65c_isEmpty_aae02 1 (some .boolean) 0 := ⟨kt368, kt4, by decide +kernel, by decide⟩
theorem mf_Jx4a65c_elementData_915e3 : MF yJx4a65c_elementData_915e3 cJx4a65c_elementData_915e3 2 (some (.object "java/lang/Object")) 1 := ⟨kt277, kt4, by decide +kernel, by decide⟩
theorem mf_J3_checkIndex_8e157 : MF yJ3_checkIndex_8e157 cJ3_checkIndex_8e157 3 (some .int) 3 := ⟨kt273, kt15, by decide +kernel, by decide⟩
theorem mf_J15_checkIndex_7cf53 : MF yJ15_checkIndex_7cf53 cJ15_checkIndex_7cf53 2 (some .int) 2 := ⟨kt270, kt14, by decide +kernel, by decide⟩
theorem mf_Jx4a65c_get_915e3 : MF yJx4a65c_get_915e3 cJx4a65c_get_915e3 2 (some (.object "java/lang/Object")) 1 := ⟨kt267, kt4, by decide +kernel, by decide⟩
theorem mf_J8_newLength_cabcc : MF yJ8_newLength_cabcc cJ8_newLength_cabcc 4 (some .int) 3 := ⟨kt146, kt9, by decide +kernel, by decide⟩
theorem mf_J7_copyOf_6403c : MF yJ7_copyOf_6403c cJ7_copyOf_6403c 4 (some (.array (.object "java/lang/Object"))) 3 := ⟨kt177, kt11, by decide +kernel, by decide⟩
theorem mf_J7_copyOf_1904c : MF yJ7_copyOf_1904c cJ7_copyOf_1904c 2 (some (.array (.object "java/lang/Object"))) 2 := ⟨kt156, kt11, by decide +kernel, by decide⟩
theorem mf_Jx4a65c_grow_92f84 : MF yJx4a65c_grow_92f84 cJx4a65c_grow_92f84 4 (some (.array (.object "java/lang/Object"))) 1 := ⟨kt143, kt4, by decide +kernel, by decide⟩
theorem mf_Jx4a65c_grow_d5877 : MF yJx4a65c_grow_d5877 cJx4a65c_grow_d5877 1 (some (.array (.object "java/lang/Object"))) 0 := ⟨kt139, kt4, by decide +kernel, by decide⟩
theorem mf_Jx4a65c_add_72be8 : MF yJx4a65c_add_72be8 cJx4a65c_add_72be8 4 none 3 := ⟨kt135, kt4, by decide +kernel, by decide⟩
theorem mf_Jx4a65c_add_9ea2d : MF yJx4a65c_add_9ea2d cJx4a65c_add_9ea2d 2 (some .boolean) 1 := ⟨kt131, kt4, by decide +kernel, by decide⟩
theorem mf_Jx4a65c_rangeCheckForAdd_d00df : MF yJx4a65c_rangeCheckForAdd_d00df cJx4a65c_rangeCheckForAdd_d00df 2 none 1 := ⟨kt481, kt4, by decide +kernel, by decide⟩
theorem mf_Jx4a65c_add_7a177 : MF yJx4a65c_add_7a177 cJx4a65c_add_7a177 5 none 2 := ⟨kt477, kt4, by decide +kernel, by decide⟩
theorem mf_Jx4a65c_fastRemove_b59b0 : MF yJx4a65c_fastRemove_b59b0 cJx4a65c_fastRemove_b59b0 4 none 2 := ⟨kt600, kt4, by decide +kernel, by decide⟩
theorem mf_Jx4a65c_remove_915e3 : MF yJx4a65c_remove_915e3 cJx4a65c_remove_915e3 4 (some (.object "java/lang/Object")) 1 := ⟨kt596, kt4, by decide +kernel, by decide⟩
theorem mf_Jx4a65c_clear_da8c8 : MF yJx4a65c_clear_da8c8 cJx4a65c_clear_da8c8 4 none 0 := ⟨kt604, kt4, by decide +kernel, by decide⟩
theorem mf_X6_init : MF yX6_init cX6_init 1 none 0 := ⟨kt77, kt6, by decide +kernel, by decide⟩
theorem mf_X0_init : MF yX0_init cX0_init 3 none 2 := ⟨kt524, kt24, by decide +kernel, by decide⟩
theorem mf_X0_pieceNumbered : MF yX0_pieceNumbered cX0_pieceNumbered 2 (some (.object "Blockduty$Piece")) 1 := ⟨kt831, kt24, by decide +kernel, by decide⟩
theorem mf_X1_drop : MF yX1_drop cX1_drop 3 none 1 := ⟨kt590, kt23, by decide +kernel, by decide⟩
theorem mf_X4_release : MF yX4_release cX4_release 1 none 0 := ⟨kt586, kt25, by decide +kernel, by decide⟩
theorem mf_X6_count : MF yX6_count cX6_count 1 (some .int) 0 := ⟨kt608, kt6, by decide +kernel, by decide⟩
theorem mf_X0_forgetPieces : MF yX0_forgetPieces cX0_forgetPieces 2 none 0 := ⟨kt579, kt24, by decide +kernel, by decide⟩
theorem mf_X0_addTrip : MF yX0_addTrip cX0_addTrip 2 none 1 := ⟨kt919, kt24, by decide +kernel, by decide⟩
theorem mf_X6_get : MF yX6_get cX6_get 2 (some (.object "Blockduty$Trip")) 1 := ⟨kt573, kt6, by decide +kernel, by decide⟩
theorem mf_X6_last : MF yX6_last cX6_last 1 (some (.object "Blockduty$Trip")) 0 := ⟨kt568, kt6, by decide +kernel, by decide⟩
theorem mf_X0_removeLastTrip : MF yX0_removeLastTrip cX0_removeLastTrip 2 (some (.object "Blockduty$Trip")) 0 := ⟨kt564, kt24, by decide +kernel, by decide⟩
theorem mf_X6_addPart : MF yX6_addPart cX6_addPart 5 none 3 := ⟨kt879, kt6, by decide +kernel, by decide⟩
theorem mf_X6_copy : MF yX6_copy cX6_copy 2 none 1 := ⟨kt915, kt6, by decide +kernel, by decide⟩
theorem mf_X0_takeOver : MF yX0_takeOver cX0_takeOver 3 none 1 := ⟨kt959, kt24, by decide +kernel, by decide⟩
theorem mf_X4_init : MF yX4_init cX4_init 6 none 5 := ⟨kt999, kt25, by decide +kernel, by decide⟩
theorem mf_X0_addPiece : MF yX0_addPiece cX0_addPiece 7 none 2 := ⟨kt994, kt24, by decide +kernel, by decide⟩
theorem mf_X0_cutAt : MF yX0_cutAt cX0_cutAt 5 none 2 := ⟨kt990, kt24, by decide +kernel, by decide⟩
theorem mf_X7_late : MF yX7_late cX7_late 1 (some .int) 0 := ⟨kt660, kt22, by decide +kernel, by decide⟩
theorem mf_X7_causeIf : MF yX7_causeIf cX7_causeIf 3 (some .int) 1 := ⟨kt656, kt22, by decide +kernel, by decide⟩
theorem mf_X7_runs : MF yX7_runs cX7_runs 1 (some .boolean) 0 := ⟨kt664, kt22, by decide +kernel, by decide⟩
theorem mf_X5_emptyTo : MF yX5_emptyTo cX5_emptyTo 2 (some .int) 1 := ⟨kt651, kt8, by decide +kernel, by decide⟩
theorem mf_X7_emptyTo : MF yX7_emptyTo cX7_emptyTo 2 (some .int) 1 := ⟨kt647, kt22, by decide +kernel, by decide⟩
theorem mf_X0_lostIf : MF yX0_lostIf cX0_lostIf 10 (some .int) 3 := ⟨kt643, kt24, by decide +kernel, by decide⟩
theorem mf_X0_lostNow : MF yX0_lostNow cX0_lostNow 1 (some .int) 0 := ⟨kt702, kt24, by decide +kernel, by decide⟩
theorem mf_X1_init : MF yX1_init cX1_init 2 none 1 := ⟨kt492, kt23, by decide +kernel, by decide⟩
theorem mf_X7_end : MF yX7_end cX7_end 1 (some .int) 0 := ⟨kt668, kt22, by decide +kernel, by decide⟩
theorem mf_X4_isNear : MF yX4_isNear cX4_isNear 2 (some .boolean) 1 := ⟨kt1042, kt25, by decide +kernel, by decide⟩
theorem mf_X4_minutes : MF yX4_minutes cX4_minutes 1 (some .int) 0 := ⟨kt716, kt25, by decide +kernel, by decide⟩
theorem mf_X1_minutes : MF yX1_minutes cX1_minutes 3 (some .int) 0 := ⟨kt711, kt23, by decide +kernel, by decide⟩
theorem mf_X1_canGet : MF yX1_canGet cX1_canGet 3 (some .boolean) 1 := ⟨kt1038, kt23, by decide +kernel, by decide⟩
theorem mf_X4_worked : MF yX4_worked cX4_worked 4 (some .int) 0 := ⟨kt725, kt25, by decide +kernel, by decide⟩
theorem mf_X1_worked : MF yX1_worked cX1_worked 3 (some .int) 0 := ⟨kt721, kt23, by decide +kernel, by decide⟩
theorem mf_X1_pay : MF yX1_pay cX1_pay 3 (some .int) 0 := ⟨kt733, kt23, by decide +kernel, by decide⟩
theorem mf_X2_init : MF yX2_init cX2_init 1 none 0 := ⟨kt93, kt7, by decide +kernel, by decide⟩
theorem mf_X7_canFollow : MF yX7_canFollow cX7_canFollow 2 (some .boolean) 1 := ⟨kt788, kt22, by decide +kernel, by decide⟩
theorem mf_X2_findsFollower : MF yX2_findsFollower cX2_findsFollower 8 (some .boolean) 5 := ⟨kt781, kt7, by decide +kernel, by decide⟩
theorem mf_X2_mostPairs : MF yX2_mostPairs cX2_mostPairs 5 (some .int) 1 := ⟨kt777, kt7, by decide +kernel, by decide⟩
theorem mf_X3_init : MF yX3_init cX3_init 2 none 1 := ⟨kt193, kt13, by decide +kernel, by decide⟩
theorem mf_X4_driverNumber : MF yX4_driverNumber cX4_driverNumber 1 (some .int) 0 := ⟨kt837, kt25, by decide +kernel, by decide⟩
theorem mf_X5_init : MF yX5_init cX5_init 2 none 1 := ⟨kt108, kt8, by decide +kernel, by decide⟩
theorem mf_X6_join : MF yX6_join cX6_join 5 none 4 := ⟨kt874, kt6, by decide +kernel, by decide⟩
theorem mf_X6_empty : MF yX6_empty cX6_empty 6 (some .int) 1 := ⟨kt698, kt6, by decide +kernel, by decide⟩
theorem mf_X6_leastCharge : MF yX6_leastCharge cX6_leastCharge 12 (some .int) 3 := ⟨kt691, kt6, by decide +kernel, by decide⟩
theorem mf_X7_init : MF yX7_init cX7_init 7 none 6 := ⟨kt406, kt22, by decide +kernel, by decide⟩
theorem mf_X7_waitBehind : MF yX7_waitBehind cX7_waitBehind 2 (some .int) 1 := ⟨kt984, kt22, by decide +kernel, by decide⟩
theorem mf_X7_blockNumber : MF yX7_blockNumber cX7_blockNumber 1 (some .int) 0 := ⟨kt672, kt22, by decide +kernel, by decide⟩
theorem mf_X7_pieceNumber : MF yX7_pieceNumber cX7_pieceNumber 1 (some .int) 0 := ⟨kt676, kt22, by decide +kernel, by decide⟩
theorem mf_X7_pay : MF yX7_pay cX7_pay 2 (some .int) 1 := ⟨kt751, kt22, by decide +kernel, by decide⟩
theorem mf_X8_init : MF yX8_init cX8_init 1 none 0 := ⟨kt64, kt5, by decide +kernel, by decide⟩
theorem mf_X8_endOfLongest : MF yX8_endOfLongest cX8_endOfLongest 9 (some .int) 2 := ⟨kt976, kt5, by decide +kernel, by decide⟩
theorem mf_X8_planPieces : MF yX8_planPieces cX8_planPieces 6 (some .int) 2 := ⟨kt971, kt5, by decide +kernel, by decide⟩
theorem mf_X9_init : MF yX9_init cX9_init 2 none 0 := ⟨kt30, kt1, by decide +kernel, by decide⟩
theorem mf_X9_placeNumbered : MF yX9_placeNumbered cX9_placeNumbered 2 (some (.object "Blockduty$Place")) 1 := ⟨kt259, kt1, by decide +kernel, by decide⟩
theorem mf_X9_isOutside : MF yX9_isOutside cX9_isOutside 3 (some .boolean) 3 := ⟨kt348, kt1, by decide +kernel, by decide⟩
theorem mf_X9_place : MF yX9_place cX9_place 7 (some .int) 4 := ⟨kt255, kt1, by decide +kernel, by decide⟩
theorem mf_X9_lineNumbered : MF yX9_lineNumbered cX9_lineNumbered 2 (some (.object "Blockduty$Line")) 1 := ⟨kt392, kt1, by decide +kernel, by decide⟩
theorem mf_X9_line : MF yX9_line cX9_line 6 (some .int) 3 := ⟨kt388, kt1, by decide +kernel, by decide⟩
theorem mf_X9_addByStart : MF yX9_addByStart cX9_addByStart 3 none 1 := ⟨kt473, kt1, by decide +kernel, by decide⟩
theorem mf_X9_trip : MF yX9_trip cX9_trip 11 (some .int) 5 := ⟨kt398, kt1, by decide +kernel, by decide⟩
theorem mf_X9_driver : MF yX9_driver cX9_driver 2 (some .int) 0 := ⟨kt486, kt1, by decide +kernel, by decide⟩
theorem mf_X9_newBlock : MF yX9_newBlock cX9_newBlock 3 (some (.object "Blockduty$Block")) 1 := ⟨kt519, kt1, by decide +kernel, by decide⟩
theorem mf_X9_block : MF yX9_block cX9_block 2 (some .int) 1 := ⟨kt513, kt1, by decide +kernel, by decide⟩
theorem mf_X9_tripNumbered : MF yX9_tripNumbered cX9_tripNumbered 2 (some (.object "Blockduty$Trip")) 1 := ⟨kt619, kt1, by decide +kernel, by decide⟩
theorem mf_X9_blockNumbered : MF yX9_blockNumbered cX9_blockNumbered 2 (some (.object "Blockduty$Block")) 1 := ⟨kt559, kt1, by decide +kernel, by decide⟩
theorem mf_X9_append : MF yX9_append cX9_append 6 (some .int) 2 := ⟨kt944, kt1, by decide +kernel, by decide⟩
theorem mf_X9_takeOff : MF yX9_takeOff cX9_takeOff 4 (some .int) 1 := ⟨kt555, kt1, by decide +kernel, by decide⟩
theorem mf_X9_isFlat : MF yX9_isFlat cX9_isFlat 3 (some .boolean) 2 := ⟨kt687, kt1, by decide +kernel, by decide⟩
theorem mf_X9_wouldBeFlat : MF yX9_wouldBeFlat cX9_wouldBeFlat 4 (some .boolean) 3 := ⟨kt911, kt1, by decide +kernel, by decide⟩
theorem mf_X9_nearestBlock : MF yX9_nearestBlock cX9_nearestBlock 7 (some (.object "Blockduty$Block")) 1 := ⟨kt905, kt1, by decide +kernel, by decide⟩
theorem mf_X9_wouldBeFlatAlone : MF yX9_wouldBeFlatAlone cX9_wouldBeFlatAlone 3 (some .boolean) 2 := ⟨kt924, kt1, by decide +kernel, by decide⟩
theorem mf_X9_putIntoSomeBlock : MF yX9_putIntoSomeBlock cX9_putIntoSomeBlock 4 (some .boolean) 2 := ⟨kt901, kt1, by decide +kernel, by decide⟩
theorem mf_X9_build : MF yX9_build cX9_build 5 (some .int) 1 := ⟨kt897, kt1, by decide +kernel, by decide⟩
theorem mf_X9_canJoin : MF yX9_canJoin cX9_canJoin 6 (some .boolean) 4 := ⟨kt864, kt1, by decide +kernel, by decide⟩
theorem mf_X9_canSwap : MF yX9_canSwap cX9_canSwap 4 (some .boolean) 4 := ⟨kt861, kt1, by decide +kernel, by decide⟩
theorem mf_X9_trySwap : MF yX9_trySwap cX9_trySwap 5 none 4 := ⟨kt870, kt1, by decide +kernel, by decide⟩
theorem mf_X9_swap : MF yX9_swap cX9_swap 10 (some .int) 4 := ⟨kt953, kt1, by decide +kernel, by decide⟩
theorem mf_X9_cut : MF yX9_cut cX9_cut 4 (some .int) 1 := ⟨kt967, kt1, by decide +kernel, by decide⟩
theorem mf_X9_driverNumbered : MF yX9_driverNumbered cX9_driverNumbered 2 (some (.object "Blockduty$Driver")) 1 := ⟨kt629, kt1, by decide +kernel, by decide⟩
theorem mf_X9_pieceNumbered : MF yX9_pieceNumbered cX9_pieceNumbered 4 (some (.object "Blockduty$Piece")) 2 := ⟨kt827, kt1, by decide +kernel, by decide⟩
theorem mf_X9_give : MF yX9_give cX9_give 6 (some .int) 3 := ⟨kt1033, kt1, by decide +kernel, by decide⟩
theorem mf_X9_delay : MF yX9_delay cX9_delay 5 (some .int) 2 := ⟨kt615, kt1, by decide +kernel, by decide⟩
theorem mf_X9_breakdown : MF yX9_breakdown cX9_breakdown 5 (some .int) 2 := ⟨kt1052, kt1, by decide +kernel, by decide⟩
theorem mf_X9_sick : MF yX9_sick cX9_sick 5 (some .boolean) 2 := ⟨kt625, kt1, by decide +kernel, by decide⟩
theorem mf_X9_runDay : MF yX9_runDay cX9_runDay 3 none 0 := ⟨kt639, kt1, by decide +kernel, by decide⟩
theorem mf_X9_ofTrip : MF yX9_ofTrip cX9_ofTrip 4 (some .int) 2 := ⟨kt634, kt1, by decide +kernel, by decide⟩
theorem mf_X9_ofBlock : MF yX9_ofBlock cX9_ofBlock 4 (some .int) 2 := ⟨kt682, kt1, by decide +kernel, by decide⟩
theorem mf_X9_at : MF yX9_at cX9_at 5 (some .int) 2 := ⟨kt933, kt1, by decide +kernel, by decide⟩
theorem mf_X9_ofPiece : MF yX9_ofPiece cX9_ofPiece 5 (some .int) 3 := ⟨kt823, kt1, by decide +kernel, by decide⟩
theorem mf_X9_ofDriver : MF yX9_ofDriver cX9_ofDriver 4 (some .int) 2 := ⟨kt707, kt1, by decide +kernel, by decide⟩
theorem mf_X9_countyPays : MF yX9_countyPays cX9_countyPays 3 (some .int) 0 := ⟨kt747, kt1, by decide +kernel, by decide⟩
theorem mf_X9_allEmpty : MF yX9_allEmpty cX9_allEmpty 3 (some .int) 0 := ⟨kt760, kt1, by decide +kernel, by decide⟩
theorem mf_X9_greatestLate : MF yX9_greatestLate cX9_greatestLate 4 (some .int) 0 := ⟨kt764, kt1, by decide +kernel, by decide⟩
theorem mf_X9_driversArePaid : MF yX9_driversArePaid cX9_driversArePaid 3 (some .int) 0 := ⟨kt756, kt1, by decide +kernel, by decide⟩
theorem mf_X9_countOfCause : MF yX9_countOfCause cX9_countOfCause 4 (some .int) 1 := ⟨kt743, kt1, by decide +kernel, by decide⟩
theorem mf_X9_many : MF yX9_many cX9_many 2 (some .int) 1 := ⟨kt739, kt1, by decide +kernel, by decide⟩
theorem mf_X9_lost : MF yX9_lost cX9_lost 2 (some .int) 1 := ⟨kt807, kt1, by decide +kernel, by decide⟩
theorem mf_X9_meanLate : MF yX9_meanLate cX9_meanLate 5 (some .double) 0 := ⟨kt769, kt1, by decide +kernel, by decide⟩
theorem mf_X9_leastBlocks : MF yX9_leastBlocks cX9_leastBlocks 1 (some .int) 0 := ⟨kt773, kt1, by decide +kernel, by decide⟩
theorem mf_X9_wouldLose : MF yX9_wouldLose cX9_wouldLose 4 (some .int) 2 := ⟨kt842, kt1, by decide +kernel, by decide⟩
theorem mf_X9_mayDelay : MF yX9_mayDelay cX9_mayDelay 7 (some .int) 1 := ⟨kt793, kt1, by decide +kernel, by decide⟩
theorem mf_X9_emptyOfSwap : MF yX9_emptyOfSwap cX9_emptyOfSwap 5 (some .int) 4 := ⟨kt858, kt1, by decide +kernel, by decide⟩
theorem mf_X9_bestSwap : MF yX9_bestSwap cX9_bestSwap 10 (some .int) 2 := ⟨kt853, kt1, by decide +kernel, by decide⟩
theorem mf_X9_mix : MF yX9_mix cX9_mix 3 (some .long) 2 := ⟨kt802, kt1, by decide +kernel, by decide⟩
theorem mf_X9_mixTrip : MF yX9_mixTrip cX9_mixTrip 7 (some .long) 2 := ⟨kt812, kt1, by decide +kernel, by decide⟩
theorem mf_X9_mixBlock : MF yX9_mixBlock cX9_mixBlock 9 (some .long) 2 := ⟨kt818, kt1, by decide +kernel, by decide⟩
theorem mf_X9_mixDriver : MF yX9_mixDriver cX9_mixDriver 7 (some .long) 2 := ⟨kt847, kt1, by decide +kernel, by decide⟩
theorem mf_X9_digest : MF yX9_digest cX9_digest 4 (some .long) 0 := ⟨kt797, kt1, by decide +kernel, by decide⟩
theorem mf_L_below : MF yL_below cL_below 2 (some .int) 2 := ⟨kt885, kt0, by decide +kernel, by decide⟩
theorem mf_L_cell : MF yL_cell cL_cell 2 (some .int) 2 := ⟨kt889, kt0, by decide +kernel, by decide⟩
theorem mf_L_follows : MF yL_follows cL_follows 4 (some .boolean) 4 := ⟨kt937, kt0, by decide +kernel, by decide⟩
theorem mf_L_isBuilt : MF yL_isBuilt cL_isBuilt 5 (some .boolean) 2 := ⟨kt893, kt0, by decide +kernel, by decide⟩
theorem mf_L_isBroken : MF yL_isBroken cL_isBroken 6 (some .boolean) 3 := ⟨kt1047, kt0, by decide +kernel, by decide⟩
theorem mf_L_isSound : MF yL_isSound cL_isSound 22 (some .boolean) 6 := ⟨kt1055, kt0, by decide +kernel, by decide⟩
