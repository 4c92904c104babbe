def y_Rp_open : MethodName := ⟨"RegionPool", "open", "()I"⟩
abbrev cd_Rp_open : ByteArray := prog_1_method_2_code
theorem fd_Rp_12 : xFd R_Rp 12 0 0 := ⟨R_Rp, T_Rp, 6, rfl, in_Rp, by decide, xG_mem 278 (by decide +kernel) (by decide +kernel)⟩
theorem fd_Rp_45 : xFd R_Rp 45 1 2 := ⟨R_Mem, T_Mem, 6, rfl, in_Mem, by decide, xG_mem 170 (by decide +kernel) (by decide +kernel)⟩
theorem yw_Reg_begin : xY y_Reg_begin cd_Reg_begin 2 (some .int) 0 := ⟨xG_mem 302 (by decide +kernel) (by decide +kernel), xG_mem 303 (by decide +kernel) (by decide +kernel), xG_mem 59 (by decide +kernel) (by decide +kernel), xG_mem 304 (by decide +kernel) (by decide +kernel), by decide, by decide, by decide +kernel⟩
theorem ml_Rp_49 : Cond.methodLink R_Rp 49 y_Reg_begin ∈ xG := xG_mem 301 (by decide +kernel) (by decide +kernel)
def p_Rp_open (σ : xS) (Q : Int32 → xS → Prop) : Prop :=
  p_Reg_begin σ (fun r2 σ1 => Q r2 σ1)
abbrev rm_Rp_open : Room := { frames := 2, cells := 0, slots := 0, locals := 42 }
theorem d_Rp_open_0 : decode cd_Rp_open 0 = .ok (.aload_n 0, 1) := by decide +kernel
theorem d_Rp_open_1 : decode cd_Rp_open 1 = .ok (.getfield 12, 3) := by decide +kernel
theorem d_Rp_open_4 : decode cd_Rp_open 4 = .ok (.getfield 45, 3) := by decide +kernel
theorem d_Rp_open_7 : decode cd_Rp_open 7 = .ok (.invokevirtual 49, 3) := by decide +kernel
theorem d_Rp_open_10 : decode cd_Rp_open 10 = .ok (.ireturn, 1) := by decide +kernel
set_option maxRecDepth 100000 in
set_option maxHeartbeats 4000000 in
theorem c_Rp_open {l : Launch} {V : xV} {σ : xS} {Q : Int32 → xS → Prop} (h : p_Rp_open σ Q) : xMi l y_Rp_open (.code y_Rp_open cd_Rp_open 1 (some .int) :: xG) rm_Rp_open V [.ref (V.2.2 0)] σ Q := by
  refine x_begini (by decide) (Nat.le_of_ble_eq_true rfl) (fun p e s m below meth c ls C hlocks hr hI hl => ?_)
  have C : xC p s m _ c cd_Rp_open 1 R_Rp V := C
  have hx := C.1
  have hb := C.2.1
  have hl : lv_has ls 1 [(0, .ref (V.2.2 0))] := hl
  unfold p_Rp_open at h
  refine lv_aload_n hx hb d_Rp_open_0 rfl (lv_at hl 0 rfl) ?_
  refine x_get C hI (d := 0) (by decide) (xE0 V _) fd_Rp_12 rfl d_Rp_open_1 ?_
  refine x_get C hI (d := 1) (by decide) (xE1 V _) fd_Rp_45 rfl d_Rp_open_4 ?_
  refine x_calli C hI hl.1 (d := 7) (As := []) (rest := []) (by decide) (c_Reg_begin h) (xE7 V _) rfl yw_Reg_begin ml_Rp_49 rfl rfl ⟨Nat.le_of_ble_eq_true rfl, Nat.le_of_ble_eq_true rfl⟩ rfl rfl (Nat.le_of_ble_eq_true rfl) d_Rp_open_7 ⟨Nat.zero_le _, Nat.zero_le _⟩ (fun r2 σ1 H locs h hI => ?_)
  exact x_iret C hlocks hr hI h d_Rp_open_10
def y_Rp_close : MethodName := ⟨"RegionPool", "close", "()I"⟩
abbrev cd_Rp_close : ByteArray := prog_1_method_3_code
theorem ml_Rp_55 : Cond.methodLink R_Rp 55 y_Reg_amount ∈ xG := xG_mem 313 (by decide +kernel) (by decide +kernel)
theorem yw_Mem_forgetRegion : xY y_Mem_forgetRegion cd_Mem_forgetRegion 3 none 1 := ⟨xG_mem 318 (by decide +kernel) (by decide +kernel), xG_mem 319 (by decide +kernel) (by decide +kernel), xG_mem 55 (by decide +kernel) (by decide +kernel), xG_mem 320 (by decide +kernel) (by decide +kernel), by decide, by decide, by decide +kernel⟩
theorem ml_Rp_58 : Cond.methodLink R_Rp 58 y_Mem_forgetRegion ∈ xG := xG_mem 317 (by decide +kernel) (by decide +kernel)
theorem yw_Reg_endNewest : xY y_Reg_endNewest cd_Reg_endNewest 2 (some .int) 0 := ⟨xG_mem 372 (by decide +kernel) (by decide +kernel), xG_mem 373 (by decide +kernel) (by decide +kernel), xG_mem 59 (by decide +kernel) (by decide +kernel), xG_mem 374 (by decide +kernel) (by decide +kernel), by decide, by decide, by decide +kernel⟩
theorem ml_Rp_62 : Cond.methodLink R_Rp 62 y_Reg_endNewest ∈ xG := xG_mem 371 (by decide +kernel) (by decide +kernel)
def p_Rp_close (σ : xS) (Q : Int32 → xS → Prop) : Prop :=
  p_Reg_amount σ (fun r2 σ1 => (∀ z3 : Int32, z3 = (r2 - 1) → ((0 ≤ z3 → p_Mem_forgetRegion z3 σ1 (fun σ5 => p_Reg_endNewest σ5 (fun r7 σ6 => Q r7 σ6))) ∧ (¬ 0 ≤ z3 → Q (-1) σ1))))
abbrev rm_Rp_close : Room := { frames := 4, cells := 0, slots := 0, locals := 87 }
theorem d_Rp_close_0 : decode cd_Rp_close 0 = .ok (.aload_n 0, 1) := by decide +kernel
theorem d_Rp_close_1 : decode cd_Rp_close 1 = .ok (.getfield 12, 3) := by decide +kernel
theorem d_Rp_close_4 : decode cd_Rp_close 4 = .ok (.getfield 45, 3) := by decide +kernel
theorem d_Rp_close_7 : decode cd_Rp_close 7 = .ok (.invokevirtual 55, 3) := by decide +kernel
theorem d_Rp_close_10 : decode cd_Rp_close 10 = .ok (.iconst 1, 1) := by decide +kernel
theorem d_Rp_close_11 : decode cd_Rp_close 11 = .ok (.isub, 1) := by decide +kernel
theorem d_Rp_close_12 : decode cd_Rp_close 12 = .ok (.istore_n 1, 1) := by decide +kernel
theorem d_Rp_close_13 : decode cd_Rp_close 13 = .ok (.iload_n 1, 1) := by decide +kernel
theorem d_Rp_close_14 : decode cd_Rp_close 14 = .ok (.ifCond .ge 5, 3) := by decide +kernel
theorem d_Rp_close_17 : decode cd_Rp_close 17 = .ok (.iconst (-1), 1) := by decide +kernel
theorem d_Rp_close_18 : decode cd_Rp_close 18 = .ok (.ireturn, 1) := by decide +kernel
theorem d_Rp_close_19 : decode cd_Rp_close 19 = .ok (.aload_n 0, 1) := by decide +kernel
theorem d_Rp_close_20 : decode cd_Rp_close 20 = .ok (.getfield 12, 3) := by decide +kernel
theorem d_Rp_close_23 : decode cd_Rp_close 23 = .ok (.iload_n 1, 1) := by decide +kernel
theorem d_Rp_close_24 : decode cd_Rp_close 24 = .ok (.invokevirtual 58, 3) := by decide +kernel
theorem d_Rp_close_27 : decode cd_Rp_close 27 = .ok (.aload_n 0, 1) := by decide +kernel
theorem d_Rp_close_28 : decode cd_Rp_close 28 = .ok (.getfield 12, 3) := by decide +kernel
theorem d_Rp_close_31 : decode cd_Rp_close 31 = .ok (.getfield 45, 3) := by decide +kernel
theorem d_Rp_close_34 : decode cd_Rp_close 34 = .ok (.invokevirtual 62, 3) := by decide +kernel
theorem d_Rp_close_37 : decode cd_Rp_close 37 = .ok (.ireturn, 1) := by decide +kernel
set_option maxRecDepth 100000 in
set_option maxHeartbeats 4000000 in
theorem c_Rp_close {l : Launch} {V : xV} {σ : xS} {Q : Int32 → xS → Prop} (h : p_Rp_close σ Q) : xMi l y_Rp_close (.code y_Rp_close cd_Rp_close 2 (some .int) :: xG) rm_Rp_close V [.ref (V.2.2 0)] σ Q := by
  refine x_begini (by decide) (Nat.le_of_ble_eq_true rfl) (fun p e s m below meth c ls C hlocks hr hI hl => ?_)
  have C : xC p s m _ c cd_Rp_close 2 R_Rp V := C
  have hx := C.1
  have hb := C.2.1
  have hl : lv_has ls 2 [(0, .ref (V.2.2 0))] := hl
  unfold p_Rp_close at h
  refine lv_aload_n hx hb d_Rp_close_0 rfl (lv_at hl 0 rfl) ?_
  refine x_get C hI (d := 0) (by decide) (xE0 V _) fd_Rp_12 rfl d_Rp_close_1 ?_
  refine x_get C hI (d := 1) (by decide) (xE1 V _) fd_Rp_45 rfl d_Rp_close_4 ?_
  refine x_calli C hI hl.1 (d := 7) (As := []) (rest := []) (by decide) (c_Reg_amount h) (xE7 V _) rfl yw_Reg_amount ml_Rp_55 rfl rfl ⟨Nat.le_of_ble_eq_true rfl, Nat.le_of_ble_eq_true rfl⟩ rfl rfl (Nat.le_of_ble_eq_true rfl) d_Rp_close_7 ⟨Nat.zero_le _, Nat.zero_le _⟩ (fun r2 σ1 H locs h hI => ?_)
  refine lv_iconst (v := 1) hx hb d_Rp_close_10 (by decide) ?_
  refine lv_isub hx hb d_Rp_close_11 ?_
  refine lv_topi (fun z3 ez3 => ?_)
  have h := h z3 ez3
  refine lv_istore_n (lv' := [(1, .int z3), (0, .ref (V.2.2 0))]) hx hb d_Rp_close_12 rfl hl (by decide) rfl (fun ls hl => ?_)
  refine lv_iload_n hx hb d_Rp_close_13 rfl (lv_at hl 0 rfl) ?_
  refine lv_if_ge (tgt := 19) hx hb d_Rp_close_14 (by decide) (fun c4 => ?_) (fun c4 => ?_)
  · have h := h.1 c4
    refine lv_aload_n hx hb d_Rp_close_19 rfl (lv_at hl 1 rfl) ?_
    refine x_get C hI (d := 0) (by decide) (xE0 V _) fd_Rp_12 rfl d_Rp_close_20 ?_
    refine lv_iload_n hx hb d_Rp_close_23 rfl (lv_at hl 0 rfl) ?_
    refine x_callv C hI hl.1 (d := 1) (As := [.int z3]) (rest := []) (by decide) (c_Mem_forgetRegion h) (xE1 V _) rfl yw_Mem_forgetRegion ml_Rp_58 rfl rfl ⟨Nat.le_of_ble_eq_true rfl, Nat.le_of_ble_eq_true rfl⟩ rfl rfl (Nat.le_of_ble_eq_true rfl) d_Rp_close_24 ⟨Nat.zero_le _, Nat.zero_le _⟩ (fun σ5 H locs h hI => ?_)
    refine lv_aload_n hx hb d_Rp_close_27 rfl (lv_at hl 1 rfl) ?_
    refine x_get C hI (d := 0) (by decide) (xE0 V _) fd_Rp_12 rfl d_Rp_close_28 ?_
    refine x_get C hI (d := 1) (by decide) (xE1 V _) fd_Rp_45 rfl d_Rp_close_31 ?_
    refine x_calli C hI hl.1 (d := 7) (As := []) (rest := []) (by decide) (c_Reg_endNewest h) (xE7 V _) rfl yw_Reg_endNewest ml_Rp_62 rfl rfl ⟨Nat.le_of_ble_eq_true rfl, Nat.le_of_ble_eq_true rfl⟩ rfl rfl (Nat.le_of_ble_eq_true rfl) d_Rp_close_34 ⟨Nat.zero_le _, Nat.zero_le _⟩ (fun r7 σ6 H locs h hI => ?_)
    exact x_iret C hlocks hr hI h d_Rp_close_37
  · have h := h.2 c4
    refine lv_iconst (v := (-1)) hx hb d_Rp_close_17 (by decide) ?_
    exact x_iret C hlocks hr hI h d_Rp_close_18
def y_Rp_region : MethodName := ⟨"RegionPool", "region", "(II)I"⟩
abbrev cd_Rp_region : ByteArray := prog_1_method_18_code
theorem yw_Reg_has : xY y_Reg_has cd_Reg_has 2 (some .boolean) 1 := ⟨xG_mem 384 (by decide +kernel) (by decide +kernel), xG_mem 385 (by decide +kernel) (by decide +kernel), xG_mem 59 (by decide +kernel) (by decide +kernel), xG_mem 386 (by decide +kernel) (by decide +kernel), by decide, by decide, by decide +kernel⟩
theorem ml_Rp_193 : Cond.methodLink R_Rp 193 y_Reg_has ∈ xG := xG_mem 383 (by decide +kernel) (by decide +kernel)
theorem ml_Rp_194 : Cond.methodLink R_Rp 194 y_Reg_rowLength ∈ xG := xG_mem 387 (by decide +kernel) (by decide +kernel)
theorem yw_Mem_objectsIn : xY y_Mem_objectsIn cd_Mem_objectsIn 4 (some .int) 1 := ⟨xG_mem 392 (by decide +kernel) (by decide +kernel), xG_mem 393 (by decide +kernel) (by decide +kernel), xG_mem 55 (by decide +kernel) (by decide +kernel), xG_mem 394 (by decide +kernel) (by decide +kernel), by decide, by decide, by decide +kernel⟩
theorem ml_Rp_197 : Cond.methodLink R_Rp 197 y_Mem_objectsIn ∈ xG := xG_mem 391 (by decide +kernel) (by decide +kernel)
theorem yw_Mem_placesTakenIn : xY y_Mem_placesTakenIn cd_Mem_placesTakenIn 4 (some .int) 1 := ⟨xG_mem 406 (by decide +kernel) (by decide +kernel), xG_mem 407 (by decide +kernel) (by decide +kernel), xG_mem 55 (by decide +kernel) (by decide +kernel), xG_mem 408 (by decide +kernel) (by decide +kernel), by decide, by decide, by decide +kernel⟩
theorem ml_Rp_200 : Cond.methodLink R_Rp 200 y_Mem_placesTakenIn ∈ xG := xG_mem 405 (by decide +kernel) (by decide +kernel)
def p_Rp_region (x1 x2 : Int32) (σ : xS) (Q : Int32 → xS → Prop) : Prop :=
  p_Reg_has x1 σ (fun r2 σ1 => ((¬ r2 = 0 → p_Reg_rowLength x1 σ1 (fun r5 σ4 => ((x2 = 0 → Q r5 σ4) ∧ (x2 = 1 → p_Mem_objectsIn x1 σ4 (fun r7 σ6 => Q r7 σ6)) ∧ (x2 = 2 → p_Mem_placesTakenIn x1 σ4 (fun r9 σ8 => Q r9 σ8)) ∧ (x2 = 3 → p_Mem_placesTakenIn x1 σ4 (fun r11 σ10 => Q ((r5 * 16) - r11) σ10)) ∧ (¬ x2 = 0 → ¬ x2 = 1 → ¬ x2 = 2 → ¬ x2 = 3 → Q (-1) σ4)))) ∧ (r2 = 0 → Q (-1) σ1)))
abbrev rm_Rp_region : Room := { frames := 4, cells := 0, slots := 0, locals := 89 }
theorem d_Rp_region_0 : decode cd_Rp_region 0 = .ok (.aload_n 0, 1) := by decide +kernel
theorem d_Rp_region_1 : decode cd_Rp_region 1 = .ok (.getfield 12, 3) := by decide +kernel
theorem d_Rp_region_4 : decode cd_Rp_region 4 = .ok (.getfield 45, 3) := by decide +kernel
theorem d_Rp_region_7 : decode cd_Rp_region 7 = .ok (.iload_n 1, 1) := by decide +kernel
theorem d_Rp_region_8 : decode cd_Rp_region 8 = .ok (.invokevirtual 193, 3) := by decide +kernel
theorem d_Rp_region_11 : decode cd_Rp_region 11 = .ok (.ifCond .ne 5, 3) := by decide +kernel
theorem d_Rp_region_14 : decode cd_Rp_region 14 = .ok (.iconst (-1), 1) := by decide +kernel
theorem d_Rp_region_15 : decode cd_Rp_region 15 = .ok (.ireturn, 1) := by decide +kernel
theorem d_Rp_region_16 : decode cd_Rp_region 16 = .ok (.aload_n 0, 1) := by decide +kernel
theorem d_Rp_region_17 : decode cd_Rp_region 17 = .ok (.getfield 12, 3) := by decide +kernel
theorem d_Rp_region_20 : decode cd_Rp_region 20 = .ok (.getfield 45, 3) := by decide +kernel
theorem d_Rp_region_23 : decode cd_Rp_region 23 = .ok (.iload_n 1, 1) := by decide +kernel
theorem d_Rp_region_24 : decode cd_Rp_region 24 = .ok (.invokevirtual 194, 3) := by decide +kernel
theorem d_Rp_region_27 : decode cd_Rp_region 27 = .ok (.istore_n 3, 1) := by decide +kernel
theorem d_Rp_region_28 : decode cd_Rp_region 28 = .ok (.iload_n 2, 1) := by decide +kernel
theorem d_Rp_region_29 : decode cd_Rp_region 29 = .ok (.tableswitch 65 0 3 #[31, 33, 42, 51], 31) := by decide +kernel
theorem d_Rp_region_60 : decode cd_Rp_region 60 = .ok (.iload_n 3, 1) := by decide +kernel
theorem d_Rp_region_61 : decode cd_Rp_region 61 = .ok (.ireturn, 1) := by decide +kernel
theorem d_Rp_region_62 : decode cd_Rp_region 62 = .ok (.aload_n 0, 1) := by decide +kernel
theorem d_Rp_region_63 : decode cd_Rp_region 63 = .ok (.getfield 12, 3) := by decide +kernel
theorem d_Rp_region_66 : decode cd_Rp_region 66 = .ok (.iload_n 1, 1) := by decide +kernel
theorem d_Rp_region_67 : decode cd_Rp_region 67 = .ok (.invokevirtual 197, 3) := by decide +kernel
theorem d_Rp_region_70 : decode cd_Rp_region 70 = .ok (.ireturn, 1) := by decide +kernel
theorem d_Rp_region_71 : decode cd_Rp_region 71 = .ok (.aload_n 0, 1) := by decide +kernel
theorem d_Rp_region_72 : decode cd_Rp_region 72 = .ok (.getfield 12, 3) := by decide +kernel
theorem d_Rp_region_75 : decode cd_Rp_region 75 = .ok (.iload_n 1, 1) := by decide +kernel
theorem d_Rp_region_76 : decode cd_Rp_region 76 = .ok (.invokevirtual 200, 3) := by decide +kernel
theorem d_Rp_region_79 : decode cd_Rp_region 79 = .ok (.ireturn, 1) := by decide +kernel
theorem d_Rp_region_80 : decode cd_Rp_region 80 = .ok (.iload_n 3, 1) := by decide +kernel
theorem d_Rp_region_81 : decode cd_Rp_region 81 = .ok (.bipush 16, 2) := by decide +kernel
theorem d_Rp_region_83 : decode cd_Rp_region 83 = .ok (.imul, 1) := by decide +kernel
theorem d_Rp_region_84 : decode cd_Rp_region 84 = .ok (.aload_n 0, 1) := by decide +kernel
theorem d_Rp_region_85 : decode cd_Rp_region 85 = .ok (.getfield 12, 3) := by decide +kernel
theorem d_Rp_region_88 : decode cd_Rp_region 88 = .ok (.iload_n 1, 1) := by decide +kernel
theorem d_Rp_region_89 : decode cd_Rp_region 89 = .ok (.invokevirtual 200, 3) := by decide +kernel
theorem d_Rp_region_92 : decode cd_Rp_region 92 = .ok (.isub, 1) := by decide +kernel
theorem d_Rp_region_93 : decode cd_Rp_region 93 = .ok (.ireturn, 1) := by decide +kernel
theorem d_Rp_region_94 : decode cd_Rp_region 94 = .ok (.iconst (-1), 1) := by decide +kernel
theorem d_Rp_region_95 : decode cd_Rp_region 95 = .ok (.ireturn, 1) := by decide +kernel
set_option maxRecDepth 100000 in
set_option maxHeartbeats 4000000 in
theorem c_Rp_region {l : Launch} {V : xV} {σ : xS} {x1 x2 : Int32} {Q : Int32 → xS → Prop} (h : p_Rp_region x1 x2 σ Q) : xMi l y_Rp_region (.code y_Rp_region cd_Rp_region 4 (some .int) :: xG) rm_Rp_region V [.ref (V.2.2 0), .int x1, .int x2] σ Q := by
  refine x_begini (by decide) (Nat.le_of_ble_eq_true rfl) (fun p e s m below meth c ls C hlocks hr hI hl => ?_)
  have C : xC p s m _ c cd_Rp_region 4 R_Rp V := C
  have hx := C.1
  have hb := C.2.1
  have hl : lv_has ls 4 [(0, .ref (V.2.2 0)), (1, .int x1), (2, .int x2)] := hl
  unfold p_Rp_region at h
  refine lv_aload_n hx hb d_Rp_region_0 rfl (lv_at hl 0 rfl) ?_
  refine x_get C hI (d := 0) (by decide) (xE0 V _) fd_Rp_12 rfl d_Rp_region_1 ?_
  refine x_get C hI (d := 1) (by decide) (xE1 V _) fd_Rp_45 rfl d_Rp_region_4 ?_
  refine lv_iload_n hx hb d_Rp_region_7 rfl (lv_at hl 1 rfl) ?_
  refine x_calli C hI hl.1 (d := 7) (As := [.int x1]) (rest := []) (by decide) (c_Reg_has h) (xE7 V _) rfl yw_Reg_has ml_Rp_193 rfl rfl ⟨Nat.le_of_ble_eq_true rfl, Nat.le_of_ble_eq_true rfl⟩ rfl rfl (Nat.le_of_ble_eq_true rfl) d_Rp_region_8 ⟨Nat.zero_le _, Nat.zero_le _⟩ (fun r2 σ1 H locs h hI => ?_)
  refine lv_if_ne (tgt := 16) hx hb d_Rp_region_11 (by decide) (fun c3 => ?_) (fun c3 => ?_)
  · have h := h.1 c3
    refine lv_aload_n hx hb d_Rp_region_16 rfl (lv_at hl 0 rfl) ?_
    refine x_get C hI (d := 0) (by decide) (xE0 V _) fd_Rp_12 rfl d_Rp_region_17 ?_
    refine x_get C hI (d := 1) (by decide) (xE1 V _) fd_Rp_45 rfl d_Rp_region_20 ?_
    refine lv_iload_n hx hb d_Rp_region_23 rfl (lv_at hl 1 rfl) ?_
    refine x_calli C hI hl.1 (d := 7) (As := [.int x1]) (rest := []) (by decide) (c_Reg_rowLength h) (xE7 V _) rfl yw_Reg_rowLength ml_Rp_194 rfl rfl ⟨Nat.le_of_ble_eq_true rfl, Nat.le_of_ble_eq_true rfl⟩ rfl rfl (Nat.le_of_ble_eq_true rfl) d_Rp_region_24 ⟨Nat.zero_le _, Nat.zero_le _⟩ (fun r5 σ4 H locs h hI => ?_)
    refine lv_istore_n (lv' := [(3, .int r5), (0, .ref (V.2.2 0)), (1, .int x1), (2, .int x2)]) hx hb d_Rp_region_27 rfl hl (by decide) rfl (fun ls hl => ?_)
    refine lv_iload_n hx hb d_Rp_region_28 rfl (lv_at hl 3 rfl) ?_
    by_cases c12 : x2 = 0
    · have h := h.1 c12
      refine lv_tableIn (tgt := 60) hx hb d_Rp_region_29 (by rw [c12]; decide) (by rw [c12]; decide) (by rw [c12]; rfl) (by decide) ?_
      refine lv_iload_n hx hb d_Rp_region_60 rfl (lv_at hl 0 rfl) ?_
      exact x_iret C hlocks hr hI h d_Rp_region_61
    by_cases c13 : x2 = 1
    · have h := h.2.1 c13
      refine lv_tableIn (tgt := 62) hx hb d_Rp_region_29 (by rw [c13]; decide) (by rw [c13]; decide) (by rw [c13]; rfl) (by decide) ?_
      refine lv_aload_n hx hb d_Rp_region_62 rfl (lv_at hl 1 rfl) ?_
      refine x_get C hI (d := 0) (by decide) (xE0 V _) fd_Rp_12 rfl d_Rp_region_63 ?_
      refine lv_iload_n hx hb d_Rp_region_66 rfl (lv_at hl 2 rfl) ?_
      refine x_calli C hI hl.1 (d := 1) (As := [.int x1]) (rest := []) (by decide) (c_Mem_objectsIn h) (xE1 V _) rfl yw_Mem_objectsIn ml_Rp_197 rfl rfl ⟨Nat.le_of_ble_eq_true rfl, Nat.le_of_ble_eq_true rfl⟩ rfl rfl (Nat.le_of_ble_eq_true rfl) d_Rp_region_67 ⟨Nat.zero_le _, Nat.zero_le _⟩ (fun r7 σ6 H locs h hI => ?_)
      exact x_iret C hlocks hr hI h d_Rp_region_70
    by_cases c14 : x2 = 2
    · have h := h.2.2.1 c14
      refine lv_tableIn (tgt := 71) hx hb d_Rp_region_29 (by rw [c14]; decide) (by rw [c14]; decide) (by rw [c14]; rfl) (by decide) ?_
      refine lv_aload_n hx hb d_Rp_region_71 rfl (lv_at hl 1 rfl) ?_
      refine x_get C hI (d := 0) (by decide) (xE0 V _) fd_Rp_12 rfl d_Rp_region_72 ?_
      refine lv_iload_n hx hb d_Rp_region_75 rfl (lv_at hl 2 rfl) ?_
      refine x_calli C hI hl.1 (d := 1) (As := [.int x1]) (rest := []) (by decide) (c_Mem_placesTakenIn h) (xE1 V _) rfl yw_Mem_placesTakenIn ml_Rp_200 rfl rfl ⟨Nat.le_of_ble_eq_true rfl, Nat.le_of_ble_eq_true rfl⟩ rfl rfl (Nat.le_of_ble_eq_true rfl) d_Rp_region_76 ⟨Nat.zero_le _, Nat.zero_le _⟩ (fun r9 σ8 H locs h hI => ?_)
      exact x_iret C hlocks hr hI h d_Rp_region_79
    by_cases c15 : x2 = 3
    · have h := h.2.2.2.1 c15
      refine lv_tableIn (tgt := 80) hx hb d_Rp_region_29 (by rw [c15]; decide) (by rw [c15]; decide) (by rw [c15]; rfl) (by decide) ?_
      refine lv_iload_n hx hb d_Rp_region_80 rfl (lv_at hl 0 rfl) ?_
      refine lv_bipush (v := 16) hx hb d_Rp_region_81 (by decide) ?_
      refine lv_imul hx hb d_Rp_region_83 ?_
      refine lv_aload_n hx hb d_Rp_region_84 rfl (lv_at hl 1 rfl) ?_
      refine x_get C hI (d := 0) (by decide) (xE0 V _) fd_Rp_12 rfl d_Rp_region_85 ?_
      refine lv_iload_n hx hb d_Rp_region_88 rfl (lv_at hl 2 rfl) ?_
      refine x_calli C hI hl.1 (d := 1) (As := [.int x1]) (rest := [.int (r5 * 16)]) (by decide) (c_Mem_placesTakenIn h) (xE1 V _) rfl yw_Mem_placesTakenIn ml_Rp_200 rfl rfl ⟨Nat.le_of_ble_eq_true rfl, Nat.le_of_ble_eq_true rfl⟩ rfl rfl (Nat.le_of_ble_eq_true rfl) d_Rp_region_89 ⟨Nat.zero_le _, Nat.zero_le _⟩ (fun r11 σ10 H locs h hI => ?_)
      refine lv_isub hx hb d_Rp_region_92 ?_
      exact x_iret C hlocks hr hI h d_Rp_region_93
    have h := h.2.2.2.2 c12 c13 c14 c15
    refine lv_tableOut (tgt := 94) hx hb d_Rp_region_29 (by have := x_ne c12 (n := 0) (by decide); have := x_ne c13 (n := 1) (by decide); have := x_ne c14 (n := 2) (by decide); have := x_ne c15 (n := 3) (by decide); omega) (by decide) ?_
    refine lv_iconst (v := (-1)) hx hb d_Rp_region_94 (by decide) ?_
    exact x_iret C hlocks hr hI h d_Rp_region_95
  · have h := h.2 c3
    refine lv_iconst (v := (-1)) hx hb d_Rp_region_14 (by decide) ?_
    exact x_iret C hlocks hr hI h d_Rp_region_15
def y_Rp_page : MethodName := ⟨"RegionPool", "page", "(II)I"⟩
abbrev cd_Rp_page : ByteArray := prog_1_method_19_code
theorem ml_Rp_203 : Cond.methodLink R_Rp 203 y_Reg_pageInRow ∈ xG := xG_mem 417 (by decide +kernel) (by decide +kernel)
def p_Rp_page (x1 x2 : Int32) (σ : xS) (Q : Int32 → xS → Prop) : Prop :=
  p_Reg_has x1 σ (fun r2 σ1 => ((r2 = 0 → Q (-1) σ1) ∧ (¬ r2 = 0 → ((x2 < 0 → Q (-1) σ1) ∧ (¬ x2 < 0 → p_Reg_rowLength x1 σ1 (fun r6 σ5 => ((x2 < r6 → p_Reg_pageInRow x1 x2 σ5 (fun r9 σ8 => Q r9 σ8)) ∧ (¬ x2 < r6 → Q (-1) σ5))))))))
abbrev rm_Rp_page : Room := { frames := 1, cells := 0, slots := 0, locals := 22 }
theorem d_Rp_page_0 : decode cd_Rp_page 0 = .ok (.aload_n 0, 1) := by decide +kernel
theorem d_Rp_page_1 : decode cd_Rp_page 1 = .ok (.getfield 12, 3) := by decide +kernel
theorem d_Rp_page_4 : decode cd_Rp_page 4 = .ok (.getfield 45, 3) := by decide +kernel
theorem d_Rp_page_7 : decode cd_Rp_page 7 = .ok (.iload_n 1, 1) := by decide +kernel
theorem d_Rp_page_8 : decode cd_Rp_page 8 = .ok (.invokevirtual 193, 3) := by decide +kernel
theorem d_Rp_page_11 : decode cd_Rp_page 11 = .ok (.ifCond .eq 22, 3) := by decide +kernel
theorem d_Rp_page_14 : decode cd_Rp_page 14 = .ok (.iload_n 2, 1) := by decide +kernel
theorem d_Rp_page_15 : decode cd_Rp_page 15 = .ok (.ifCond .lt 18, 3) := by decide +kernel
theorem d_Rp_page_18 : decode cd_Rp_page 18 = .ok (.iload_n 2, 1) := by decide +kernel
theorem d_Rp_page_19 : decode cd_Rp_page 19 = .ok (.aload_n 0, 1) := by decide +kernel
theorem d_Rp_page_20 : decode cd_Rp_page 20 = .ok (.getfield 12, 3) := by decide +kernel
theorem d_Rp_page_23 : decode cd_Rp_page 23 = .ok (.getfield 45, 3) := by decide +kernel
theorem d_Rp_page_26 : decode cd_Rp_page 26 = .ok (.iload_n 1, 1) := by decide +kernel
theorem d_Rp_page_27 : decode cd_Rp_page 27 = .ok (.invokevirtual 194, 3) := by decide +kernel
theorem d_Rp_page_30 : decode cd_Rp_page 30 = .ok (.if_icmp .lt 5, 3) := by decide +kernel
theorem d_Rp_page_33 : decode cd_Rp_page 33 = .ok (.iconst (-1), 1) := by decide +kernel
theorem d_Rp_page_34 : decode cd_Rp_page 34 = .ok (.ireturn, 1) := by decide +kernel
theorem d_Rp_page_35 : decode cd_Rp_page 35 = .ok (.aload_n 0, 1) := by decide +kernel
theorem d_Rp_page_36 : decode cd_Rp_page 36 = .ok (.getfield 12, 3) := by decide +kernel
theorem d_Rp_page_39 : decode cd_Rp_page 39 = .ok (.getfield 45, 3) := by decide +kernel
theorem d_Rp_page_42 : decode cd_Rp_page 42 = .ok (.iload_n 1, 1) := by decide +kernel
theorem d_Rp_page_43 : decode cd_Rp_page 43 = .ok (.iload_n 2, 1) := by decide +kernel
theorem d_Rp_page_44 : decode cd_Rp_page 44 = .ok (.invokevirtual 203, 3) := by decide +kernel
theorem d_Rp_page_47 : decode cd_Rp_page 47 = .ok (.ireturn, 1) := by decide +kernel
set_option maxRecDepth 100000 in
set_option maxHeartbeats 4000000 in
theorem c_Rp_page {l : Launch} {V : xV} {σ : xS} {x1 x2 : Int32} {Q : Int32 → xS → Prop} (h : p_Rp_page x1 x2 σ Q) : xMi l y_Rp_page (.code y_Rp_page cd_Rp_page 3 (some .int) :: xG) rm_Rp_page V [.ref (V.2.2 0), .int x1, .int x2] σ Q := by
  refine x_begini (by decide) (Nat.le_of_ble_eq_true rfl) (fun p e s m below meth c ls C hlocks hr hI hl => ?_)
  have C : xC p s m _ c cd_Rp_page 3 R_Rp V := C
  have hx := C.1
  have hb := C.2.1
  have hl : lv_has ls 3 [(0, .ref (V.2.2 0)), (1, .int x1), (2, .int x2)] := hl
  unfold p_Rp_page at h
  refine lv_aload_n hx hb d_Rp_page_0 rfl (lv_at hl 0 rfl) ?_
  refine x_get C hI (d := 0) (by decide) (xE0 V _) fd_Rp_12 rfl d_Rp_page_1 ?_
  refine x_get C hI (d := 1) (by decide) (xE1 V _) fd_Rp_45 rfl d_Rp_page_4 ?_
  refine lv_iload_n hx hb d_Rp_page_7 rfl (lv_at hl 1 rfl) ?_
  refine x_calli C hI hl.1 (d := 7) (As := [.int x1]) (rest := []) (by decide) (c_Reg_has h) (xE7 V _) rfl yw_Reg_has ml_Rp_193 rfl rfl ⟨Nat.le_of_ble_eq_true rfl, Nat.le_of_ble_eq_true rfl⟩ rfl rfl (Nat.le_of_ble_eq_true rfl) d_Rp_page_8 ⟨Nat.zero_le _, Nat.zero_le _⟩ (fun r2 σ1 H locs h hI => ?_)
  refine lv_if_eq (tgt := 33) hx hb d_Rp_page_11 (by decide) (fun c3 => ?_) (fun c3 => ?_)
  · have h := h.1 c3
    refine lv_iconst (v := (-1)) hx hb d_Rp_page_33 (by decide) ?_
    exact x_iret C hlocks hr hI h d_Rp_page_34
  · have h := h.2 c3
    refine lv_iload_n hx hb d_Rp_page_14 rfl (lv_at hl 2 rfl) ?_
    refine lv_if_lt (tgt := 33) hx hb d_Rp_page_15 (by decide) (fun c4 => ?_) (fun c4 => ?_)
    · have h := h.1 c4
      refine lv_iconst (v := (-1)) hx hb d_Rp_page_33 (by decide) ?_
      exact x_iret C hlocks hr hI h d_Rp_page_34
    · have h := h.2 c4
      refine lv_iload_n hx hb d_Rp_page_18 rfl (lv_at hl 2 rfl) ?_
      refine lv_aload_n hx hb d_Rp_page_19 rfl (lv_at hl 0 rfl) ?_
      refine x_get C hI (d := 0) (by decide) (xE0 V _) fd_Rp_12 rfl d_Rp_page_20 ?_
      refine x_get C hI (d := 1) (by decide) (xE1 V _) fd_Rp_45 rfl d_Rp_page_23 ?_
      refine lv_iload_n hx hb d_Rp_page_26 rfl (lv_at hl 1 rfl) ?_
      refine x_calli C hI hl.1 (d := 7) (As := [.int x1]) (rest := [.int x2]) (by decide) (c_Reg_rowLength h) (xE7 V _) rfl yw_Reg_rowLength ml_Rp_194 rfl rfl ⟨Nat.le_of_ble_eq_true rfl, Nat.le_of_ble_eq_true rfl⟩ rfl rfl (Nat.le_of_ble_eq_true rfl) d_Rp_page_27 ⟨Nat.zero_le _, Nat.zero_le _⟩ (fun r6 σ5 H locs h hI => ?_)
      refine lv_icmp_lt (tgt := 35) hx hb d_Rp_page_30 (by decide) (fun c7 => ?_) (fun c7 => ?_)
      · have h := h.1 c7
        refine lv_aload_n hx hb d_Rp_page_35 rfl (lv_at hl 0 rfl) ?_
        refine x_get C hI (d := 0) (by decide) (xE0 V _) fd_Rp_12 rfl d_Rp_page_36 ?_
        refine x_get C hI (d := 1) (by decide) (xE1 V _) fd_Rp_45 rfl d_Rp_page_39 ?_
        refine lv_iload_n hx hb d_Rp_page_42 rfl (lv_at hl 1 rfl) ?_
        refine lv_iload_n hx hb d_Rp_page_43 rfl (lv_at hl 2 rfl) ?_
        refine x_calli C hI hl.1 (d := 7) (As := [.int x1, .int x2]) (rest := []) (by decide) (c_Reg_pageInRow h) (xE7 V _) rfl yw_Reg_pageInRow ml_Rp_203 rfl rfl ⟨Nat.le_of_ble_eq_true rfl, Nat.le_of_ble_eq_true rfl⟩ rfl rfl (Nat.le_of_ble_eq_true rfl) d_Rp_page_44 ⟨Nat.zero_le _, Nat.zero_le _⟩ (fun r9 σ8 H locs h hI => ?_)
        exact x_iret C hlocks hr hI h d_Rp_page_47
      · have h := h.2 c7
        refine lv_iconst (v := (-1)) hx hb d_Rp_page_33 (by decide) ?_
        exact x_iret C hlocks hr hI h d_Rp_page_34
def y_Rp_at : MethodName := ⟨"RegionPool", "at", "(I)I"⟩
abbrev cd_Rp_at : ByteArray := prog_1_method_20_code
theorem fd_Rp_34 : xFd R_Rp 34 1 1 := ⟨R_Mem, T_Mem, 6, rfl, in_Mem, by decide, xG_mem 165 (by decide +kernel) (by decide +kernel)⟩
theorem ml_Rp_206 : Cond.methodLink R_Rp 206 y_Hea_isObject ∈ xG := xG_mem 422 (by decide +kernel) (by decide +kernel)
theorem yw_Hea_tagOf : xY y_Hea_tagOf cd_Hea_tagOf 2 (some .int) 1 := ⟨xG_mem 424 (by decide +kernel) (by decide +kernel), xG_mem 425 (by decide +kernel) (by decide +kernel), xG_mem 57 (by decide +kernel) (by decide +kernel), xG_mem 426 (by decide +kernel) (by decide +kernel), by decide, by decide, by decide +kernel⟩
theorem ml_Rp_209 : Cond.methodLink R_Rp 209 y_Hea_tagOf ∈ xG := xG_mem 423 (by decide +kernel) (by decide +kernel)
def p_Rp_at (x1 : Int32) (σ : xS) (Q : Int32 → xS → Prop) : Prop :=
  ((x1 < 0 → Q (-1) σ) ∧ (¬ x1 < 0 → ((640 ≤ x1 → Q (-1) σ) ∧ (¬ 640 ≤ x1 → p_Hea_isObject x1 σ (fun r4 σ3 => ((¬ r4 = 0 → p_Hea_tagOf x1 σ3 (fun r7 σ6 => Q r7 σ6)) ∧ (r4 = 0 → Q (-1) σ3)))))))
abbrev rm_Rp_at : Room := { frames := 2, cells := 0, slots := 0, locals := 42 }
theorem d_Rp_at_0 : decode cd_Rp_at 0 = .ok (.iload_n 1, 1) := by decide +kernel
theorem d_Rp_at_1 : decode cd_Rp_at 1 = .ok (.ifCond .lt 24, 3) := by decide +kernel
theorem d_Rp_at_4 : decode cd_Rp_at 4 = .ok (.iload_n 1, 1) := by decide +kernel
theorem d_Rp_at_5 : decode cd_Rp_at 5 = .ok (.sipush 640, 3) := by decide +kernel
theorem d_Rp_at_8 : decode cd_Rp_at 8 = .ok (.if_icmp .ge 17, 3) := by decide +kernel
theorem d_Rp_at_11 : decode cd_Rp_at 11 = .ok (.aload_n 0, 1) := by decide +kernel
theorem d_Rp_at_12 : decode cd_Rp_at 12 = .ok (.getfield 12, 3) := by decide +kernel
theorem d_Rp_at_15 : decode cd_Rp_at 15 = .ok (.getfield 34, 3) := by decide +kernel
theorem d_Rp_at_18 : decode cd_Rp_at 18 = .ok (.iload_n 1, 1) := by decide +kernel
theorem d_Rp_at_19 : decode cd_Rp_at 19 = .ok (.invokevirtual 206, 3) := by decide +kernel
theorem d_Rp_at_22 : decode cd_Rp_at 22 = .ok (.ifCond .ne 5, 3) := by decide +kernel
theorem d_Rp_at_25 : decode cd_Rp_at 25 = .ok (.iconst (-1), 1) := by decide +kernel
theorem d_Rp_at_26 : decode cd_Rp_at 26 = .ok (.ireturn, 1) := by decide +kernel
theorem d_Rp_at_27 : decode cd_Rp_at 27 = .ok (.aload_n 0, 1) := by decide +kernel
theorem d_Rp_at_28 : decode cd_Rp_at 28 = .ok (.getfield 12, 3) := by decide +kernel
theorem d_Rp_at_31 : decode cd_Rp_at 31 = .ok (.getfield 34, 3) := by decide +kernel
theorem d_Rp_at_34 : decode cd_Rp_at 34 = .ok (.iload_n 1, 1) := by decide +kernel
theorem d_Rp_at_35 : decode cd_Rp_at 35 = .ok (.invokevirtual 209, 3) := by decide +kernel
theorem d_Rp_at_38 : decode cd_Rp_at 38 = .ok (.ireturn, 1) := by decide +kernel
set_option maxRecDepth 100000 in
set_option maxHeartbeats 4000000 in
theorem c_Rp_at {l : Launch} {V : xV} {σ : xS} {x1 : Int32} {Q : Int32 → xS → Prop} (h : p_Rp_at x1 σ Q) : xMi l y_Rp_at (.code y_Rp_at cd_Rp_at 2 (some .int) :: xG) rm_Rp_at V [.ref (V.2.2 0), .int x1] σ Q := by
  refine x_begini (by decide) (Nat.le_of_ble_eq_true rfl) (fun p e s m below meth c ls C hlocks hr hI hl => ?_)
  have C : xC p s m _ c cd_Rp_at 2 R_Rp V := C
  have hx := C.1
  have hb := C.2.1
  have hl : lv_has ls 2 [(0, .ref (V.2.2 0)), (1, .int x1)] := hl
  unfold p_Rp_at at h
  refine lv_iload_n hx hb d_Rp_at_0 rfl (lv_at hl 1 rfl) ?_
  refine lv_if_lt (tgt := 25) hx hb d_Rp_at_1 (by decide) (fun c1 => ?_) (fun c1 => ?_)
  · have h := h.1 c1
    refine lv_iconst (v := (-1)) hx hb d_Rp_at_25 (by decide) ?_
    exact x_iret C hlocks hr hI h d_Rp_at_26
  · have h := h.2 c1
    refine lv_iload_n hx hb d_Rp_at_4 rfl (lv_at hl 1 rfl) ?_
    refine lv_sipush (v := 640) hx hb d_Rp_at_5 (by decide) ?_
    refine lv_icmp_ge (tgt := 25) hx hb d_Rp_at_8 (by decide) (fun c2 => ?_) (fun c2 => ?_)
    · have h := h.1 c2
      refine lv_iconst (v := (-1)) hx hb d_Rp_at_25 (by decide) ?_
      exact x_iret C hlocks hr hI h d_Rp_at_26
    · have h := h.2 c2
      refine lv_aload_n hx hb d_Rp_at_11 rfl (lv_at hl 0 rfl) ?_
      refine x_get C hI (d := 0) (by decide) (xE0 V _) fd_Rp_12 rfl d_Rp_at_12 ?_
      refine x_get C hI (d := 1) (by decide) (xE1 V _) fd_Rp_34 rfl d_Rp_at_15 ?_
      refine lv_iload_n hx hb d_Rp_at_18 rfl (lv_at hl 1 rfl) ?_
      refine x_calli C hI hl.1 (d := 6) (As := [.int x1]) (rest := []) (by decide) (c_Hea_isObject h) (xE6 V _) rfl yw_Hea_isObject ml_Rp_206 rfl rfl ⟨Nat.le_of_ble_eq_true rfl, Nat.le_of_ble_eq_true rfl⟩ rfl rfl (Nat.le_of_ble_eq_true rfl) d_Rp_at_19 ⟨Nat.zero_le _, Nat.zero_le _⟩ (fun r4 σ3 H locs h hI => ?_)
      refine lv_if_ne (tgt := 27) hx hb d_Rp_at_22 (by decide) (fun c5 => ?_) (fun c5 => ?_)
      · have h := h.1 c5
        refine lv_aload_n hx hb d_Rp_at_27 rfl (lv_at hl 0 rfl) ?_
        refine x_get C hI (d := 0) (by decide) (xE0 V _) fd_Rp_12 rfl d_Rp_at_28 ?_
        refine x_get C hI (d := 1) (by decide) (xE1 V _) fd_Rp_34 rfl d_Rp_at_31 ?_
        refine lv_iload_n hx hb d_Rp_at_34 rfl (lv_at hl 1 rfl) ?_
        refine x_calli C hI hl.1 (d := 6) (As := [.int x1]) (rest := []) (by decide) (c_Hea_tagOf h) (xE6 V _) rfl yw_Hea_tagOf ml_Rp_209 rfl rfl ⟨Nat.le_of_ble_eq_true rfl, Nat.le_of_ble_eq_true rfl⟩ rfl rfl (Nat.le_of_ble_eq_true rfl) d_Rp_at_35 ⟨Nat.zero_le _, Nat.zero_le _⟩ (fun r7 σ6 H locs h hI => ?_)
        exact x_iret C hlocks hr hI h d_Rp_at_38
      · have h := h.2 c5
        refine lv_iconst (v := (-1)) hx hb d_Rp_at_25 (by decide) ?_
        exact x_iret C hlocks hr hI h d_Rp_at_26
def y_Rp_count : MethodName := ⟨"RegionPool", "count", "(I)I"⟩
abbrev cd_Rp_count : ByteArray := prog_1_method_21_code
theorem ml_Rp_212 : Cond.methodLink R_Rp 212 y_Reg_freePages ∈ xG := xG_mem 431 (by decide +kernel) (by decide +kernel)
theorem yw_Mem_objects : xY y_Mem_objects cd_Mem_objects 3 (some .int) 0 := ⟨xG_mem 436 (by decide +kernel) (by decide +kernel), xG_mem 437 (by decide +kernel) (by decide +kernel), xG_mem 55 (by decide +kernel) (by decide +kernel), xG_mem 438 (by decide +kernel) (by decide +kernel), by decide, by decide, by decide +kernel⟩
theorem ml_Rp_215 : Cond.methodLink R_Rp 215 y_Mem_objects ∈ xG := xG_mem 435 (by decide +kernel) (by decide +kernel)
theorem fd_Rp_21 : xFd R_Rp 21 0 1 := ⟨R_Rp, T_Rp, 6, rfl, in_Rp, by decide, xG_mem 279 (by decide +kernel) (by decide +kernel)⟩
theorem yw_Col_collections : xY y_Col_collections cd_Col_collections 1 (some .int) 0 := ⟨xG_mem 440 (by decide +kernel) (by decide +kernel), xG_mem 441 (by decide +kernel) (by decide +kernel), xG_mem 61 (by decide +kernel) (by decide +kernel), xG_mem 442 (by decide +kernel) (by decide +kernel), by decide, by decide, by decide +kernel⟩
theorem ml_Rp_218 : Cond.methodLink R_Rp 218 y_Col_collections ∈ xG := xG_mem 439 (by decide +kernel) (by decide +kernel)
theorem yw_Col_goneInAll : xY y_Col_goneInAll cd_Col_goneInAll 1 (some .int) 0 := ⟨xG_mem 444 (by decide +kernel) (by decide +kernel), xG_mem 445 (by decide +kernel) (by decide +kernel), xG_mem 61 (by decide +kernel) (by decide +kernel), xG_mem 446 (by decide +kernel) (by decide +kernel), by decide, by decide, by decide +kernel⟩
theorem ml_Rp_221 : Cond.methodLink R_Rp 221 y_Col_goneInAll ∈ xG := xG_mem 443 (by decide +kernel) (by decide +kernel)
theorem yw_Col_movedInAll : xY y_Col_movedInAll cd_Col_movedInAll 1 (some .int) 0 := ⟨xG_mem 448 (by decide +kernel) (by decide +kernel), xG_mem 449 (by decide +kernel) (by decide +kernel), xG_mem 61 (by decide +kernel) (by decide +kernel), xG_mem 450 (by decide +kernel) (by decide +kernel), by decide, by decide, by decide +kernel⟩
theorem ml_Rp_224 : Cond.methodLink R_Rp 224 y_Col_movedInAll ∈ xG := xG_mem 447 (by decide +kernel) (by decide +kernel)
theorem fd_Rp_139 : xFd R_Rp 139 0 4 := ⟨R_Rp, T_Rp, 6, rfl, in_Rp, by decide, xG_mem 282 (by decide +kernel) (by decide +kernel)⟩
theorem fd_Rp_151 : xFd R_Rp 151 0 5 := ⟨R_Rp, T_Rp, 6, rfl, in_Rp, by decide, xG_mem 283 (by decide +kernel) (by decide +kernel)⟩
theorem fd_Rp_154 : xFd R_Rp 154 1 4 := ⟨R_Mem, T_Mem, 6, rfl, in_Mem, by decide, xG_mem 180 (by decide +kernel) (by decide +kernel)⟩
theorem ml_Rp_169 : Cond.methodLink R_Rp 169 y_Lin_length ∈ xG := xG_mem 451 (by decide +kernel) (by decide +kernel)
theorem fd_Rp_166 : xFd R_Rp 166 1 3 := ⟨R_Mem, T_Mem, 6, rfl, in_Mem, by decide, xG_mem 177 (by decide +kernel) (by decide +kernel)⟩
def p_Rp_count (x1 : Int32) (σ : xS) (Q : Int32 → xS → Prop) : Prop :=
  ((x1 = 0 → p_Reg_amount σ (fun r2 σ1 => Q r2 σ1)) ∧ (x1 = 1 → p_Reg_freePages σ (fun r4 σ3 => Q r4 σ3)) ∧ (x1 = 2 → p_Mem_objects σ (fun r6 σ5 => Q r6 σ5)) ∧ (x1 = 3 → p_Col_collections σ (fun r8 σ7 => Q r8 σ7)) ∧ (x1 = 4 → p_Col_goneInAll σ (fun r10 σ9 => Q r10 σ9)) ∧ (x1 = 5 → p_Col_movedInAll σ (fun r12 σ11 => Q r12 σ11)) ∧ (x1 = 6 → Q (σ 0 4) σ) ∧ (x1 = 7 → Q (σ 0 5) σ) ∧ (x1 = 8 → p_Lin_length_9 σ (fun r14 σ13 => Q r14 σ13)) ∧ (x1 = 9 → p_Lin_length_8 σ (fun r16 σ15 => Q r16 σ15)) ∧ (¬ x1 = 0 → ¬ x1 = 1 → ¬ x1 = 2 → ¬ x1 = 3 → ¬ x1 = 4 → ¬ x1 = 5 → ¬ x1 = 6 → ¬ x1 = 7 → ¬ x1 = 8 → ¬ x1 = 9 → Q (-1) σ))
abbrev rm_Rp_count : Room := { frames := 4, cells := 0, slots := 0, locals := 88 }
theorem d_Rp_count_0 : decode cd_Rp_count 0 = .ok (.iload_n 1, 1) := by decide +kernel
theorem d_Rp_count_1 : decode cd_Rp_count 1 = .ok (.tableswitch 141 0 9 #[55, 66, 77, 85, 93, 101, 109, 114, 119, 130], 55) := by decide +kernel
theorem d_Rp_count_56 : decode cd_Rp_count 56 = .ok (.aload_n 0, 1) := by decide +kernel
theorem d_Rp_count_57 : decode cd_Rp_count 57 = .ok (.getfield 12, 3) := by decide +kernel
theorem d_Rp_count_60 : decode cd_Rp_count 60 = .ok (.getfield 45, 3) := by decide +kernel
theorem d_Rp_count_63 : decode cd_Rp_count 63 = .ok (.invokevirtual 55, 3) := by decide +kernel
theorem d_Rp_count_66 : decode cd_Rp_count 66 = .ok (.ireturn, 1) := by decide +kernel
theorem d_Rp_count_67 : decode cd_Rp_count 67 = .ok (.aload_n 0, 1) := by decide +kernel
theorem d_Rp_count_68 : decode cd_Rp_count 68 = .ok (.getfield 12, 3) := by decide +kernel
theorem d_Rp_count_71 : decode cd_Rp_count 71 = .ok (.getfield 45, 3) := by decide +kernel
theorem d_Rp_count_74 : decode cd_Rp_count 74 = .ok (.invokevirtual 212, 3) := by decide +kernel
theorem d_Rp_count_77 : decode cd_Rp_count 77 = .ok (.ireturn, 1) := by decide +kernel
theorem d_Rp_count_78 : decode cd_Rp_count 78 = .ok (.aload_n 0, 1) := by decide +kernel
theorem d_Rp_count_79 : decode cd_Rp_count 79 = .ok (.getfield 12, 3) := by decide +kernel
theorem d_Rp_count_82 : decode cd_Rp_count 82 = .ok (.invokevirtual 215, 3) := by decide +kernel
theorem d_Rp_count_85 : decode cd_Rp_count 85 = .ok (.ireturn, 1) := by decide +kernel
theorem d_Rp_count_86 : decode cd_Rp_count 86 = .ok (.aload_n 0, 1) := by decide +kernel
theorem d_Rp_count_87 : decode cd_Rp_count 87 = .ok (.getfield 21, 3) := by decide +kernel
theorem d_Rp_count_90 : decode cd_Rp_count 90 = .ok (.invokevirtual 218, 3) := by decide +kernel
theorem d_Rp_count_93 : decode cd_Rp_count 93 = .ok (.ireturn, 1) := by decide +kernel
theorem d_Rp_count_94 : decode cd_Rp_count 94 = .ok (.aload_n 0, 1) := by decide +kernel
theorem d_Rp_count_95 : decode cd_Rp_count 95 = .ok (.getfield 21, 3) := by decide +kernel
theorem d_Rp_count_98 : decode cd_Rp_count 98 = .ok (.invokevirtual 221, 3) := by decide +kernel
theorem d_Rp_count_101 : decode cd_Rp_count 101 = .ok (.ireturn, 1) := by decide +kernel
theorem d_Rp_count_102 : decode cd_Rp_count 102 = .ok (.aload_n 0, 1) := by decide +kernel
theorem d_Rp_count_103 : decode cd_Rp_count 103 = .ok (.getfield 21, 3) := by decide +kernel
theorem d_Rp_count_106 : decode cd_Rp_count 106 = .ok (.invokevirtual 224, 3) := by decide +kernel
theorem d_Rp_count_109 : decode cd_Rp_count 109 = .ok (.ireturn, 1) := by decide +kernel
theorem d_Rp_count_110 : decode cd_Rp_count 110 = .ok (.aload_n 0, 1) := by decide +kernel
theorem d_Rp_count_111 : decode cd_Rp_count 111 = .ok (.getfield 139, 3) := by decide +kernel
theorem d_Rp_count_114 : decode cd_Rp_count 114 = .ok (.ireturn, 1) := by decide +kernel
theorem d_Rp_count_115 : decode cd_Rp_count 115 = .ok (.aload_n 0, 1) := by decide +kernel
theorem d_Rp_count_116 : decode cd_Rp_count 116 = .ok (.getfield 151, 3) := by decide +kernel
theorem d_Rp_count_119 : decode cd_Rp_count 119 = .ok (.ireturn, 1) := by decide +kernel
theorem d_Rp_count_120 : decode cd_Rp_count 120 = .ok (.aload_n 0, 1) := by decide +kernel
theorem d_Rp_count_121 : decode cd_Rp_count 121 = .ok (.getfield 12, 3) := by decide +kernel
theorem d_Rp_count_124 : decode cd_Rp_count 124 = .ok (.getfield 154, 3) := by decide +kernel
theorem d_Rp_count_127 : decode cd_Rp_count 127 = .ok (.invokevirtual 169, 3) := by decide +kernel
theorem d_Rp_count_130 : decode cd_Rp_count 130 = .ok (.ireturn, 1) := by decide +kernel
theorem d_Rp_count_131 : decode cd_Rp_count 131 = .ok (.aload_n 0, 1) := by decide +kernel
theorem d_Rp_count_132 : decode cd_Rp_count 132 = .ok (.getfield 12, 3) := by decide +kernel
theorem d_Rp_count_135 : decode cd_Rp_count 135 = .ok (.getfield 166, 3) := by decide +kernel
theorem d_Rp_count_138 : decode cd_Rp_count 138 = .ok (.invokevirtual 169, 3) := by decide +kernel
theorem d_Rp_count_141 : decode cd_Rp_count 141 = .ok (.ireturn, 1) := by decide +kernel
theorem d_Rp_count_142 : decode cd_Rp_count 142 = .ok (.iconst (-1), 1) := by decide +kernel
theorem d_Rp_count_143 : decode cd_Rp_count 143 = .ok (.ireturn, 1) := by decide +kernel
set_option maxRecDepth 100000 in
set_option maxHeartbeats 4000000 in
theorem c_Rp_count {l : Launch} {V : xV} {σ : xS} {x1 : Int32} {Q : Int32 → xS → Prop} (h : p_Rp_count x1 σ Q) : xMi l y_Rp_count (.code y_Rp_count cd_Rp_count 2 (some .int) :: xG) rm_Rp_count V [.ref (V.2.2 0), .int x1] σ Q := by
  refine x_begini (by decide) (Nat.le_of_ble_eq_true rfl) (fun p e s m below meth c ls C hlocks hr hI hl => ?_)
  have C : xC p s m _ c cd_Rp_count 2 R_Rp V := C
  have hx := C.1
  have hb := C.2.1
  have hl : lv_has ls 2 [(0, .ref (V.2.2 0)), (1, .int x1)] := hl
  unfold p_Rp_count at h
  refine lv_iload_n hx hb d_Rp_count_0 rfl (lv_at hl 1 rfl) ?_
  by_cases c17 : x1 = 0
  · have h := h.1 c17
    refine lv_tableIn (tgt := 56) hx hb d_Rp_count_1 (by rw [c17]; decide) (by rw [c17]; decide) (by rw [c17]; rfl) (by decide) ?_
    refine lv_aload_n hx hb d_Rp_count_56 rfl (lv_at hl 0 rfl) ?_
    refine x_get C hI (d := 0) (by decide) (xE0 V _) fd_Rp_12 rfl d_Rp_count_57 ?_
    refine x_get C hI (d := 1) (by decide) (xE1 V _) fd_Rp_45 rfl d_Rp_count_60 ?_
    refine x_calli C hI hl.1 (d := 7) (As := []) (rest := []) (by decide) (c_Reg_amount h) (xE7 V _) rfl yw_Reg_amount ml_Rp_55 rfl rfl ⟨Nat.le_of_ble_eq_true rfl, Nat.le_of_ble_eq_true rfl⟩ rfl rfl (Nat.le_of_ble_eq_true rfl) d_Rp_count_63 ⟨Nat.zero_le _, Nat.zero_le _⟩ (fun r2 σ1 H locs h hI => ?_)
    exact x_iret C hlocks hr hI h d_Rp_count_66
  by_cases c18 : x1 = 1
  · have h := h.2.1 c18
    refine lv_tableIn (tgt := 67) hx hb d_Rp_count_1 (by rw [c18]; decide) (by rw [c18]; decide) (by rw [c18]; rfl) (by decide) ?_
    refine lv_aload_n hx hb d_Rp_count_67 rfl (lv_at hl 0 rfl) ?_
    refine x_get C hI (d := 0) (by decide) (xE0 V _) fd_Rp_12 rfl d_Rp_count_68 ?_
    refine x_get C hI (d := 1) (by decide) (xE1 V _) fd_Rp_45 rfl d_Rp_count_71 ?_
    refine x_calli C hI hl.1 (d := 7) (As := []) (rest := []) (by decide) (c_Reg_freePages h) (xE7 V _) rfl yw_Reg_freePages ml_Rp_212 rfl rfl ⟨Nat.le_of_ble_eq_true rfl, Nat.le_of_ble_eq_true rfl⟩ rfl rfl (Nat.le_of_ble_eq_true rfl) d_Rp_count_74 ⟨Nat.zero_le _, Nat.zero_le _⟩ (fun r4 σ3 H locs h hI => ?_)
    exact x_iret C hlocks hr hI h d_Rp_count_77
  by_cases c19 : x1 = 2
  · have h := h.2.2.1 c19
    refine lv_tableIn (tgt := 78) hx hb d_Rp_count_1 (by rw [c19]; decide) (by rw [c19]; decide) (by rw [c19]; rfl) (by decide) ?_
    refine lv_aload_n hx hb d_Rp_count_78 rfl (lv_at hl 0 rfl) ?_
    refine x_get C hI (d := 0) (by decide) (xE0 V _) fd_Rp_12 rfl d_Rp_count_79 ?_
    refine x_calli C hI hl.1 (d := 1) (As := []) (rest := []) (by decide) (c_Mem_objects h) (xE1 V _) rfl yw_Mem_objects ml_Rp_215 rfl rfl ⟨Nat.le_of_ble_eq_true rfl, Nat.le_of_ble_eq_true rfl⟩ rfl rfl (Nat.le_of_ble_eq_true rfl) d_Rp_count_82 ⟨Nat.zero_le _, Nat.zero_le _⟩ (fun r6 σ5 H locs h hI => ?_)
    exact x_iret C hlocks hr hI h d_Rp_count_85
  by_cases c20 : x1 = 3
  · have h := h.2.2.2.1 c20
    refine lv_tableIn (tgt := 86) hx hb d_Rp_count_1 (by rw [c20]; decide) (by rw [c20]; decide) (by rw [c20]; rfl) (by decide) ?_
    refine lv_aload_n hx hb d_Rp_count_86 rfl (lv_at hl 0 rfl) ?_
    refine x_get C hI (d := 0) (by decide) (xE0 V _) fd_Rp_21 rfl d_Rp_count_87 ?_
    refine x_calli C hI hl.1 (d := 2) (As := []) (rest := []) (by decide) (c_Col_collections h) (xE2 V _) rfl yw_Col_collections ml_Rp_218 rfl rfl ⟨Nat.le_of_ble_eq_true rfl, Nat.le_of_ble_eq_true rfl⟩ rfl rfl (Nat.le_of_ble_eq_true rfl) d_Rp_count_90 ⟨Nat.zero_le _, Nat.zero_le _⟩ (fun r8 σ7 H locs h hI => ?_)
    exact x_iret C hlocks hr hI h d_Rp_count_93
  by_cases c21 : x1 = 4
  · have h := h.2.2.2.2.1 c21
    refine lv_tableIn (tgt := 94) hx hb d_Rp_count_1 (by rw [c21]; decide) (by rw [c21]; decide) (by rw [c21]; rfl) (by decide) ?_
    refine lv_aload_n hx hb d_Rp_count_94 rfl (lv_at hl 0 rfl) ?_
    refine x_get C hI (d := 0) (by decide) (xE0 V _) fd_Rp_21 rfl d_Rp_count_95 ?_
    refine x_calli C hI hl.1 (d := 2) (As := []) (rest := []) (by decide) (c_Col_goneInAll h) (xE2 V _) rfl yw_Col_goneInAll ml_Rp_221 rfl rfl ⟨Nat.le_of_ble_eq_true rfl, Nat.le_of_ble_eq_true rfl⟩ rfl rfl (Nat.le_of_ble_eq_true rfl) d_Rp_count_98 ⟨Nat.zero_le _, Nat.zero_le _⟩ (fun r10 σ9 H locs h hI => ?_)
    exact x_iret C hlocks hr hI h d_Rp_count_101
  by_cases c22 : x1 = 5
  · have h := h.2.2.2.2.2.1 c22
    refine lv_tableIn (tgt := 102) hx hb d_Rp_count_1 (by rw [c22]; decide) (by rw [c22]; decide) (by rw [c22]; rfl) (by decide) ?_
    refine lv_aload_n hx hb d_Rp_count_102 rfl (lv_at hl 0 rfl) ?_
    refine x_get C hI (d := 0) (by decide) (xE0 V _) fd_Rp_21 rfl d_Rp_count_103 ?_
    refine x_calli C hI hl.1 (d := 2) (As := []) (rest := []) (by decide) (c_Col_movedInAll h) (xE2 V _) rfl yw_Col_movedInAll ml_Rp_224 rfl rfl ⟨Nat.le_of_ble_eq_true rfl, Nat.le_of_ble_eq_true rfl⟩ rfl rfl (Nat.le_of_ble_eq_true rfl) d_Rp_count_106 ⟨Nat.zero_le _, Nat.zero_le _⟩ (fun r12 σ11 H locs h hI => ?_)
    exact x_iret C hlocks hr hI h d_Rp_count_109
  by_cases c23 : x1 = 6
  · have h := h.2.2.2.2.2.2.1 c23
    refine lv_tableIn (tgt := 110) hx hb d_Rp_count_1 (by rw [c23]; decide) (by rw [c23]; decide) (by rw [c23]; rfl) (by decide) ?_
    refine lv_aload_n hx hb d_Rp_count_110 rfl (lv_at hl 0 rfl) ?_
    refine x_get C hI (d := 0) (by decide) (xE0 V _) fd_Rp_139 rfl d_Rp_count_111 ?_
    exact x_iret C hlocks hr hI h d_Rp_count_114
  by_cases c24 : x1 = 7
  · have h := h.2.2.2.2.2.2.2.1 c24
    refine lv_tableIn (tgt := 115) hx hb d_Rp_count_1 (by rw [c24]; decide) (by rw [c24]; decide) (by rw [c24]; rfl) (by decide) ?_
    refine lv_aload_n hx hb d_Rp_count_115 rfl (lv_at hl 0 rfl) ?_
    refine x_get C hI (d := 0) (by decide) (xE0 V _) fd_Rp_151 rfl d_Rp_count_116 ?_
    exact x_iret C hlocks hr hI h d_Rp_count_119
  by_cases c25 : x1 = 8
  · have h := h.2.2.2.2.2.2.2.2.1 c25
    refine lv_tableIn (tgt := 120) hx hb d_Rp_count_1 (by rw [c25]; decide) (by rw [c25]; decide) (by rw [c25]; rfl) (by decide) ?_
    refine lv_aload_n hx hb d_Rp_count_120 rfl (lv_at hl 0 rfl) ?_
    refine x_get C hI (d := 0) (by decide) (xE0 V _) fd_Rp_12 rfl d_Rp_count_121 ?_
    refine x_get C hI (d := 1) (by decide) (xE1 V _) fd_Rp_154 rfl d_Rp_count_124 ?_
    refine x_calli C hI hl.1 (d := 9) (As := []) (rest := []) (by decide) (c_Lin_length_9 h) (xE9 V _) rfl yw_Lin_length ml_Rp_169 rfl rfl ⟨Nat.le_of_ble_eq_true rfl, Nat.le_of_ble_eq_true rfl⟩ rfl rfl (Nat.le_of_ble_eq_true rfl) d_Rp_count_127 ⟨Nat.zero_le _, Nat.zero_le _⟩ (fun r14 σ13 H locs h hI => ?_)
    exact x_iret C hlocks hr hI h d_Rp_count_130
  by_cases c26 : x1 = 9
  · have h := h.2.2.2.2.2.2.2.2.2.1 c26
    refine lv_tableIn (tgt := 131) hx hb d_Rp_count_1 (by rw [c26]; decide) (by rw [c26]; decide) (by rw [c26]; rfl) (by decide) ?_
    refine lv_aload_n hx hb d_Rp_count_131 rfl (lv_at hl 0 rfl) ?_
    refine x_get C hI (d := 0) (by decide) (xE0 V _) fd_Rp_12 rfl d_Rp_count_132 ?_
    refine x_get C hI (d := 1) (by decide) (xE1 V _) fd_Rp_166 rfl d_Rp_count_135 ?_
    refine x_calli C hI hl.1 (d := 8) (As := []) (rest := []) (by decide) (c_Lin_length_8 h) (xE8 V _) rfl yw_Lin_length ml_Rp_169 rfl rfl ⟨Nat.le_of_ble_eq_true rfl, Nat.le_of_ble_eq_true rfl⟩ rfl rfl (Nat.le_of_ble_eq_true rfl) d_Rp_count_138 ⟨Nat.zero_le _, Nat.zero_le _⟩ (fun r16 σ15 H locs h hI => ?_)
    exact x_iret C hlocks hr hI h d_Rp_count_141
  have h := h.2.2.2.2.2.2.2.2.2.2 c17 c18 c19 c20 c21 c22 c23 c24 c25 c26
  refine lv_tableOut (tgt := 142) hx hb d_Rp_count_1 (by have := x_ne c17 (n := 0) (by decide); have := x_ne c18 (n := 1) (by decide); have := x_ne c19 (n := 2) (by decide); have := x_ne c20 (n := 3) (by decide); have := x_ne c21 (n := 4) (by decide); have := x_ne c22 (n := 5) (by decide); have := x_ne c23 (n := 6) (by decide); have := x_ne c24 (n := 7) (by decide); have := x_ne c25 (n := 8) (by decide); have := x_ne c26 (n := 9) (by decide); omega) (by decide) ?_
  refine lv_iconst (v := (-1)) hx hb d_Rp_count_142 (by decide) ?_
  exact x_iret C hlocks hr hI h d_Rp_count_143
def y_Rp_placesAfterCollecting : MethodName := ⟨"RegionPool", "placesAfterCollecting", "(II)I"⟩
abbrev cd_Rp_placesAfterCollecting : ByteArray := prog_1_method_26_code
theorem ml_Rp_250 : Cond.methodLink R_Rp 250 y_Reg_takePlaces ∈ xG := xG_mem 750 (by decide +kernel) (by decide +kernel)
theorem yw_Col_run : xY y_Col_run cd_Col_run 4 (some .int) 1 := ⟨xG_mem 536 (by decide +kernel) (by decide +kernel), xG_mem 537 (by decide +kernel) (by decide +kernel), xG_mem 61 (by decide +kernel) (by decide +kernel), xG_mem 538 (by decide +kernel) (by decide +kernel), by decide, by decide, by decide +kernel⟩
theorem ml_Rp_68 : Cond.methodLink R_Rp 68 y_Col_run ∈ xG := xG_mem 535 (by decide +kernel) (by decide +kernel)
def p_Rp_placesAfterCollecting_J40 (Q : Int32 → xS → Prop) (x1 x2 x3 : Int32) (σ : xS) : Prop :=
  ((¬ x3 = (-1) → Q x3 σ) ∧ (x3 = (-1) → ((x1 = 0 → Q x3 σ) ∧ (¬ x1 = 0 → p_Col_run 0 σ (fun r7 σ6 => p_Reg_takePlaces x1 x2 σ6 (fun r9 σ8 => Q r9 σ8))))))
def p_Rp_placesAfterCollecting (x1 x2 : Int32) (σ : xS) (Q : Int32 → xS → Prop) : Prop :=
  p_Reg_takePlaces x1 x2 σ (fun r2 σ1 => ((¬ r2 = (-1) → p_Rp_placesAfterCollecting_J40 Q x1 x2 r2 σ1) ∧ (r2 = (-1) → p_Col_run x1 σ1 (fun r11 σ10 => p_Reg_takePlaces x1 x2 σ10 (fun r13 σ12 => p_Rp_placesAfterCollecting_J40 Q x1 x2 r13 σ12)))))
abbrev rm_Rp_placesAfterCollecting : Room := { frames := 6, cells := 0, slots := 0, locals := 139 }
theorem d_Rp_placesAfterCollecting_0 : decode cd_Rp_placesAfterCollecting 0 = .ok (.aload_n 0, 1) := by decide +kernel
theorem d_Rp_placesAfterCollecting_1 : decode cd_Rp_placesAfterCollecting 1 = .ok (.getfield 12, 3) := by decide +kernel
theorem d_Rp_placesAfterCollecting_4 : decode cd_Rp_placesAfterCollecting 4 = .ok (.getfield 45, 3) := by decide +kernel
theorem d_Rp_placesAfterCollecting_7 : decode cd_Rp_placesAfterCollecting 7 = .ok (.iload_n 1, 1) := by decide +kernel
theorem d_Rp_placesAfterCollecting_8 : decode cd_Rp_placesAfterCollecting 8 = .ok (.iload_n 2, 1) := by decide +kernel
theorem d_Rp_placesAfterCollecting_9 : decode cd_Rp_placesAfterCollecting 9 = .ok (.invokevirtual 250, 3) := by decide +kernel
theorem d_Rp_placesAfterCollecting_12 : decode cd_Rp_placesAfterCollecting 12 = .ok (.istore_n 3, 1) := by decide +kernel
theorem d_Rp_placesAfterCollecting_13 : decode cd_Rp_placesAfterCollecting 13 = .ok (.iload_n 3, 1) := by decide +kernel
theorem d_Rp_placesAfterCollecting_14 : decode cd_Rp_placesAfterCollecting 14 = .ok (.iconst (-1), 1) := by decide +kernel
theorem d_Rp_placesAfterCollecting_15 : decode cd_Rp_placesAfterCollecting 15 = .ok (.if_icmp .ne 25, 3) := by decide +kernel
theorem d_Rp_placesAfterCollecting_18 : decode cd_Rp_placesAfterCollecting 18 = .ok (.aload_n 0, 1) := by decide +kernel
theorem d_Rp_placesAfterCollecting_19 : decode cd_Rp_placesAfterCollecting 19 = .ok (.getfield 21, 3) := by decide +kernel
theorem d_Rp_placesAfterCollecting_22 : decode cd_Rp_placesAfterCollecting 22 = .ok (.iload_n 1, 1) := by decide +kernel
theorem d_Rp_placesAfterCollecting_23 : decode cd_Rp_placesAfterCollecting 23 = .ok (.invokevirtual 68, 3) := by decide +kernel
theorem d_Rp_placesAfterCollecting_26 : decode cd_Rp_placesAfterCollecting 26 = .ok (.pop, 1) := by decide +kernel
theorem d_Rp_placesAfterCollecting_27 : decode cd_Rp_placesAfterCollecting 27 = .ok (.aload_n 0, 1) := by decide +kernel
theorem d_Rp_placesAfterCollecting_28 : decode cd_Rp_placesAfterCollecting 28 = .ok (.getfield 12, 3) := by decide +kernel
theorem d_Rp_placesAfterCollecting_31 : decode cd_Rp_placesAfterCollecting 31 = .ok (.getfield 45, 3) := by decide +kernel
theorem d_Rp_placesAfterCollecting_34 : decode cd_Rp_placesAfterCollecting 34 = .ok (.iload_n 1, 1) := by decide +kernel
theorem d_Rp_placesAfterCollecting_35 : decode cd_Rp_placesAfterCollecting 35 = .ok (.iload_n 2, 1) := by decide +kernel
theorem d_Rp_placesAfterCollecting_36 : decode cd_Rp_placesAfterCollecting 36 = .ok (.invokevirtual 250, 3) := by decide +kernel
theorem d_Rp_placesAfterCollecting_39 : decode cd_Rp_placesAfterCollecting 39 = .ok (.istore_n 3, 1) := by decide +kernel
theorem d_Rp_placesAfterCollecting_40 : decode cd_Rp_placesAfterCollecting 40 = .ok (.iload_n 3, 1) := by decide +kernel
theorem d_Rp_placesAfterCollecting_41 : decode cd_Rp_placesAfterCollecting 41 = .ok (.iconst (-1), 1) := by decide +kernel
theorem d_Rp_placesAfterCollecting_42 : decode cd_Rp_placesAfterCollecting 42 = .ok (.if_icmp .ne 29, 3) := by decide +kernel
theorem d_Rp_placesAfterCollecting_45 : decode cd_Rp_placesAfterCollecting 45 = .ok (.iload_n 1, 1) := by decide +kernel
theorem d_Rp_placesAfterCollecting_46 : decode cd_Rp_placesAfterCollecting 46 = .ok (.ifCond .eq 25, 3) := by decide +kernel
theorem d_Rp_placesAfterCollecting_49 : decode cd_Rp_placesAfterCollecting 49 = .ok (.aload_n 0, 1) := by decide +kernel
theorem d_Rp_placesAfterCollecting_50 : decode cd_Rp_placesAfterCollecting 50 = .ok (.getfield 21, 3) := by decide +kernel
theorem d_Rp_placesAfterCollecting_53 : decode cd_Rp_placesAfterCollecting 53 = .ok (.iconst 0, 1) := by decide +kernel
theorem d_Rp_placesAfterCollecting_54 : decode cd_Rp_placesAfterCollecting 54 = .ok (.invokevirtual 68, 3) := by decide +kernel
theorem d_Rp_placesAfterCollecting_57 : decode cd_Rp_placesAfterCollecting 57 = .ok (.pop, 1) := by decide +kernel
theorem d_Rp_placesAfterCollecting_58 : decode cd_Rp_placesAfterCollecting 58 = .ok (.aload_n 0, 1) := by decide +kernel
theorem d_Rp_placesAfterCollecting_59 : decode cd_Rp_placesAfterCollecting 59 = .ok (.getfield 12, 3) := by decide +kernel
theorem d_Rp_placesAfterCollecting_62 : decode cd_Rp_placesAfterCollecting 62 = .ok (.getfield 45, 3) := by decide +kernel
theorem d_Rp_placesAfterCollecting_65 : decode cd_Rp_placesAfterCollecting 65 = .ok (.iload_n 1, 1) := by decide +kernel
theorem d_Rp_placesAfterCollecting_66 : decode cd_Rp_placesAfterCollecting 66 = .ok (.iload_n 2, 1) := by decide +kernel
theorem d_Rp_placesAfterCollecting_67 : decode cd_Rp_placesAfterCollecting 67 = .ok (.invokevirtual 250, 3) := by decide +kernel
theorem d_Rp_placesAfterCollecting_70 : decode cd_Rp_placesAfterCollecting 70 = .ok (.istore_n 3, 1) := by decide +kernel
theorem d_Rp_placesAfterCollecting_71 : decode cd_Rp_placesAfterCollecting 71 = .ok (.iload_n 3, 1) := by decide +kernel
theorem d_Rp_placesAfterCollecting_72 : decode cd_Rp_placesAfterCollecting 72 = .ok (.ireturn, 1) := by decide +kernel
set_option maxRecDepth 100000 in
set_option maxHeartbeats 4000000 in
theorem t_Rp_placesAfterCollecting_J40 {p : Program} {l : Launch} {e : Env} {s : State} {m : MethodId} {args : Array Value} {below : List Frame} {meth : Method} {c : Code} {V : xV} (C : xC p s m args c cd_Rp_placesAfterCollecting 4 R_Rp V) (hlocks : meth.locks = false) (hr : meth.sig.returnType = (some .int)) {Q : Int32 → xS → Prop} {x1 x2 x3 : Int32} {σ : xS} {H : Heap} {locs : List Loc} {ls : Array Slot} (h : p_Rp_placesAfterCollecting_J40 Q x1 x2 x3 σ) (hI : xI V s.heap σ H locs) (hl : lv_has ls 4 [(0, .ref (V.2.2 0)), (1, .int x1), (2, .int x2), (3, .int x3)]) : W p l e rm_Rp_placesAfterCollecting s m args below meth c H locs 0 0 (xZi below V args s Q) (F0 m 40 ls []) := by
  have hx := C.1
  have hb := C.2.1
  unfold p_Rp_placesAfterCollecting_J40 at h
  refine lv_iload_n hx hb d_Rp_placesAfterCollecting_40 rfl (lv_at hl 3 rfl) ?_
  refine lv_iconst (v := (-1)) hx hb d_Rp_placesAfterCollecting_41 (by decide) ?_
  refine lv_icmp_ne (tgt := 71) hx hb d_Rp_placesAfterCollecting_42 (by decide) (fun c4 => ?_) (fun c4 => ?_)
  · have h := h.1 c4
    refine lv_iload_n hx hb d_Rp_placesAfterCollecting_71 rfl (lv_at hl 3 rfl) ?_
    exact x_iret C hlocks hr hI h d_Rp_placesAfterCollecting_72
  · have h := h.2 c4
    refine lv_iload_n hx hb d_Rp_placesAfterCollecting_45 rfl (lv_at hl 1 rfl) ?_
    refine lv_if_eq (tgt := 71) hx hb d_Rp_placesAfterCollecting_46 (by decide) (fun c5 => ?_) (fun c5 => ?_)
    · have h := h.1 c5
      refine lv_iload_n hx hb d_Rp_placesAfterCollecting_71 rfl (lv_at hl 3 rfl) ?_
      exact x_iret C hlocks hr hI h d_Rp_placesAfterCollecting_72
    · have h := h.2 c5
      refine lv_aload_n hx hb d_Rp_placesAfterCollecting_49 rfl (lv_at hl 0 rfl) ?_
      refine x_get C hI (d := 0) (by decide) (xE0 V _) fd_Rp_21 rfl d_Rp_placesAfterCollecting_50 ?_
      refine lv_iconst (v := 0) hx hb d_Rp_placesAfterCollecting_53 (by decide) ?_
      refine x_calli C hI hl.1 (d := 2) (As := [.int 0]) (rest := []) (by decide) (c_Col_run h) (xE2 V _) rfl yw_Col_run ml_Rp_68 rfl rfl ⟨Nat.le_of_ble_eq_true rfl, Nat.le_of_ble_eq_true rfl⟩ rfl rfl (Nat.le_of_ble_eq_true rfl) d_Rp_placesAfterCollecting_54 ⟨Nat.zero_le _, Nat.zero_le _⟩ (fun r7 σ6 H locs h hI => ?_)
      refine lv_pop hx hb d_Rp_placesAfterCollecting_57 rfl ?_
      refine lv_aload_n hx hb d_Rp_placesAfterCollecting_58 rfl (lv_at hl 0 rfl) ?_
      refine x_get C hI (d := 0) (by decide) (xE0 V _) fd_Rp_12 rfl d_Rp_placesAfterCollecting_59 ?_
      refine x_get C hI (d := 1) (by decide) (xE1 V _) fd_Rp_45 rfl d_Rp_placesAfterCollecting_62 ?_
      refine lv_iload_n hx hb d_Rp_placesAfterCollecting_65 rfl (lv_at hl 1 rfl) ?_
      refine lv_iload_n hx hb d_Rp_placesAfterCollecting_66 rfl (lv_at hl 2 rfl) ?_
      refine x_calli C hI hl.1 (d := 7) (As := [.int x1, .int x2]) (rest := []) (by decide) (c_Reg_takePlaces h) (xE7 V _) rfl yw_Reg_takePlaces ml_Rp_250 rfl rfl ⟨Nat.le_of_ble_eq_true rfl, Nat.le_of_ble_eq_true rfl⟩ rfl rfl (Nat.le_of_ble_eq_true rfl) d_Rp_placesAfterCollecting_67 ⟨Nat.zero_le _, Nat.zero_le _⟩ (fun r9 σ8 H locs h hI => ?_)
      refine lv_istore_n (lv' := [(3, .int r9), (0, .ref (V.2.2 0)), (1, .int x1), (2, .int x2)]) hx hb d_Rp_placesAfterCollecting_70 rfl hl (by decide) rfl (fun ls hl => ?_)
      refine lv_iload_n hx hb d_Rp_placesAfterCollecting_71 rfl (lv_at hl 0 rfl) ?_
      exact x_iret C hlocks hr hI h d_Rp_placesAfterCollecting_72
set_option maxRecDepth 100000 in
set_option maxHeartbeats 4000000 in
theorem c_Rp_placesAfterCollecting {l : Launch} {V : xV} {σ : xS} {x1 x2 : Int32} {Q : Int32 → xS → Prop} (h : p_Rp_placesAfterCollecting x1 x2 σ Q) : xMi l y_Rp_placesAfterCollecting (.code y_Rp_placesAfterCollecting cd_Rp_placesAfterCollecting 4 (some .int) :: xG) rm_Rp_placesAfterCollecting V [.ref (V.2.2 0), .int x1, .int x2] σ Q := by
  refine x_begini (by decide) (Nat.le_of_ble_eq_true rfl) (fun p e s m below meth c ls C hlocks hr hI hl => ?_)
  have C : xC p s m _ c cd_Rp_placesAfterCollecting 4 R_Rp V := C
  have hx := C.1
  have hb := C.2.1
  have hl : lv_has ls 4 [(0, .ref (V.2.2 0)), (1, .int x1), (2, .int x2)] := hl
  unfold p_Rp_placesAfterCollecting at h
  refine lv_aload_n hx hb d_Rp_placesAfterCollecting_0 rfl (lv_at hl 0 rfl) ?_
  refine x_get C hI (d := 0) (by decide) (xE0 V _) fd_Rp_12 rfl d_Rp_placesAfterCollecting_1 ?_
  refine x_get C hI (d := 1) (by decide) (xE1 V _) fd_Rp_45 rfl d_Rp_placesAfterCollecting_4 ?_
  refine lv_iload_n hx hb d_Rp_placesAfterCollecting_7 rfl (lv_at hl 1 rfl) ?_
  refine lv_iload_n hx hb d_Rp_placesAfterCollecting_8 rfl (lv_at hl 2 rfl) ?_
  refine x_calli C hI hl.1 (d := 7) (As := [.int x1, .int x2]) (rest := []) (by decide) (c_Reg_takePlaces h) (xE7 V _) rfl yw_Reg_takePlaces ml_Rp_250 rfl rfl ⟨Nat.le_of_ble_eq_true rfl, Nat.le_of_ble_eq_true rfl⟩ rfl rfl (Nat.le_of_ble_eq_true rfl) d_Rp_placesAfterCollecting_9 ⟨Nat.zero_le _, Nat.zero_le _⟩ (fun r2 σ1 H locs h hI => ?_)
  refine lv_istore_n (lv' := [(3, .int r2), (0, .ref (V.2.2 0)), (1, .int x1), (2, .int x2)]) hx hb d_Rp_placesAfterCollecting_12 rfl hl (by decide) rfl (fun ls hl => ?_)
  refine lv_iload_n hx hb d_Rp_placesAfterCollecting_13 rfl (lv_at hl 0 rfl) ?_
  refine lv_iconst (v := (-1)) hx hb d_Rp_placesAfterCollecting_14 (by decide) ?_
  refine lv_icmp_ne (tgt := 40) hx hb d_Rp_placesAfterCollecting_15 (by decide) (fun c3 => ?_) (fun c3 => ?_)
  · have h := h.1 c3
    exact t_Rp_placesAfterCollecting_J40 C hlocks hr h hI (lv_sub hl [1, 2, 3, 0] rfl)
  · have h := h.2 c3
    refine lv_aload_n hx hb d_Rp_placesAfterCollecting_18 rfl (lv_at hl 1 rfl) ?_
    refine x_get C hI (d := 0) (by decide) (xE0 V _) fd_Rp_21 rfl d_Rp_placesAfterCollecting_19 ?_
    refine lv_iload_n hx hb d_Rp_placesAfterCollecting_22 rfl (lv_at hl 2 rfl) ?_
    refine x_calli C hI hl.1 (d := 2) (As := [.int x1]) (rest := []) (by decide) (c_Col_run h) (xE2 V _) rfl yw_Col_run ml_Rp_68 rfl rfl ⟨Nat.le_of_ble_eq_true rfl, Nat.le_of_ble_eq_true rfl⟩ rfl rfl (Nat.le_of_ble_eq_true rfl) d_Rp_placesAfterCollecting_23 ⟨Nat.zero_le _, Nat.zero_le _⟩ (fun r11 σ10 H locs h hI => ?_)
    refine lv_pop hx hb d_Rp_placesAfterCollecting_26 rfl ?_
    refine lv_aload_n hx hb d_Rp_placesAfterCollecting_27 rfl (lv_at hl 1 rfl) ?_
    refine x_get C hI (d := 0) (by decide) (xE0 V _) fd_Rp_12 rfl d_Rp_placesAfterCollecting_28 ?_
    refine x_get C hI (d := 1) (by decide) (xE1 V _) fd_Rp_45 rfl d_Rp_placesAfterCollecting_31 ?_
    refine lv_iload_n hx hb d_Rp_placesAfterCollecting_34 rfl (lv_at hl 2 rfl) ?_
    refine lv_iload_n hx hb d_Rp_placesAfterCollecting_35 rfl (lv_at hl 3 rfl) ?_
    refine x_calli C hI hl.1 (d := 7) (As := [.int x1, .int x2]) (rest := []) (by decide) (c_Reg_takePlaces h) (xE7 V _) rfl yw_Reg_takePlaces ml_Rp_250 rfl rfl ⟨Nat.le_of_ble_eq_true rfl, Nat.le_of_ble_eq_true rfl⟩ rfl rfl (Nat.le_of_ble_eq_true rfl) d_Rp_placesAfterCollecting_36 ⟨Nat.zero_le _, Nat.zero_le _⟩ (fun r13 σ12 H locs h hI => ?_)
    refine lv_istore_n (lv' := [(3, .int r13), (0, .ref (V.2.2 0)), (1, .int x1), (2, .int x2)]) hx hb d_Rp_placesAfterCollecting_39 rfl hl (by decide) rfl (fun ls hl => ?_)
    exact t_Rp_placesAfterCollecting_J40 C hlocks hr h hI (lv_sub hl [1, 2, 3, 0] rfl)
def y_Rp_ofObject : MethodName := ⟨"RegionPool", "ofObject", "(II)I"⟩
abbrev cd_Rp_ofObject : ByteArray := prog_1_method_27_code
theorem ml_Rp_253 : Cond.methodLink R_Rp 253 y_Hea_kindOf ∈ xG := xG_mem 964 (by decide +kernel) (by decide +kernel)
theorem ml_Rp_256 : Cond.methodLink R_Rp 256 y_Hea_fieldsOf ∈ xG := xG_mem 965 (by decide +kernel) (by decide +kernel)
theorem ml_Rp_122 : Cond.methodLink R_Rp 122 y_Reg_ofPlace ∈ xG := xG_mem 812 (by decide +kernel) (by decide +kernel)
theorem yw_Lin_has : xY y_Lin_has cd_Lin_has 3 (some .boolean) 1 := ⟨xG_mem 901 (by decide +kernel) (by decide +kernel), xG_mem 902 (by decide +kernel) (by decide +kernel), xG_mem 60 (by decide +kernel) (by decide +kernel), xG_mem 903 (by decide +kernel) (by decide +kernel), by decide, by decide, by decide +kernel⟩
theorem ml_Rp_158 : Cond.methodLink R_Rp 158 y_Lin_has ∈ xG := xG_mem 900 (by decide +kernel) (by decide +kernel)
def p_Rp_ofObject (x1 x2 : Int32) (σ : xS) (Q : Int32 → xS → Prop) : Prop :=
  ((x2 = 2 → p_Hea_kindOf x1 σ (fun r2 σ1 => Q r2 σ1)) ∧ (x2 = 3 → p_Hea_tagOf x1 σ (fun r4 σ3 => Q r4 σ3)) ∧ (x2 = 4 → p_Hea_fieldsOf x1 σ (fun r6 σ5 => Q r6 σ5)) ∧ (x2 = 5 → p_Reg_ofPlace x1 σ (fun r8 σ7 => Q r8 σ7)) ∧ (x2 = 6 → p_Lin_has_9 x1 σ (fun r10 σ9 => ((r10 = 0 → Q 0 σ9) ∧ (¬ r10 = 0 → Q 1 σ9)))) ∧ (¬ x2 = 2 → ¬ x2 = 3 → ¬ x2 = 4 → ¬ x2 = 5 → ¬ x2 = 6 → Q (-1) σ))
abbrev rm_Rp_ofObject : Room := { frames := 1, cells := 0, slots := 0, locals := 22 }
theorem d_Rp_ofObject_0 : decode cd_Rp_ofObject 0 = .ok (.iload_n 2, 1) := by decide +kernel
theorem d_Rp_ofObject_1 : decode cd_Rp_ofObject 1 = .ok (.tableswitch 103 2 6 #[35, 47, 59, 71, 83], 35) := by decide +kernel
theorem d_Rp_ofObject_36 : decode cd_Rp_ofObject 36 = .ok (.aload_n 0, 1) := by decide +kernel
theorem d_Rp_ofObject_37 : decode cd_Rp_ofObject 37 = .ok (.getfield 12, 3) := by decide +kernel
theorem d_Rp_ofObject_40 : decode cd_Rp_ofObject 40 = .ok (.getfield 34, 3) := by decide +kernel
theorem d_Rp_ofObject_43 : decode cd_Rp_ofObject 43 = .ok (.iload_n 1, 1) := by decide +kernel
theorem d_Rp_ofObject_44 : decode cd_Rp_ofObject 44 = .ok (.invokevirtual 253, 3) := by decide +kernel
theorem d_Rp_ofObject_47 : decode cd_Rp_ofObject 47 = .ok (.ireturn, 1) := by decide +kernel
theorem d_Rp_ofObject_48 : decode cd_Rp_ofObject 48 = .ok (.aload_n 0, 1) := by decide +kernel
theorem d_Rp_ofObject_49 : decode cd_Rp_ofObject 49 = .ok (.getfield 12, 3) := by decide +kernel
theorem d_Rp_ofObject_52 : decode cd_Rp_ofObject 52 = .ok (.getfield 34, 3) := by decide +kernel
theorem d_Rp_ofObject_55 : decode cd_Rp_ofObject 55 = .ok (.iload_n 1, 1) := by decide +kernel
theorem d_Rp_ofObject_56 : decode cd_Rp_ofObject 56 = .ok (.invokevirtual 209, 3) := by decide +kernel
theorem d_Rp_ofObject_59 : decode cd_Rp_ofObject 59 = .ok (.ireturn, 1) := by decide +kernel
theorem d_Rp_ofObject_60 : decode cd_Rp_ofObject 60 = .ok (.aload_n 0, 1) := by decide +kernel
theorem d_Rp_ofObject_61 : decode cd_Rp_ofObject 61 = .ok (.getfield 12, 3) := by decide +kernel
theorem d_Rp_ofObject_64 : decode cd_Rp_ofObject 64 = .ok (.getfield 34, 3) := by decide +kernel
theorem d_Rp_ofObject_67 : decode cd_Rp_ofObject 67 = .ok (.iload_n 1, 1) := by decide +kernel
theorem d_Rp_ofObject_68 : decode cd_Rp_ofObject 68 = .ok (.invokevirtual 256, 3) := by decide +kernel
theorem d_Rp_ofObject_71 : decode cd_Rp_ofObject 71 = .ok (.ireturn, 1) := by decide +kernel
theorem d_Rp_ofObject_72 : decode cd_Rp_ofObject 72 = .ok (.aload_n 0, 1) := by decide +kernel
theorem d_Rp_ofObject_73 : decode cd_Rp_ofObject 73 = .ok (.getfield 12, 3) := by decide +kernel
theorem d_Rp_ofObject_76 : decode cd_Rp_ofObject 76 = .ok (.getfield 45, 3) := by decide +kernel
theorem d_Rp_ofObject_79 : decode cd_Rp_ofObject 79 = .ok (.iload_n 1, 1) := by decide +kernel
theorem d_Rp_ofObject_80 : decode cd_Rp_ofObject 80 = .ok (.invokevirtual 122, 3) := by decide +kernel
theorem d_Rp_ofObject_83 : decode cd_Rp_ofObject 83 = .ok (.ireturn, 1) := by decide +kernel
theorem d_Rp_ofObject_84 : decode cd_Rp_ofObject 84 = .ok (.aload_n 0, 1) := by decide +kernel
theorem d_Rp_ofObject_85 : decode cd_Rp_ofObject 85 = .ok (.getfield 12, 3) := by decide +kernel
theorem d_Rp_ofObject_88 : decode cd_Rp_ofObject 88 = .ok (.getfield 154, 3) := by decide +kernel
theorem d_Rp_ofObject_91 : decode cd_Rp_ofObject 91 = .ok (.iload_n 1, 1) := by decide +kernel
theorem d_Rp_ofObject_92 : decode cd_Rp_ofObject 92 = .ok (.invokevirtual 158, 3) := by decide +kernel
theorem d_Rp_ofObject_95 : decode cd_Rp_ofObject 95 = .ok (.ifCond .eq 7, 3) := by decide +kernel
theorem d_Rp_ofObject_98 : decode cd_Rp_ofObject 98 = .ok (.iconst 1, 1) := by decide +kernel
theorem d_Rp_ofObject_99 : decode cd_Rp_ofObject 99 = .ok (.goto 4, 3) := by decide +kernel
theorem d_Rp_ofObject_102 : decode cd_Rp_ofObject 102 = .ok (.iconst 0, 1) := by decide +kernel
theorem d_Rp_ofObject_103 : decode cd_Rp_ofObject 103 = .ok (.ireturn, 1) := by decide +kernel
theorem d_Rp_ofObject_104 : decode cd_Rp_ofObject 104 = .ok (.iconst (-1), 1) := by decide +kernel
theorem d_Rp_ofObject_105 : decode cd_Rp_ofObject 105 = .ok (.ireturn, 1) := by decide +kernel
set_option maxRecDepth 100000 in
set_option maxHeartbeats 4000000 in
theorem c_Rp_ofObject {l : Launch} {V : xV} {σ : xS} {x1 x2 : Int32} {Q : Int32 → xS → Prop} (h : p_Rp_ofObject x1 x2 σ Q) : xMi l y_Rp_ofObject (.code y_Rp_ofObject cd_Rp_ofObject 3 (some .int) :: xG) rm_Rp_ofObject V [.ref (V.2.2 0), .int x1, .int x2] σ Q := by
  refine x_begini (by decide) (Nat.le_of_ble_eq_true rfl) (fun p e s m below meth c ls C hlocks hr hI hl => ?_)
  have C : xC p s m _ c cd_Rp_ofObject 3 R_Rp V := C
  have hx := C.1
  have hb := C.2.1
  have hl : lv_has ls 3 [(0, .ref (V.2.2 0)), (1, .int x1), (2, .int x2)] := hl
  unfold p_Rp_ofObject at h
  refine lv_iload_n hx hb d_Rp_ofObject_0 rfl (lv_at hl 2 rfl) ?_
  by_cases c12 : x2 = 2
  · have h := h.1 c12
    refine lv_tableIn (tgt := 36) hx hb d_Rp_ofObject_1 (by rw [c12]; decide) (by rw [c12]; decide) (by rw [c12]; rfl) (by decide) ?_
    refine lv_aload_n hx hb d_Rp_ofObject_36 rfl (lv_at hl 0 rfl) ?_
    refine x_get C hI (d := 0) (by decide) (xE0 V _) fd_Rp_12 rfl d_Rp_ofObject_37 ?_
    refine x_get C hI (d := 1) (by decide) (xE1 V _) fd_Rp_34 rfl d_Rp_ofObject_40 ?_
    refine lv_iload_n hx hb d_Rp_ofObject_43 rfl (lv_at hl 1 rfl) ?_
    refine x_calli C hI hl.1 (d := 6) (As := [.int x1]) (rest := []) (by decide) (c_Hea_kindOf h) (xE6 V _) rfl yw_Hea_kindOf ml_Rp_253 rfl rfl ⟨Nat.le_of_ble_eq_true rfl, Nat.le_of_ble_eq_true rfl⟩ rfl rfl (Nat.le_of_ble_eq_true rfl) d_Rp_ofObject_44 ⟨Nat.zero_le _, Nat.zero_le _⟩ (fun r2 σ1 H locs h hI => ?_)
    exact x_iret C hlocks hr hI h d_Rp_ofObject_47
  by_cases c13 : x2 = 3
  · have h := h.2.1 c13
    refine lv_tableIn (tgt := 48) hx hb d_Rp_ofObject_1 (by rw [c13]; decide) (by rw [c13]; decide) (by rw [c13]; rfl) (by decide) ?_
    refine lv_aload_n hx hb d_Rp_ofObject_48 rfl (lv_at hl 0 rfl) ?_
    refine x_get C hI (d := 0) (by decide) (xE0 V _) fd_Rp_12 rfl d_Rp_ofObject_49 ?_
    refine x_get C hI (d := 1) (by decide) (xE1 V _) fd_Rp_34 rfl d_Rp_ofObject_52 ?_
    refine lv_iload_n hx hb d_Rp_ofObject_55 rfl (lv_at hl 1 rfl) ?_
    refine x_calli C hI hl.1 (d := 6) (As := [.int x1]) (rest := []) (by decide) (c_Hea_tagOf h) (xE6 V _) rfl yw_Hea_tagOf ml_Rp_209 rfl rfl ⟨Nat.le_of_ble_eq_true rfl, Nat.le_of_ble_eq_true rfl⟩ rfl rfl (Nat.le_of_ble_eq_true rfl) d_Rp_ofObject_56 ⟨Nat.zero_le _, Nat.zero_le _⟩ (fun r4 σ3 H locs h hI => ?_)
    exact x_iret C hlocks hr hI h d_Rp_ofObject_59
  by_cases c14 : x2 = 4
  · have h := h.2.2.1 c14
    refine lv_tableIn (tgt := 60) hx hb d_Rp_ofObject_1 (by rw [c14]; decide) (by rw [c14]; decide) (by rw [c14]; rfl) (by decide) ?_
    refine lv_aload_n hx hb d_Rp_ofObject_60 rfl (lv_at hl 0 rfl) ?_
    refine x_get C hI (d := 0) (by decide) (xE0 V _) fd_Rp_12 rfl d_Rp_ofObject_61 ?_
    refine x_get C hI (d := 1) (by decide) (xE1 V _) fd_Rp_34 rfl d_Rp_ofObject_64 ?_
    refine lv_iload_n hx hb d_Rp_ofObject_67 rfl (lv_at hl 1 rfl) ?_
    refine x_calli C hI hl.1 (d := 6) (As := [.int x1]) (rest := []) (by decide) (c_Hea_fieldsOf h) (xE6 V _) rfl yw_Hea_fieldsOf ml_Rp_256 rfl rfl ⟨Nat.le_of_ble_eq_true rfl, Nat.le_of_ble_eq_true rfl⟩ rfl rfl (Nat.le_of_ble_eq_true rfl) d_Rp_ofObject_68 ⟨Nat.zero_le _, Nat.zero_le _⟩ (fun r6 σ5 H locs h hI => ?_)
    exact x_iret C hlocks hr hI h d_Rp_ofObject_71
  by_cases c15 : x2 = 5
  · have h := h.2.2.2.1 c15
    refine lv_tableIn (tgt := 72) hx hb d_Rp_ofObject_1 (by rw [c15]; decide) (by rw [c15]; decide) (by rw [c15]; rfl) (by decide) ?_
    refine lv_aload_n hx hb d_Rp_ofObject_72 rfl (lv_at hl 0 rfl) ?_
    refine x_get C hI (d := 0) (by decide) (xE0 V _) fd_Rp_12 rfl d_Rp_ofObject_73 ?_
    refine x_get C hI (d := 1) (by decide) (xE1 V _) fd_Rp_45 rfl d_Rp_ofObject_76 ?_
    refine lv_iload_n hx hb d_Rp_ofObject_79 rfl (lv_at hl 1 rfl) ?_
    refine x_calli C hI hl.1 (d := 7) (As := [.int x1]) (rest := []) (by decide) (c_Reg_ofPlace h) (xE7 V _) rfl yw_Reg_ofPlace ml_Rp_122 rfl rfl ⟨Nat.le_of_ble_eq_true rfl, Nat.le_of_ble_eq_true rfl⟩ rfl rfl (Nat.le_of_ble_eq_true rfl) d_Rp_ofObject_80 ⟨Nat.zero_le _, Nat.zero_le _⟩ (fun r8 σ7 H locs h hI => ?_)
    exact x_iret C hlocks hr hI h d_Rp_ofObject_83
  by_cases c16 : x2 = 6
  · have h := h.2.2.2.2.1 c16
    refine lv_tableIn (tgt := 84) hx hb d_Rp_ofObject_1 (by rw [c16]; decide) (by rw [c16]; decide) (by rw [c16]; rfl) (by decide) ?_
    refine lv_aload_n hx hb d_Rp_ofObject_84 rfl (lv_at hl 0 rfl) ?_
    refine x_get C hI (d := 0) (by decide) (xE0 V _) fd_Rp_12 rfl d_Rp_ofObject_85 ?_
    refine x_get C hI (d := 1) (by decide) (xE1 V _) fd_Rp_154 rfl d_Rp_ofObject_88 ?_
    refine lv_iload_n hx hb d_Rp_ofObject_91 rfl (lv_at hl 1 rfl) ?_
    refine x_calli C hI hl.1 (d := 9) (As := [.int x1]) (rest := []) (by decide) (c_Lin_has_9 h) (xE9 V _) rfl yw_Lin_has ml_Rp_158 rfl rfl ⟨Nat.le_of_ble_eq_true rfl, Nat.le_of_ble_eq_true rfl⟩ rfl rfl (Nat.le_of_ble_eq_true rfl) d_Rp_ofObject_92 ⟨Nat.zero_le _, Nat.zero_le _⟩ (fun r10 σ9 H locs h hI => ?_)
    refine lv_if_eq (tgt := 102) hx hb d_Rp_ofObject_95 (by decide) (fun c11 => ?_) (fun c11 => ?_)
    · have h := h.1 c11
      refine lv_iconst (v := 0) hx hb d_Rp_ofObject_102 (by decide) ?_
      exact x_iret C hlocks hr hI h d_Rp_ofObject_103
    · have h := h.2 c11
      refine lv_iconst (v := 1) hx hb d_Rp_ofObject_98 (by decide) ?_
      refine lv_goto (tgt := 103) hx hb d_Rp_ofObject_99 (by decide) ?_
      exact x_iret C hlocks hr hI h d_Rp_ofObject_103
  have h := h.2.2.2.2.2 c12 c13 c14 c15 c16
  refine lv_tableOut (tgt := 104) hx hb d_Rp_ofObject_1 (by have := x_ne c12 (n := 2) (by decide); have := x_ne c13 (n := 3) (by decide); have := x_ne c14 (n := 4) (by decide); have := x_ne c15 (n := 5) (by decide); have := x_ne c16 (n := 6) (by decide); omega) (by decide) ?_
  refine lv_iconst (v := (-1)) hx hb d_Rp_ofObject_104 (by decide) ?_
  exact x_iret C hlocks hr hI h d_Rp_ofObject_105
def y_Rp_ofField : MethodName := ⟨"RegionPool", "ofField", "(II)I"⟩
abbrev cd_Rp_ofField : ByteArray := prog_1_method_28_code
theorem fd_Rp_119 : xFd R_Rp 119 6 0 := ⟨R_Hea, T_Hea, 1, rfl, in_Hea, by decide, xG_mem 117 (by decide +kernel) (by decide +kernel)⟩
theorem ml_Rp_181 : Cond.methodLink R_Rp 181 y_Val_sortOf ∈ xG := xG_mem 959 (by decide +kernel) (by decide +kernel)
theorem ml_Rp_112 : Cond.methodLink R_Rp 112 y_Val_contentOf ∈ xG := xG_mem 800 (by decide +kernel) (by decide +kernel)
theorem ml_Rp_184 : Cond.methodLink R_Rp 184 y_Val_isReference ∈ xG := xG_mem 783 (by decide +kernel) (by decide +kernel)
def p_Rp_ofField (x1 x2 : Int32) (σ : xS) (Q : Int32 → xS → Prop) : Prop :=
  ((x2 = 0 → p_Val_sortOf_19 x1 σ (fun r2 σ1 => Q r2 σ1)) ∧ (x2 = 1 → p_Val_contentOf_19 x1 σ (fun r4 σ3 => Q r4 σ3)) ∧ (x2 = 2 → p_Val_isReference_19 x1 σ (fun r6 σ5 => ((r6 = 0 → Q (-1) σ5) ∧ (¬ r6 = 0 → p_Val_contentOf_19 x1 σ5 (fun r9 σ8 => p_Hea_tagOf r9 σ8 (fun r11 σ10 => Q r11 σ10)))))) ∧ (¬ x2 = 0 → ¬ x2 = 1 → ¬ x2 = 2 → Q (-1) σ))
abbrev rm_Rp_ofField : Room := { frames := 1, cells := 0, slots := 0, locals := 21 }
theorem d_Rp_ofField_0 : decode cd_Rp_ofField 0 = .ok (.aload_n 0, 1) := by decide +kernel
theorem d_Rp_ofField_1 : decode cd_Rp_ofField 1 = .ok (.getfield 12, 3) := by decide +kernel
theorem d_Rp_ofField_4 : decode cd_Rp_ofField 4 = .ok (.getfield 34, 3) := by decide +kernel
theorem d_Rp_ofField_7 : decode cd_Rp_ofField 7 = .ok (.getfield 119, 3) := by decide +kernel
theorem d_Rp_ofField_10 : decode cd_Rp_ofField 10 = .ok (.astore_n 3, 1) := by decide +kernel
theorem d_Rp_ofField_11 : decode cd_Rp_ofField 11 = .ok (.iload_n 2, 1) := by decide +kernel
theorem d_Rp_ofField_12 : decode cd_Rp_ofField 12 = .ok (.tableswitch 68 0 2 #[28, 34, 40], 28) := by decide +kernel
theorem d_Rp_ofField_40 : decode cd_Rp_ofField 40 = .ok (.aload_n 3, 1) := by decide +kernel
theorem d_Rp_ofField_41 : decode cd_Rp_ofField 41 = .ok (.iload_n 1, 1) := by decide +kernel
theorem d_Rp_ofField_42 : decode cd_Rp_ofField 42 = .ok (.invokevirtual 181, 3) := by decide +kernel
theorem d_Rp_ofField_45 : decode cd_Rp_ofField 45 = .ok (.ireturn, 1) := by decide +kernel
theorem d_Rp_ofField_46 : decode cd_Rp_ofField 46 = .ok (.aload_n 3, 1) := by decide +kernel
theorem d_Rp_ofField_47 : decode cd_Rp_ofField 47 = .ok (.iload_n 1, 1) := by decide +kernel
theorem d_Rp_ofField_48 : decode cd_Rp_ofField 48 = .ok (.invokevirtual 112, 3) := by decide +kernel
theorem d_Rp_ofField_51 : decode cd_Rp_ofField 51 = .ok (.ireturn, 1) := by decide +kernel
theorem d_Rp_ofField_52 : decode cd_Rp_ofField 52 = .ok (.aload_n 3, 1) := by decide +kernel
theorem d_Rp_ofField_53 : decode cd_Rp_ofField 53 = .ok (.iload_n 1, 1) := by decide +kernel
theorem d_Rp_ofField_54 : decode cd_Rp_ofField 54 = .ok (.invokevirtual 184, 3) := by decide +kernel
theorem d_Rp_ofField_57 : decode cd_Rp_ofField 57 = .ok (.ifCond .eq 21, 3) := by decide +kernel
theorem d_Rp_ofField_60 : decode cd_Rp_ofField 60 = .ok (.aload_n 0, 1) := by decide +kernel
theorem d_Rp_ofField_61 : decode cd_Rp_ofField 61 = .ok (.getfield 12, 3) := by decide +kernel
theorem d_Rp_ofField_64 : decode cd_Rp_ofField 64 = .ok (.getfield 34, 3) := by decide +kernel
theorem d_Rp_ofField_67 : decode cd_Rp_ofField 67 = .ok (.aload_n 3, 1) := by decide +kernel
theorem d_Rp_ofField_68 : decode cd_Rp_ofField 68 = .ok (.iload_n 1, 1) := by decide +kernel
theorem d_Rp_ofField_69 : decode cd_Rp_ofField 69 = .ok (.invokevirtual 112, 3) := by decide +kernel
theorem d_Rp_ofField_72 : decode cd_Rp_ofField 72 = .ok (.invokevirtual 209, 3) := by decide +kernel
theorem d_Rp_ofField_75 : decode cd_Rp_ofField 75 = .ok (.goto 4, 3) := by decide +kernel
theorem d_Rp_ofField_78 : decode cd_Rp_ofField 78 = .ok (.iconst (-1), 1) := by decide +kernel
theorem d_Rp_ofField_79 : decode cd_Rp_ofField 79 = .ok (.ireturn, 1) := by decide +kernel
theorem d_Rp_ofField_80 : decode cd_Rp_ofField 80 = .ok (.iconst (-1), 1) := by decide +kernel
theorem d_Rp_ofField_81 : decode cd_Rp_ofField 81 = .ok (.ireturn, 1) := by decide +kernel
set_option maxRecDepth 100000 in
set_option maxHeartbeats 4000000 in
theorem c_Rp_ofField {l : Launch} {V : xV} {σ : xS} {x1 x2 : Int32} {Q : Int32 → xS → Prop} (h : p_Rp_ofField x1 x2 σ Q) : xMi l y_Rp_ofField (.code y_Rp_ofField cd_Rp_ofField 4 (some .int) :: xG) rm_Rp_ofField V [.ref (V.2.2 0), .int x1, .int x2] σ Q := by
  refine x_begini (by decide) (Nat.le_of_ble_eq_true rfl) (fun p e s m below meth c ls C hlocks hr hI hl => ?_)
  have C : xC p s m _ c cd_Rp_ofField 4 R_Rp V := C
  have hx := C.1
  have hb := C.2.1
  have hl : lv_has ls 4 [(0, .ref (V.2.2 0)), (1, .int x1), (2, .int x2)] := hl
  unfold p_Rp_ofField at h
  refine lv_aload_n hx hb d_Rp_ofField_0 rfl (lv_at hl 0 rfl) ?_
  refine x_get C hI (d := 0) (by decide) (xE0 V _) fd_Rp_12 rfl d_Rp_ofField_1 ?_
  refine x_get C hI (d := 1) (by decide) (xE1 V _) fd_Rp_34 rfl d_Rp_ofField_4 ?_
  refine x_get C hI (d := 6) (by decide) (xE6 V _) fd_Rp_119 rfl d_Rp_ofField_7 ?_
  refine lv_astore_n (lv' := [(3, .ref (V.2.2 19)), (0, .ref (V.2.2 0)), (1, .int x1), (2, .int x2)]) hx hb d_Rp_ofField_10 rfl hl (by decide) rfl (fun ls hl => ?_)
  refine lv_iload_n hx hb d_Rp_ofField_11 rfl (lv_at hl 3 rfl) ?_
  by_cases c12 : x2 = 0
  · have h := h.1 c12
    refine lv_tableIn (tgt := 40) hx hb d_Rp_ofField_12 (by rw [c12]; decide) (by rw [c12]; decide) (by rw [c12]; rfl) (by decide) ?_
    refine lv_aload_n hx hb d_Rp_ofField_40 rfl (lv_at hl 0 rfl) ?_
    refine lv_iload_n hx hb d_Rp_ofField_41 rfl (lv_at hl 2 rfl) ?_
    refine x_calli C hI hl.1 (d := 19) (As := [.int x1]) (rest := []) (by decide) (c_Val_sortOf_19 h) (xE19 V _) rfl yw_Val_sortOf ml_Rp_181 rfl rfl ⟨Nat.le_of_ble_eq_true rfl, Nat.le_of_ble_eq_true rfl⟩ rfl rfl (Nat.le_of_ble_eq_true rfl) d_Rp_ofField_42 ⟨Nat.zero_le _, Nat.zero_le _⟩ (fun r2 σ1 H locs h hI => ?_)
    exact x_iret C hlocks hr hI h d_Rp_ofField_45
  by_cases c13 : x2 = 1
  · have h := h.2.1 c13
    refine lv_tableIn (tgt := 46) hx hb d_Rp_ofField_12 (by rw [c13]; decide) (by rw [c13]; decide) (by rw [c13]; rfl) (by decide) ?_
    refine lv_aload_n hx hb d_Rp_ofField_46 rfl (lv_at hl 0 rfl) ?_
    refine lv_iload_n hx hb d_Rp_ofField_47 rfl (lv_at hl 2 rfl) ?_
    refine x_calli C hI hl.1 (d := 19) (As := [.int x1]) (rest := []) (by decide) (c_Val_contentOf_19 h) (xE19 V _) rfl yw_Val_contentOf ml_Rp_112 rfl rfl ⟨Nat.le_of_ble_eq_true rfl, Nat.le_of_ble_eq_true rfl⟩ rfl rfl (Nat.le_of_ble_eq_true rfl) d_Rp_ofField_48 ⟨Nat.zero_le _, Nat.zero_le _⟩ (fun r4 σ3 H locs h hI => ?_)
    exact x_iret C hlocks hr hI h d_Rp_ofField_51
  by_cases c14 : x2 = 2
  · have h := h.2.2.1 c14
    refine lv_tableIn (tgt := 52) hx hb d_Rp_ofField_12 (by rw [c14]; decide) (by rw [c14]; decide) (by rw [c14]; rfl) (by decide) ?_
    refine lv_aload_n hx hb d_Rp_ofField_52 rfl (lv_at hl 0 rfl) ?_
    refine lv_iload_n hx hb d_Rp_ofField_53 rfl (lv_at hl 2 rfl) ?_
    refine x_calli C hI hl.1 (d := 19) (As := [.int x1]) (rest := []) (by decide) (c_Val_isReference_19 h) (xE19 V _) rfl yw_Val_isReference ml_Rp_184 rfl rfl ⟨Nat.le_of_ble_eq_true rfl, Nat.le_of_ble_eq_true rfl⟩ rfl rfl (Nat.le_of_ble_eq_true rfl) d_Rp_ofField_54 ⟨Nat.zero_le _, Nat.zero_le _⟩ (fun r6 σ5 H locs h hI => ?_)
    refine lv_if_eq (tgt := 78) hx hb d_Rp_ofField_57 (by decide) (fun c7 => ?_) (fun c7 => ?_)
    · have h := h.1 c7
      refine lv_iconst (v := (-1)) hx hb d_Rp_ofField_78 (by decide) ?_
      exact x_iret C hlocks hr hI h d_Rp_ofField_79
    · have h := h.2 c7
      refine lv_aload_n hx hb d_Rp_ofField_60 rfl (lv_at hl 1 rfl) ?_
      refine x_get C hI (d := 0) (by decide) (xE0 V _) fd_Rp_12 rfl d_Rp_ofField_61 ?_
      refine x_get C hI (d := 1) (by decide) (xE1 V _) fd_Rp_34 rfl d_Rp_ofField_64 ?_
      refine lv_aload_n hx hb d_Rp_ofField_67 rfl (lv_at hl 0 rfl) ?_
      refine lv_iload_n hx hb d_Rp_ofField_68 rfl (lv_at hl 2 rfl) ?_
      refine x_calli C hI hl.1 (d := 19) (As := [.int x1]) (rest := [.ref (V.2.2 6)]) (by decide) (c_Val_contentOf_19 h) (xE19 V _) rfl yw_Val_contentOf ml_Rp_112 rfl rfl ⟨Nat.le_of_ble_eq_true rfl, Nat.le_of_ble_eq_true rfl⟩ rfl rfl (Nat.le_of_ble_eq_true rfl) d_Rp_ofField_69 ⟨Nat.zero_le _, Nat.zero_le _⟩ (fun r9 σ8 H locs h hI => ?_)
      refine x_calli C hI hl.1 (d := 6) (As := [.int r9]) (rest := []) (by decide) (c_Hea_tagOf h) (xE6 V _) rfl yw_Hea_tagOf ml_Rp_209 rfl rfl ⟨Nat.le_of_ble_eq_true rfl, Nat.le_of_ble_eq_true rfl⟩ rfl rfl (Nat.le_of_ble_eq_true rfl) d_Rp_ofField_72 ⟨Nat.zero_le _, Nat.zero_le _⟩ (fun r11 σ10 H locs h hI => ?_)
      refine lv_goto (tgt := 79) hx hb d_Rp_ofField_75 (by decide) ?_
      exact x_iret C hlocks hr hI h d_Rp_ofField_79
  have h := h.2.2.2 c12 c13 c14
  refine lv_tableOut (tgt := 80) hx hb d_Rp_ofField_12 (by have := x_ne c12 (n := 0) (by decide); have := x_ne c13 (n := 1) (by decide); have := x_ne c14 (n := 2) (by decide); omega) (by decide) ?_
  refine lv_iconst (v := (-1)) hx hb d_Rp_ofField_80 (by decide) ?_
  exact x_iret C hlocks hr hI h d_Rp_ofField_81
