def y_Rp_collect : MethodName := ⟨"RegionPool", "collect", "(I)I"⟩
abbrev cd_Rp_collect : ByteArray := prog_1_method_4_code
def y_Rp_checkRegion : MethodName := ⟨"RegionPool", "checkRegion", "(I)V"⟩
abbrev cd_Rp_checkRegion : ByteArray := prog_1_method_24_code
def p_Rp_checkRegion (x1 : Int32) (σ : xS) (Q : xS → Prop) : Prop :=
  p_Reg_has x1 σ (fun r2 σ1 => ((¬ r2 = 0 → Q σ1) ∧ (r2 = 0 → False)))
abbrev rm_Rp_checkRegion : Room := { frames := 1, cells := 0, slots := 0, locals := 21 }
theorem d_Rp_checkRegion_0 : decode cd_Rp_checkRegion 0 = .ok (.aload_n 0, 1) := by decide +kernel
theorem d_Rp_checkRegion_1 : decode cd_Rp_checkRegion 1 = .ok (.getfield 12, 3) := by decide +kernel
theorem d_Rp_checkRegion_4 : decode cd_Rp_checkRegion 4 = .ok (.getfield 45, 3) := by decide +kernel
theorem d_Rp_checkRegion_7 : decode cd_Rp_checkRegion 7 = .ok (.iload_n 1, 1) := by decide +kernel
theorem d_Rp_checkRegion_8 : decode cd_Rp_checkRegion 8 = .ok (.invokevirtual 193, 3) := by decide +kernel
theorem d_Rp_checkRegion_11 : decode cd_Rp_checkRegion 11 = .ok (.ifCond .ne 13, 3) := by decide +kernel
theorem d_Rp_checkRegion_14 : decode cd_Rp_checkRegion 14 = .ok (.new 239, 3) := by decide +kernel
theorem d_Rp_checkRegion_17 : decode cd_Rp_checkRegion 17 = .ok (.dup, 1) := by decide +kernel
theorem d_Rp_checkRegion_18 : decode cd_Rp_checkRegion 18 = .ok (.ldc 241, 2) := by decide +kernel
theorem d_Rp_checkRegion_20 : decode cd_Rp_checkRegion 20 = .ok (.invokespecial 243, 3) := by decide +kernel
theorem d_Rp_checkRegion_23 : decode cd_Rp_checkRegion 23 = .ok (.athrow, 1) := by decide +kernel
theorem d_Rp_checkRegion_24 : decode cd_Rp_checkRegion 24 = .ok (.return_, 1) := by decide +kernel
set_option maxRecDepth 100000 in
set_option maxHeartbeats 4000000 in
theorem c_Rp_checkRegion {l : Launch} {V : xV} {σ : xS} {x1 : Int32} {Q : xS → Prop} (h : p_Rp_checkRegion x1 σ Q) : xMv l y_Rp_checkRegion (.code y_Rp_checkRegion cd_Rp_checkRegion 2 none :: xG) rm_Rp_checkRegion V [.ref (V.2.2 0), .int x1] σ Q := by
  refine x_beginv (by decide) (Nat.le_of_ble_eq_true rfl) (fun p e s m below meth c ls C hlocks hr hI hl => ?_)
  have C : xC p s m _ c cd_Rp_checkRegion 2 R_Rp V := C
  have hx := C.1
  have hb := C.2.1
  have hl : lv_has ls 2 [(0, .ref (V.2.2 0)), (1, .int x1)] := hl
  unfold p_Rp_checkRegion at h
  refine lv_aload_n hx hb d_Rp_checkRegion_0 rfl (lv_at hl 0 rfl) ?_
  refine x_get C hI (d := 0) (by decide) (xE0 V _) fd_Rp_12 rfl d_Rp_checkRegion_1 ?_
  refine x_get C hI (d := 1) (by decide) (xE1 V _) fd_Rp_45 rfl d_Rp_checkRegion_4 ?_
  refine lv_iload_n hx hb d_Rp_checkRegion_7 rfl (lv_at hl 1 rfl) ?_
  refine x_calli C hI hl.1 (d := 7) (As := [.int x1]) (rest := []) (by decide) (c_Reg_has h) (xE7 V _) rfl yw_Reg_has ml_Rp_193 rfl rfl ⟨Nat.le_of_ble_eq_true rfl, Nat.le_of_ble_eq_true rfl⟩ rfl rfl (Nat.le_of_ble_eq_true rfl) d_Rp_checkRegion_8 ⟨Nat.zero_le _, Nat.zero_le _⟩ (fun r2 σ1 H locs h hI => ?_)
  refine lv_if_ne (tgt := 24) hx hb d_Rp_checkRegion_11 (by decide) (fun c3 => ?_) (fun c3 => ?_)
  · have h := h.1 c3
    exact x_vret C hlocks hr hI h d_Rp_checkRegion_24
  · have h := h.2 c3
    exact h.elim
theorem yw_Rp_checkRegion : xY y_Rp_checkRegion cd_Rp_checkRegion 2 none 1 := ⟨xG_mem 465 (by decide +kernel) (by decide +kernel), xG_mem 2 (by decide +kernel) (by decide +kernel), xG_mem 54 (by decide +kernel) (by decide +kernel), xG_mem 466 (by decide +kernel) (by decide +kernel), by decide, by decide, by decide +kernel⟩
theorem ml_Rp_65 : Cond.methodLink R_Rp 65 y_Rp_checkRegion ∈ xG := xG_mem 463 (by decide +kernel) (by decide +kernel)
def p_Rp_collect (x1 : Int32) (σ : xS) (Q : Int32 → xS → Prop) : Prop :=
  p_Rp_checkRegion x1 σ (fun σ1 => p_Col_run x1 σ1 (fun r3 σ2 => Q r3 σ2))
abbrev rm_Rp_collect : Room := { frames := 6, cells := 0, slots := 0, locals := 139 }
theorem d_Rp_collect_0 : decode cd_Rp_collect 0 = .ok (.aload_n 0, 1) := by decide +kernel
theorem d_Rp_collect_1 : decode cd_Rp_collect 1 = .ok (.iload_n 1, 1) := by decide +kernel
theorem d_Rp_collect_2 : decode cd_Rp_collect 2 = .ok (.invokevirtual 65, 3) := by decide +kernel
theorem d_Rp_collect_5 : decode cd_Rp_collect 5 = .ok (.aload_n 0, 1) := by decide +kernel
theorem d_Rp_collect_6 : decode cd_Rp_collect 6 = .ok (.getfield 21, 3) := by decide +kernel
theorem d_Rp_collect_9 : decode cd_Rp_collect 9 = .ok (.iload_n 1, 1) := by decide +kernel
theorem d_Rp_collect_10 : decode cd_Rp_collect 10 = .ok (.invokevirtual 68, 3) := by decide +kernel
theorem d_Rp_collect_13 : decode cd_Rp_collect 13 = .ok (.ireturn, 1) := by decide +kernel
set_option maxRecDepth 100000 in
set_option maxHeartbeats 4000000 in
theorem c_Rp_collect {l : Launch} {V : xV} {σ : xS} {x1 : Int32} {Q : Int32 → xS → Prop} (h : p_Rp_collect x1 σ Q) : xMi l y_Rp_collect (.code y_Rp_collect cd_Rp_collect 2 (some .int) :: xG) rm_Rp_collect V [.ref (V.2.2 0), .int x1] σ Q := by
  refine x_begini (by decide) (Nat.le_of_ble_eq_true rfl) (fun p e s m below meth c ls C hlocks hr hI hl => ?_)
  have C : xC p s m _ c cd_Rp_collect 2 R_Rp V := C
  have hx := C.1
  have hb := C.2.1
  have hl : lv_has ls 2 [(0, .ref (V.2.2 0)), (1, .int x1)] := hl
  unfold p_Rp_collect at h
  refine lv_aload_n hx hb d_Rp_collect_0 rfl (lv_at hl 0 rfl) ?_
  refine lv_iload_n hx hb d_Rp_collect_1 rfl (lv_at hl 1 rfl) ?_
  refine x_callv C hI hl.1 (d := 0) (As := [.int x1]) (rest := []) (by decide) (c_Rp_checkRegion h) (xE0 V _) rfl yw_Rp_checkRegion ml_Rp_65 rfl rfl ⟨Nat.le_of_ble_eq_true rfl, Nat.le_of_ble_eq_true rfl⟩ rfl rfl (Nat.le_of_ble_eq_true rfl) d_Rp_collect_2 ⟨Nat.zero_le _, Nat.zero_le _⟩ (fun σ1 H locs h hI => ?_)
  refine lv_aload_n hx hb d_Rp_collect_5 rfl (lv_at hl 0 rfl) ?_
  refine x_get C hI (d := 0) (by decide) (xE0 V _) fd_Rp_21 rfl d_Rp_collect_6 ?_
  refine lv_iload_n hx hb d_Rp_collect_9 rfl (lv_at hl 1 rfl) ?_
  refine x_calli C hI hl.1 (d := 2) (As := [.int x1]) (rest := []) (by decide) (c_Col_run h) (xE2 V _) rfl yw_Col_run ml_Rp_68 rfl rfl ⟨Nat.le_of_ble_eq_true rfl, Nat.le_of_ble_eq_true rfl⟩ rfl rfl (Nat.le_of_ble_eq_true rfl) d_Rp_collect_10 ⟨Nat.zero_le _, Nat.zero_le _⟩ (fun r3 σ2 H locs h hI => ?_)
  exact x_iret C hlocks hr hI h d_Rp_collect_13
def y_Rp_clear : MethodName := ⟨"RegionPool", "clear", "(I)V"⟩
abbrev cd_Rp_clear : ByteArray := prog_1_method_5_code
def y_Rp_checkRoot : MethodName := ⟨"RegionPool", "checkRoot", "(I)V"⟩
abbrev cd_Rp_checkRoot : ByteArray := prog_1_method_22_code
def p_Rp_checkRoot_J10 (Q : xS → Prop) (σ : xS) : Prop :=
  False
def p_Rp_checkRoot (x1 : Int32) (σ : xS) (Q : xS → Prop) : Prop :=
  ((x1 < 0 → p_Rp_checkRoot_J10 Q σ) ∧ (¬ x1 < 0 → ((x1 < 16 → Q σ) ∧ (¬ x1 < 16 → p_Rp_checkRoot_J10 Q σ))))
abbrev rm_Rp_checkRoot : Room := { frames := 0, cells := 0, slots := 0, locals := 0 }
theorem d_Rp_checkRoot_0 : decode cd_Rp_checkRoot 0 = .ok (.iload_n 1, 1) := by decide +kernel
theorem d_Rp_checkRoot_1 : decode cd_Rp_checkRoot 1 = .ok (.ifCond .lt 9, 3) := by decide +kernel
theorem d_Rp_checkRoot_4 : decode cd_Rp_checkRoot 4 = .ok (.iload_n 1, 1) := by decide +kernel
theorem d_Rp_checkRoot_5 : decode cd_Rp_checkRoot 5 = .ok (.bipush 16, 2) := by decide +kernel
theorem d_Rp_checkRoot_7 : decode cd_Rp_checkRoot 7 = .ok (.if_icmp .lt 13, 3) := by decide +kernel
theorem d_Rp_checkRoot_10 : decode cd_Rp_checkRoot 10 = .ok (.new 227, 3) := by decide +kernel
theorem d_Rp_checkRoot_13 : decode cd_Rp_checkRoot 13 = .ok (.dup, 1) := by decide +kernel
theorem d_Rp_checkRoot_14 : decode cd_Rp_checkRoot 14 = .ok (.ldc 229, 2) := by decide +kernel
theorem d_Rp_checkRoot_16 : decode cd_Rp_checkRoot 16 = .ok (.invokespecial 231, 3) := by decide +kernel
theorem d_Rp_checkRoot_19 : decode cd_Rp_checkRoot 19 = .ok (.athrow, 1) := by decide +kernel
theorem d_Rp_checkRoot_20 : decode cd_Rp_checkRoot 20 = .ok (.return_, 1) := by decide +kernel
set_option maxRecDepth 100000 in
set_option maxHeartbeats 4000000 in
theorem t_Rp_checkRoot_J10 {p : Program} {l : Launch} {e : Env} {s : State} {m : MethodId} {args : Array Value} {below : List Frame} {meth : Method} {c : Code} {V : xV} (C : xC p s m args c cd_Rp_checkRoot 2 R_Rp V) (hlocks : meth.locks = false) (hr : meth.sig.returnType = none) {Q : xS → Prop} {σ : xS} {H : Heap} {locs : List Loc} {ls : Array Slot} (h : p_Rp_checkRoot_J10 Q σ) (hI : xI V s.heap σ H locs) (hl : lv_has ls 2 []) : W p l e rm_Rp_checkRoot s m args below meth c H locs 0 0 (xZv below V args s Q) (F0 m 10 ls []) := by
  have hx := C.1
  have hb := C.2.1
  unfold p_Rp_checkRoot_J10 at h
  exact h.elim
set_option maxRecDepth 100000 in
set_option maxHeartbeats 4000000 in
theorem c_Rp_checkRoot {l : Launch} {V : xV} {σ : xS} {x1 : Int32} {Q : xS → Prop} (h : p_Rp_checkRoot x1 σ Q) : xMv l y_Rp_checkRoot (.code y_Rp_checkRoot cd_Rp_checkRoot 2 none :: xG) rm_Rp_checkRoot V [.ref (V.2.2 0), .int x1] σ Q := by
  refine x_beginv (by decide) (Nat.le_of_ble_eq_true rfl) (fun p e s m below meth c ls C hlocks hr hI hl => ?_)
  have C : xC p s m _ c cd_Rp_checkRoot 2 R_Rp V := C
  have hx := C.1
  have hb := C.2.1
  have hl : lv_has ls 2 [(0, .ref (V.2.2 0)), (1, .int x1)] := hl
  unfold p_Rp_checkRoot at h
  refine lv_iload_n hx hb d_Rp_checkRoot_0 rfl (lv_at hl 1 rfl) ?_
  refine lv_if_lt (tgt := 10) hx hb d_Rp_checkRoot_1 (by decide) (fun c1 => ?_) (fun c1 => ?_)
  · have h := h.1 c1
    exact t_Rp_checkRoot_J10 C hlocks hr h hI (lv_sub hl [] rfl)
  · have h := h.2 c1
    refine lv_iload_n hx hb d_Rp_checkRoot_4 rfl (lv_at hl 1 rfl) ?_
    refine lv_bipush (v := 16) hx hb d_Rp_checkRoot_5 (by decide) ?_
    refine lv_icmp_lt (tgt := 20) hx hb d_Rp_checkRoot_7 (by decide) (fun c2 => ?_) (fun c2 => ?_)
    · have h := h.1 c2
      exact x_vret C hlocks hr hI h d_Rp_checkRoot_20
    · have h := h.2 c2
      exact t_Rp_checkRoot_J10 C hlocks hr h hI (lv_sub hl [] rfl)
theorem yw_Rp_checkRoot : xY y_Rp_checkRoot cd_Rp_checkRoot 2 none 1 := ⟨xG_mem 691 (by decide +kernel) (by decide +kernel), xG_mem 15 (by decide +kernel) (by decide +kernel), xG_mem 54 (by decide +kernel) (by decide +kernel), xG_mem 692 (by decide +kernel) (by decide +kernel), by decide, by decide, by decide +kernel⟩
theorem ml_Rp_72 : Cond.methodLink R_Rp 72 y_Rp_checkRoot ∈ xG := xG_mem 689 (by decide +kernel) (by decide +kernel)
theorem fd_Rp_75 : xFd R_Rp 75 1 0 := ⟨R_Mem, T_Mem, 6, rfl, in_Mem, by decide, xG_mem 162 (by decide +kernel) (by decide +kernel)⟩
theorem ml_Rp_79 : Cond.methodLink R_Rp 79 y_Val_setNil ∈ xG := xG_mem 709 (by decide +kernel) (by decide +kernel)
def p_Rp_clear (x1 : Int32) (σ : xS) (Q : xS → Prop) : Prop :=
  p_Rp_checkRoot x1 σ (fun σ1 => p_Val_setNil_5 x1 σ1 (fun σ2 => Q σ2))
abbrev rm_Rp_clear : Room := { frames := 2, cells := 0, slots := 0, locals := 44 }
theorem d_Rp_clear_0 : decode cd_Rp_clear 0 = .ok (.aload_n 0, 1) := by decide +kernel
theorem d_Rp_clear_1 : decode cd_Rp_clear 1 = .ok (.iload_n 1, 1) := by decide +kernel
theorem d_Rp_clear_2 : decode cd_Rp_clear 2 = .ok (.invokevirtual 72, 3) := by decide +kernel
theorem d_Rp_clear_5 : decode cd_Rp_clear 5 = .ok (.aload_n 0, 1) := by decide +kernel
theorem d_Rp_clear_6 : decode cd_Rp_clear 6 = .ok (.getfield 12, 3) := by decide +kernel
theorem d_Rp_clear_9 : decode cd_Rp_clear 9 = .ok (.getfield 75, 3) := by decide +kernel
theorem d_Rp_clear_12 : decode cd_Rp_clear 12 = .ok (.iload_n 1, 1) := by decide +kernel
theorem d_Rp_clear_13 : decode cd_Rp_clear 13 = .ok (.invokevirtual 79, 3) := by decide +kernel
theorem d_Rp_clear_16 : decode cd_Rp_clear 16 = .ok (.return_, 1) := by decide +kernel
set_option maxRecDepth 100000 in
set_option maxHeartbeats 4000000 in
theorem c_Rp_clear {l : Launch} {V : xV} {σ : xS} {x1 : Int32} {Q : xS → Prop} (h : p_Rp_clear x1 σ Q) : xMv l y_Rp_clear (.code y_Rp_clear cd_Rp_clear 2 none :: xG) rm_Rp_clear V [.ref (V.2.2 0), .int x1] σ Q := by
  refine x_beginv (by decide) (Nat.le_of_ble_eq_true rfl) (fun p e s m below meth c ls C hlocks hr hI hl => ?_)
  have C : xC p s m _ c cd_Rp_clear 2 R_Rp V := C
  have hx := C.1
  have hb := C.2.1
  have hl : lv_has ls 2 [(0, .ref (V.2.2 0)), (1, .int x1)] := hl
  unfold p_Rp_clear at h
  refine lv_aload_n hx hb d_Rp_clear_0 rfl (lv_at hl 0 rfl) ?_
  refine lv_iload_n hx hb d_Rp_clear_1 rfl (lv_at hl 1 rfl) ?_
  refine x_callv C hI hl.1 (d := 0) (As := [.int x1]) (rest := []) (by decide) (c_Rp_checkRoot h) (xE0 V _) rfl yw_Rp_checkRoot ml_Rp_72 rfl rfl ⟨Nat.le_of_ble_eq_true rfl, Nat.le_of_ble_eq_true rfl⟩ rfl rfl (Nat.le_of_ble_eq_true rfl) d_Rp_clear_2 ⟨Nat.zero_le _, Nat.zero_le _⟩ (fun σ1 H locs h hI => ?_)
  refine lv_aload_n hx hb d_Rp_clear_5 rfl (lv_at hl 0 rfl) ?_
  refine x_get C hI (d := 0) (by decide) (xE0 V _) fd_Rp_12 rfl d_Rp_clear_6 ?_
  refine x_get C hI (d := 1) (by decide) (xE1 V _) fd_Rp_75 rfl d_Rp_clear_9 ?_
  refine lv_iload_n hx hb d_Rp_clear_12 rfl (lv_at hl 1 rfl) ?_
  refine x_callv C hI hl.1 (d := 5) (As := [.int x1]) (rest := []) (by decide) (c_Val_setNil_5 h) (xE5 V _) rfl yw_Val_setNil ml_Rp_79 rfl rfl ⟨Nat.le_of_ble_eq_true rfl, Nat.le_of_ble_eq_true rfl⟩ rfl rfl (Nat.le_of_ble_eq_true rfl) d_Rp_clear_13 ⟨Nat.zero_le _, Nat.zero_le _⟩ (fun σ2 H locs h hI => ?_)
  exact x_vret C hlocks hr hI h d_Rp_clear_16
def y_Rp_number : MethodName := ⟨"RegionPool", "number", "(II)V"⟩
abbrev cd_Rp_number : ByteArray := prog_1_method_6_code
theorem yw_Val_setNumber : xY y_Val_setNumber cd_Val_setNumber 3 none 2 := ⟨xG_mem 718 (by decide +kernel) (by decide +kernel), xG_mem 719 (by decide +kernel) (by decide +kernel), xG_mem 56 (by decide +kernel) (by decide +kernel), xG_mem 720 (by decide +kernel) (by decide +kernel), by decide, by decide, by decide +kernel⟩
theorem ml_Rp_84 : Cond.methodLink R_Rp 84 y_Val_setNumber ∈ xG := xG_mem 717 (by decide +kernel) (by decide +kernel)
def p_Rp_number (x1 x2 : Int32) (σ : xS) (Q : xS → Prop) : Prop :=
  p_Rp_checkRoot x1 σ (fun σ1 => p_Val_setNumber_5 x1 x2 σ1 (fun σ2 => Q σ2))
abbrev rm_Rp_number : Room := { frames := 2, cells := 0, slots := 0, locals := 45 }
theorem d_Rp_number_0 : decode cd_Rp_number 0 = .ok (.aload_n 0, 1) := by decide +kernel
theorem d_Rp_number_1 : decode cd_Rp_number 1 = .ok (.iload_n 1, 1) := by decide +kernel
theorem d_Rp_number_2 : decode cd_Rp_number 2 = .ok (.invokevirtual 72, 3) := by decide +kernel
theorem d_Rp_number_5 : decode cd_Rp_number 5 = .ok (.aload_n 0, 1) := by decide +kernel
theorem d_Rp_number_6 : decode cd_Rp_number 6 = .ok (.getfield 12, 3) := by decide +kernel
theorem d_Rp_number_9 : decode cd_Rp_number 9 = .ok (.getfield 75, 3) := by decide +kernel
theorem d_Rp_number_12 : decode cd_Rp_number 12 = .ok (.iload_n 1, 1) := by decide +kernel
theorem d_Rp_number_13 : decode cd_Rp_number 13 = .ok (.iload_n 2, 1) := by decide +kernel
theorem d_Rp_number_14 : decode cd_Rp_number 14 = .ok (.invokevirtual 84, 3) := by decide +kernel
theorem d_Rp_number_17 : decode cd_Rp_number 17 = .ok (.return_, 1) := by decide +kernel
set_option maxRecDepth 100000 in
set_option maxHeartbeats 4000000 in
theorem c_Rp_number {l : Launch} {V : xV} {σ : xS} {x1 x2 : Int32} {Q : xS → Prop} (h : p_Rp_number x1 x2 σ Q) : xMv l y_Rp_number (.code y_Rp_number cd_Rp_number 3 none :: xG) rm_Rp_number V [.ref (V.2.2 0), .int x1, .int x2] σ Q := by
  refine x_beginv (by decide) (Nat.le_of_ble_eq_true rfl) (fun p e s m below meth c ls C hlocks hr hI hl => ?_)
  have C : xC p s m _ c cd_Rp_number 3 R_Rp V := C
  have hx := C.1
  have hb := C.2.1
  have hl : lv_has ls 3 [(0, .ref (V.2.2 0)), (1, .int x1), (2, .int x2)] := hl
  unfold p_Rp_number at h
  refine lv_aload_n hx hb d_Rp_number_0 rfl (lv_at hl 0 rfl) ?_
  refine lv_iload_n hx hb d_Rp_number_1 rfl (lv_at hl 1 rfl) ?_
  refine x_callv C hI hl.1 (d := 0) (As := [.int x1]) (rest := []) (by decide) (c_Rp_checkRoot h) (xE0 V _) rfl yw_Rp_checkRoot ml_Rp_72 rfl rfl ⟨Nat.le_of_ble_eq_true rfl, Nat.le_of_ble_eq_true rfl⟩ rfl rfl (Nat.le_of_ble_eq_true rfl) d_Rp_number_2 ⟨Nat.zero_le _, Nat.zero_le _⟩ (fun σ1 H locs h hI => ?_)
  refine lv_aload_n hx hb d_Rp_number_5 rfl (lv_at hl 0 rfl) ?_
  refine x_get C hI (d := 0) (by decide) (xE0 V _) fd_Rp_12 rfl d_Rp_number_6 ?_
  refine x_get C hI (d := 1) (by decide) (xE1 V _) fd_Rp_75 rfl d_Rp_number_9 ?_
  refine lv_iload_n hx hb d_Rp_number_12 rfl (lv_at hl 1 rfl) ?_
  refine lv_iload_n hx hb d_Rp_number_13 rfl (lv_at hl 2 rfl) ?_
  refine x_callv C hI hl.1 (d := 5) (As := [.int x1, .int x2]) (rest := []) (by decide) (c_Val_setNumber_5 h) (xE5 V _) rfl yw_Val_setNumber ml_Rp_84 rfl rfl ⟨Nat.le_of_ble_eq_true rfl, Nat.le_of_ble_eq_true rfl⟩ rfl rfl (Nat.le_of_ble_eq_true rfl) d_Rp_number_14 ⟨Nat.zero_le _, Nat.zero_le _⟩ (fun σ2 H locs h hI => ?_)
  exact x_vret C hlocks hr hI h d_Rp_number_17
def y_Rp_move : MethodName := ⟨"RegionPool", "move", "(II)V"⟩
abbrev cd_Rp_move : ByteArray := prog_1_method_7_code
theorem ml_Rp_88 : Cond.methodLink R_Rp 88 y_Val_take ∈ xG := xG_mem 728 (by decide +kernel) (by decide +kernel)
def p_Rp_move (x1 x2 : Int32) (σ : xS) (Q : xS → Prop) : Prop :=
  p_Rp_checkRoot x1 σ (fun σ1 => p_Rp_checkRoot x2 σ1 (fun σ2 => p_Val_take_5_5 x1 x2 σ2 (fun σ3 => Q σ3)))
abbrev rm_Rp_move : Room := { frames := 2, cells := 0, slots := 0, locals := 46 }
theorem d_Rp_move_0 : decode cd_Rp_move 0 = .ok (.aload_n 0, 1) := by decide +kernel
theorem d_Rp_move_1 : decode cd_Rp_move 1 = .ok (.iload_n 1, 1) := by decide +kernel
theorem d_Rp_move_2 : decode cd_Rp_move 2 = .ok (.invokevirtual 72, 3) := by decide +kernel
theorem d_Rp_move_5 : decode cd_Rp_move 5 = .ok (.aload_n 0, 1) := by decide +kernel
theorem d_Rp_move_6 : decode cd_Rp_move 6 = .ok (.iload_n 2, 1) := by decide +kernel
theorem d_Rp_move_7 : decode cd_Rp_move 7 = .ok (.invokevirtual 72, 3) := by decide +kernel
theorem d_Rp_move_10 : decode cd_Rp_move 10 = .ok (.aload_n 0, 1) := by decide +kernel
theorem d_Rp_move_11 : decode cd_Rp_move 11 = .ok (.getfield 12, 3) := by decide +kernel
theorem d_Rp_move_14 : decode cd_Rp_move 14 = .ok (.getfield 75, 3) := by decide +kernel
theorem d_Rp_move_17 : decode cd_Rp_move 17 = .ok (.iload_n 1, 1) := by decide +kernel
theorem d_Rp_move_18 : decode cd_Rp_move 18 = .ok (.aload_n 0, 1) := by decide +kernel
theorem d_Rp_move_19 : decode cd_Rp_move 19 = .ok (.getfield 12, 3) := by decide +kernel
theorem d_Rp_move_22 : decode cd_Rp_move 22 = .ok (.getfield 75, 3) := by decide +kernel
theorem d_Rp_move_25 : decode cd_Rp_move 25 = .ok (.iload_n 2, 1) := by decide +kernel
theorem d_Rp_move_26 : decode cd_Rp_move 26 = .ok (.invokevirtual 88, 3) := by decide +kernel
theorem d_Rp_move_29 : decode cd_Rp_move 29 = .ok (.return_, 1) := by decide +kernel
set_option maxRecDepth 100000 in
set_option maxHeartbeats 4000000 in
theorem c_Rp_move {l : Launch} {V : xV} {σ : xS} {x1 x2 : Int32} {Q : xS → Prop} (h : p_Rp_move x1 x2 σ Q) : xMv l y_Rp_move (.code y_Rp_move cd_Rp_move 3 none :: xG) rm_Rp_move V [.ref (V.2.2 0), .int x1, .int x2] σ Q := by
  refine x_beginv (by decide) (Nat.le_of_ble_eq_true rfl) (fun p e s m below meth c ls C hlocks hr hI hl => ?_)
  have C : xC p s m _ c cd_Rp_move 3 R_Rp V := C
  have hx := C.1
  have hb := C.2.1
  have hl : lv_has ls 3 [(0, .ref (V.2.2 0)), (1, .int x1), (2, .int x2)] := hl
  unfold p_Rp_move at h
  refine lv_aload_n hx hb d_Rp_move_0 rfl (lv_at hl 0 rfl) ?_
  refine lv_iload_n hx hb d_Rp_move_1 rfl (lv_at hl 1 rfl) ?_
  refine x_callv C hI hl.1 (d := 0) (As := [.int x1]) (rest := []) (by decide) (c_Rp_checkRoot h) (xE0 V _) rfl yw_Rp_checkRoot ml_Rp_72 rfl rfl ⟨Nat.le_of_ble_eq_true rfl, Nat.le_of_ble_eq_true rfl⟩ rfl rfl (Nat.le_of_ble_eq_true rfl) d_Rp_move_2 ⟨Nat.zero_le _, Nat.zero_le _⟩ (fun σ1 H locs h hI => ?_)
  refine lv_aload_n hx hb d_Rp_move_5 rfl (lv_at hl 0 rfl) ?_
  refine lv_iload_n hx hb d_Rp_move_6 rfl (lv_at hl 2 rfl) ?_
  refine x_callv C hI hl.1 (d := 0) (As := [.int x2]) (rest := []) (by decide) (c_Rp_checkRoot h) (xE0 V _) rfl yw_Rp_checkRoot ml_Rp_72 rfl rfl ⟨Nat.le_of_ble_eq_true rfl, Nat.le_of_ble_eq_true rfl⟩ rfl rfl (Nat.le_of_ble_eq_true rfl) d_Rp_move_7 ⟨Nat.zero_le _, Nat.zero_le _⟩ (fun σ2 H locs h hI => ?_)
  refine lv_aload_n hx hb d_Rp_move_10 rfl (lv_at hl 0 rfl) ?_
  refine x_get C hI (d := 0) (by decide) (xE0 V _) fd_Rp_12 rfl d_Rp_move_11 ?_
  refine x_get C hI (d := 1) (by decide) (xE1 V _) fd_Rp_75 rfl d_Rp_move_14 ?_
  refine lv_iload_n hx hb d_Rp_move_17 rfl (lv_at hl 1 rfl) ?_
  refine lv_aload_n hx hb d_Rp_move_18 rfl (lv_at hl 0 rfl) ?_
  refine x_get C hI (d := 0) (by decide) (xE0 V _) fd_Rp_12 rfl d_Rp_move_19 ?_
  refine x_get C hI (d := 1) (by decide) (xE1 V _) fd_Rp_75 rfl d_Rp_move_22 ?_
  refine lv_iload_n hx hb d_Rp_move_25 rfl (lv_at hl 2 rfl) ?_
  refine x_callv C hI hl.1 (d := 5) (As := [.int x1, .ref (V.2.2 5), .int x2]) (rest := []) (by decide) (c_Val_take_5_5 h) (xE5 V _) rfl yw_Val_take ml_Rp_88 rfl rfl ⟨Nat.le_of_ble_eq_true rfl, Nat.le_of_ble_eq_true rfl⟩ rfl rfl (Nat.le_of_ble_eq_true rfl) d_Rp_move_26 ⟨Nat.zero_le _, Nat.zero_le _⟩ (fun σ3 H locs h hI => ?_)
  exact x_vret C hlocks hr hI h d_Rp_move_29
def y_Rp_make : MethodName := ⟨"RegionPool", "make", "(IIIII)I"⟩
abbrev cd_Rp_make : ByteArray := prog_1_method_8_code
def y_Rp_checkShape : MethodName := ⟨"RegionPool", "checkShape", "(III)V"⟩
abbrev cd_Rp_checkShape : ByteArray := prog_1_method_25_code
def p_Rp_checkShape_J9 (Q : xS → Prop) (σ : xS) : Prop :=
  False
def p_Rp_checkShape_J30 (Q : xS → Prop) (σ : xS) : Prop :=
  False
def p_Rp_checkShape_J64 (Q : xS → Prop) (σ : xS) : Prop :=
  False
def p_Rp_checkShape_J50 (Q : xS → Prop) (x3 : Int32) (y0 : Int32) (σ : xS) : Prop :=
  ((x3 < y0 → p_Rp_checkShape_J64 Q σ) ∧ (¬ x3 < y0 → ((x3 ≤ 15 → Q σ) ∧ (¬ x3 ≤ 15 → p_Rp_checkShape_J64 Q σ))))
def p_Rp_checkShape (x1 x2 x3 : Int32) (σ : xS) (Q : xS → Prop) : Prop :=
  ((x1 < 0 → p_Rp_checkShape_J9 Q σ) ∧ (¬ x1 < 0 → ((x1 ≤ 2 → ((x2 < 0 → p_Rp_checkShape_J30 Q σ) ∧ (¬ x2 < 0 → ((x2 ≤ 999 → ((¬ x1 = 2 → p_Rp_checkShape_J50 Q x3 0 σ) ∧ (x1 = 2 → p_Rp_checkShape_J50 Q x3 1 σ))) ∧ (¬ x2 ≤ 999 → p_Rp_checkShape_J30 Q σ))))) ∧ (¬ x1 ≤ 2 → p_Rp_checkShape_J9 Q σ))))
abbrev rm_Rp_checkShape : Room := { frames := 0, cells := 0, slots := 0, locals := 0 }
theorem d_Rp_checkShape_0 : decode cd_Rp_checkShape 0 = .ok (.iload_n 1, 1) := by decide +kernel
theorem d_Rp_checkShape_1 : decode cd_Rp_checkShape 1 = .ok (.ifCond .lt 8, 3) := by decide +kernel
theorem d_Rp_checkShape_4 : decode cd_Rp_checkShape 4 = .ok (.iload_n 1, 1) := by decide +kernel
theorem d_Rp_checkShape_5 : decode cd_Rp_checkShape 5 = .ok (.iconst 2, 1) := by decide +kernel
theorem d_Rp_checkShape_6 : decode cd_Rp_checkShape 6 = .ok (.if_icmp .le 13, 3) := by decide +kernel
theorem d_Rp_checkShape_9 : decode cd_Rp_checkShape 9 = .ok (.new 239, 3) := by decide +kernel
theorem d_Rp_checkShape_12 : decode cd_Rp_checkShape 12 = .ok (.dup, 1) := by decide +kernel
theorem d_Rp_checkShape_13 : decode cd_Rp_checkShape 13 = .ok (.ldc 244, 2) := by decide +kernel
theorem d_Rp_checkShape_15 : decode cd_Rp_checkShape 15 = .ok (.invokespecial 243, 3) := by decide +kernel
theorem d_Rp_checkShape_18 : decode cd_Rp_checkShape 18 = .ok (.athrow, 1) := by decide +kernel
theorem d_Rp_checkShape_19 : decode cd_Rp_checkShape 19 = .ok (.iload_n 2, 1) := by decide +kernel
theorem d_Rp_checkShape_20 : decode cd_Rp_checkShape 20 = .ok (.ifCond .lt 10, 3) := by decide +kernel
theorem d_Rp_checkShape_23 : decode cd_Rp_checkShape 23 = .ok (.iload_n 2, 1) := by decide +kernel
theorem d_Rp_checkShape_24 : decode cd_Rp_checkShape 24 = .ok (.sipush 999, 3) := by decide +kernel
theorem d_Rp_checkShape_27 : decode cd_Rp_checkShape 27 = .ok (.if_icmp .le 13, 3) := by decide +kernel
theorem d_Rp_checkShape_30 : decode cd_Rp_checkShape 30 = .ok (.new 239, 3) := by decide +kernel
theorem d_Rp_checkShape_33 : decode cd_Rp_checkShape 33 = .ok (.dup, 1) := by decide +kernel
theorem d_Rp_checkShape_34 : decode cd_Rp_checkShape 34 = .ok (.ldc 246, 2) := by decide +kernel
theorem d_Rp_checkShape_36 : decode cd_Rp_checkShape 36 = .ok (.invokespecial 243, 3) := by decide +kernel
theorem d_Rp_checkShape_39 : decode cd_Rp_checkShape 39 = .ok (.athrow, 1) := by decide +kernel
theorem d_Rp_checkShape_40 : decode cd_Rp_checkShape 40 = .ok (.iload_n 1, 1) := by decide +kernel
theorem d_Rp_checkShape_41 : decode cd_Rp_checkShape 41 = .ok (.iconst 2, 1) := by decide +kernel
theorem d_Rp_checkShape_42 : decode cd_Rp_checkShape 42 = .ok (.if_icmp .ne 7, 3) := by decide +kernel
theorem d_Rp_checkShape_45 : decode cd_Rp_checkShape 45 = .ok (.iconst 1, 1) := by decide +kernel
theorem d_Rp_checkShape_46 : decode cd_Rp_checkShape 46 = .ok (.goto 4, 3) := by decide +kernel
theorem d_Rp_checkShape_49 : decode cd_Rp_checkShape 49 = .ok (.iconst 0, 1) := by decide +kernel
theorem d_Rp_checkShape_50 : decode cd_Rp_checkShape 50 = .ok (.istore 4, 2) := by decide +kernel
theorem d_Rp_checkShape_52 : decode cd_Rp_checkShape 52 = .ok (.iload_n 3, 1) := by decide +kernel
theorem d_Rp_checkShape_53 : decode cd_Rp_checkShape 53 = .ok (.iload 4, 2) := by decide +kernel
theorem d_Rp_checkShape_55 : decode cd_Rp_checkShape 55 = .ok (.if_icmp .lt 9, 3) := by decide +kernel
theorem d_Rp_checkShape_58 : decode cd_Rp_checkShape 58 = .ok (.iload_n 3, 1) := by decide +kernel
theorem d_Rp_checkShape_59 : decode cd_Rp_checkShape 59 = .ok (.bipush 15, 2) := by decide +kernel
theorem d_Rp_checkShape_61 : decode cd_Rp_checkShape 61 = .ok (.if_icmp .le 13, 3) := by decide +kernel
theorem d_Rp_checkShape_64 : decode cd_Rp_checkShape 64 = .ok (.new 239, 3) := by decide +kernel
theorem d_Rp_checkShape_67 : decode cd_Rp_checkShape 67 = .ok (.dup, 1) := by decide +kernel
theorem d_Rp_checkShape_68 : decode cd_Rp_checkShape 68 = .ok (.ldc 248, 2) := by decide +kernel
theorem d_Rp_checkShape_70 : decode cd_Rp_checkShape 70 = .ok (.invokespecial 243, 3) := by decide +kernel
theorem d_Rp_checkShape_73 : decode cd_Rp_checkShape 73 = .ok (.athrow, 1) := by decide +kernel
theorem d_Rp_checkShape_74 : decode cd_Rp_checkShape 74 = .ok (.return_, 1) := by decide +kernel
set_option maxRecDepth 100000 in
set_option maxHeartbeats 4000000 in
theorem t_Rp_checkShape_J9 {p : Program} {l : Launch} {e : Env} {s : State} {m : MethodId} {args : Array Value} {below : List Frame} {meth : Method} {c : Code} {V : xV} (C : xC p s m args c cd_Rp_checkShape 5 R_Rp V) (hlocks : meth.locks = false) (hr : meth.sig.returnType = none) {Q : xS → Prop} {σ : xS} {H : Heap} {locs : List Loc} {ls : Array Slot} (h : p_Rp_checkShape_J9 Q σ) (hI : xI V s.heap σ H locs) (hl : lv_has ls 5 []) : W p l e rm_Rp_checkShape s m args below meth c H locs 0 0 (xZv below V args s Q) (F0 m 9 ls []) := by
  have hx := C.1
  have hb := C.2.1
  unfold p_Rp_checkShape_J9 at h
  exact h.elim
set_option maxRecDepth 100000 in
set_option maxHeartbeats 4000000 in
theorem t_Rp_checkShape_J30 {p : Program} {l : Launch} {e : Env} {s : State} {m : MethodId} {args : Array Value} {below : List Frame} {meth : Method} {c : Code} {V : xV} (C : xC p s m args c cd_Rp_checkShape 5 R_Rp V) (hlocks : meth.locks = false) (hr : meth.sig.returnType = none) {Q : xS → Prop} {σ : xS} {H : Heap} {locs : List Loc} {ls : Array Slot} (h : p_Rp_checkShape_J30 Q σ) (hI : xI V s.heap σ H locs) (hl : lv_has ls 5 []) : W p l e rm_Rp_checkShape s m args below meth c H locs 0 0 (xZv below V args s Q) (F0 m 30 ls []) := by
  have hx := C.1
  have hb := C.2.1
  unfold p_Rp_checkShape_J30 at h
  exact h.elim
set_option maxRecDepth 100000 in
set_option maxHeartbeats 4000000 in
theorem t_Rp_checkShape_J64 {p : Program} {l : Launch} {e : Env} {s : State} {m : MethodId} {args : Array Value} {below : List Frame} {meth : Method} {c : Code} {V : xV} (C : xC p s m args c cd_Rp_checkShape 5 R_Rp V) (hlocks : meth.locks = false) (hr : meth.sig.returnType = none) {Q : xS → Prop} {σ : xS} {H : Heap} {locs : List Loc} {ls : Array Slot} (h : p_Rp_checkShape_J64 Q σ) (hI : xI V s.heap σ H locs) (hl : lv_has ls 5 []) : W p l e rm_Rp_checkShape s m args below meth c H locs 0 0 (xZv below V args s Q) (F0 m 64 ls []) := by
  have hx := C.1
  have hb := C.2.1
  unfold p_Rp_checkShape_J64 at h
  exact h.elim
set_option maxRecDepth 100000 in
set_option maxHeartbeats 4000000 in
theorem t_Rp_checkShape_J50 {p : Program} {l : Launch} {e : Env} {s : State} {m : MethodId} {args : Array Value} {below : List Frame} {meth : Method} {c : Code} {V : xV} (C : xC p s m args c cd_Rp_checkShape 5 R_Rp V) (hlocks : meth.locks = false) (hr : meth.sig.returnType = none) {Q : xS → Prop} {x3 : Int32} {y0 : Int32} {σ : xS} {H : Heap} {locs : List Loc} {ls : Array Slot} (h : p_Rp_checkShape_J50 Q x3 y0 σ) (hI : xI V s.heap σ H locs) (hl : lv_has ls 5 [(3, .int x3)]) : W p l e rm_Rp_checkShape s m args below meth c H locs 0 0 (xZv below V args s Q) (F0 m 50 ls [.int y0]) := by
  have hx := C.1
  have hb := C.2.1
  unfold p_Rp_checkShape_J50 at h
  refine lv_istore (lv' := [(4, .int y0), (3, .int x3)]) hx hb d_Rp_checkShape_50 hl (by decide) rfl (fun ls hl => ?_)
  refine lv_iload_n hx hb d_Rp_checkShape_52 rfl (lv_at hl 1 rfl) ?_
  refine lv_iload hx hb d_Rp_checkShape_53 (lv_at hl 0 rfl) ?_
  refine lv_icmp_lt (tgt := 64) hx hb d_Rp_checkShape_55 (by decide) (fun c6 => ?_) (fun c6 => ?_)
  · have h := h.1 c6
    exact t_Rp_checkShape_J64 C hlocks hr h hI (lv_sub hl [] rfl)
  · have h := h.2 c6
    refine lv_iload_n hx hb d_Rp_checkShape_58 rfl (lv_at hl 1 rfl) ?_
    refine lv_bipush (v := 15) hx hb d_Rp_checkShape_59 (by decide) ?_
    refine lv_icmp_le (tgt := 74) hx hb d_Rp_checkShape_61 (by decide) (fun c7 => ?_) (fun c7 => ?_)
    · have h := h.1 c7
      exact x_vret C hlocks hr hI h d_Rp_checkShape_74
    · have h := h.2 c7
      exact t_Rp_checkShape_J64 C hlocks hr h hI (lv_sub hl [] rfl)
set_option maxRecDepth 100000 in
set_option maxHeartbeats 4000000 in
theorem c_Rp_checkShape {l : Launch} {V : xV} {σ : xS} {x1 x2 x3 : Int32} {Q : xS → Prop} (h : p_Rp_checkShape x1 x2 x3 σ Q) : xMv l y_Rp_checkShape (.code y_Rp_checkShape cd_Rp_checkShape 5 none :: xG) rm_Rp_checkShape V [.ref (V.2.2 0), .int x1, .int x2, .int x3] σ Q := by
  refine x_beginv (by decide) (Nat.le_of_ble_eq_true rfl) (fun p e s m below meth c ls C hlocks hr hI hl => ?_)
  have C : xC p s m _ c cd_Rp_checkShape 5 R_Rp V := C
  have hx := C.1
  have hb := C.2.1
  have hl : lv_has ls 5 [(0, .ref (V.2.2 0)), (1, .int x1), (2, .int x2), (3, .int x3)] := hl
  unfold p_Rp_checkShape at h
  refine lv_iload_n hx hb d_Rp_checkShape_0 rfl (lv_at hl 1 rfl) ?_
  refine lv_if_lt (tgt := 9) hx hb d_Rp_checkShape_1 (by decide) (fun c1 => ?_) (fun c1 => ?_)
  · have h := h.1 c1
    exact t_Rp_checkShape_J9 C hlocks hr h hI (lv_sub hl [] rfl)
  · have h := h.2 c1
    refine lv_iload_n hx hb d_Rp_checkShape_4 rfl (lv_at hl 1 rfl) ?_
    refine lv_iconst (v := 2) hx hb d_Rp_checkShape_5 (by decide) ?_
    refine lv_icmp_le (tgt := 19) hx hb d_Rp_checkShape_6 (by decide) (fun c2 => ?_) (fun c2 => ?_)
    · have h := h.1 c2
      refine lv_iload_n hx hb d_Rp_checkShape_19 rfl (lv_at hl 2 rfl) ?_
      refine lv_if_lt (tgt := 30) hx hb d_Rp_checkShape_20 (by decide) (fun c3 => ?_) (fun c3 => ?_)
      · have h := h.1 c3
        exact t_Rp_checkShape_J30 C hlocks hr h hI (lv_sub hl [] rfl)
      · have h := h.2 c3
        refine lv_iload_n hx hb d_Rp_checkShape_23 rfl (lv_at hl 2 rfl) ?_
        refine lv_sipush (v := 999) hx hb d_Rp_checkShape_24 (by decide) ?_
        refine lv_icmp_le (tgt := 40) hx hb d_Rp_checkShape_27 (by decide) (fun c4 => ?_) (fun c4 => ?_)
        · have h := h.1 c4
          refine lv_iload_n hx hb d_Rp_checkShape_40 rfl (lv_at hl 1 rfl) ?_
          refine lv_iconst (v := 2) hx hb d_Rp_checkShape_41 (by decide) ?_
          refine lv_icmp_ne (tgt := 49) hx hb d_Rp_checkShape_42 (by decide) (fun c5 => ?_) (fun c5 => ?_)
          · have h := h.1 c5
            refine lv_iconst (v := 0) hx hb d_Rp_checkShape_49 (by decide) ?_
            exact t_Rp_checkShape_J50 C hlocks hr h hI (lv_sub hl [3] rfl)
          · have h := h.2 c5
            refine lv_iconst (v := 1) hx hb d_Rp_checkShape_45 (by decide) ?_
            refine lv_goto (tgt := 50) hx hb d_Rp_checkShape_46 (by decide) ?_
            exact t_Rp_checkShape_J50 C hlocks hr h hI (lv_sub hl [3] rfl)
        · have h := h.2 c4
          exact t_Rp_checkShape_J30 C hlocks hr h hI (lv_sub hl [] rfl)
    · have h := h.2 c2
      exact t_Rp_checkShape_J9 C hlocks hr h hI (lv_sub hl [] rfl)
theorem yw_Rp_checkShape : xY y_Rp_checkShape cd_Rp_checkShape 5 none 3 := ⟨xG_mem 741 (by decide +kernel) (by decide +kernel), xG_mem 16 (by decide +kernel) (by decide +kernel), xG_mem 54 (by decide +kernel) (by decide +kernel), xG_mem 742 (by decide +kernel) (by decide +kernel), by decide, by decide, by decide +kernel⟩
theorem ml_Rp_92 : Cond.methodLink R_Rp 92 y_Rp_checkShape ∈ xG := xG_mem 739 (by decide +kernel) (by decide +kernel)
theorem yw_Rp_placesAfterCollecting : xY y_Rp_placesAfterCollecting cd_Rp_placesAfterCollecting 4 (some .int) 2 := ⟨xG_mem 748 (by decide +kernel) (by decide +kernel), xG_mem 17 (by decide +kernel) (by decide +kernel), xG_mem 54 (by decide +kernel) (by decide +kernel), xG_mem 749 (by decide +kernel) (by decide +kernel), by decide, by decide, by decide +kernel⟩
theorem ml_Rp_96 : Cond.methodLink R_Rp 96 y_Rp_placesAfterCollecting ∈ xG := xG_mem 746 (by decide +kernel) (by decide +kernel)
theorem yw_Hea_found : xY y_Hea_found cd_Hea_found 6 none 4 := ⟨xG_mem 763 (by decide +kernel) (by decide +kernel), xG_mem 764 (by decide +kernel) (by decide +kernel), xG_mem 57 (by decide +kernel) (by decide +kernel), xG_mem 765 (by decide +kernel) (by decide +kernel), by decide, by decide, by decide +kernel⟩
theorem ml_Rp_100 : Cond.methodLink R_Rp 100 y_Hea_found ∈ xG := xG_mem 762 (by decide +kernel) (by decide +kernel)
theorem ml_Rp_106 : Cond.methodLink R_Rp 106 y_Val_setReference ∈ xG := xG_mem 767 (by decide +kernel) (by decide +kernel)
def p_Rp_make (x1 x2 x3 x4 x5 : Int32) (σ : xS) (Q : Int32 → xS → Prop) : Prop :=
  p_Rp_checkRoot x1 σ (fun σ1 => p_Rp_checkRegion x2 σ1 (fun σ2 => p_Rp_checkShape x3 x4 x5 σ2 (fun σ3 => p_Rp_placesAfterCollecting x2 (x5 + 1) σ3 (fun r5 σ4 => ((¬ r5 = (-1) → p_Hea_found r5 x3 x4 x5 σ4 (fun σ7 => p_Val_setReference_5 x1 r5 σ7 (fun σ8 => Q r5 σ8))) ∧ (r5 = (-1) → Q (-1) σ4))))))
abbrev rm_Rp_make : Room := { frames := 7, cells := 0, slots := 0, locals := 162 }
theorem d_Rp_make_0 : decode cd_Rp_make 0 = .ok (.aload_n 0, 1) := by decide +kernel
theorem d_Rp_make_1 : decode cd_Rp_make 1 = .ok (.iload_n 1, 1) := by decide +kernel
theorem d_Rp_make_2 : decode cd_Rp_make 2 = .ok (.invokevirtual 72, 3) := by decide +kernel
theorem d_Rp_make_5 : decode cd_Rp_make 5 = .ok (.aload_n 0, 1) := by decide +kernel
theorem d_Rp_make_6 : decode cd_Rp_make 6 = .ok (.iload_n 2, 1) := by decide +kernel
theorem d_Rp_make_7 : decode cd_Rp_make 7 = .ok (.invokevirtual 65, 3) := by decide +kernel
theorem d_Rp_make_10 : decode cd_Rp_make 10 = .ok (.aload_n 0, 1) := by decide +kernel
theorem d_Rp_make_11 : decode cd_Rp_make 11 = .ok (.iload_n 3, 1) := by decide +kernel
theorem d_Rp_make_12 : decode cd_Rp_make 12 = .ok (.iload 4, 2) := by decide +kernel
theorem d_Rp_make_14 : decode cd_Rp_make 14 = .ok (.iload 5, 2) := by decide +kernel
theorem d_Rp_make_16 : decode cd_Rp_make 16 = .ok (.invokevirtual 92, 3) := by decide +kernel
theorem d_Rp_make_19 : decode cd_Rp_make 19 = .ok (.aload_n 0, 1) := by decide +kernel
theorem d_Rp_make_20 : decode cd_Rp_make 20 = .ok (.iload_n 2, 1) := by decide +kernel
theorem d_Rp_make_21 : decode cd_Rp_make 21 = .ok (.iload 5, 2) := by decide +kernel
theorem d_Rp_make_23 : decode cd_Rp_make 23 = .ok (.iconst 1, 1) := by decide +kernel
theorem d_Rp_make_24 : decode cd_Rp_make 24 = .ok (.iadd, 1) := by decide +kernel
theorem d_Rp_make_25 : decode cd_Rp_make 25 = .ok (.invokevirtual 96, 3) := by decide +kernel
theorem d_Rp_make_28 : decode cd_Rp_make 28 = .ok (.istore 6, 2) := by decide +kernel
theorem d_Rp_make_30 : decode cd_Rp_make 30 = .ok (.iload 6, 2) := by decide +kernel
theorem d_Rp_make_32 : decode cd_Rp_make 32 = .ok (.iconst (-1), 1) := by decide +kernel
theorem d_Rp_make_33 : decode cd_Rp_make 33 = .ok (.if_icmp .ne 5, 3) := by decide +kernel
theorem d_Rp_make_36 : decode cd_Rp_make 36 = .ok (.iconst (-1), 1) := by decide +kernel
theorem d_Rp_make_37 : decode cd_Rp_make 37 = .ok (.ireturn, 1) := by decide +kernel
theorem d_Rp_make_38 : decode cd_Rp_make 38 = .ok (.aload_n 0, 1) := by decide +kernel
theorem d_Rp_make_39 : decode cd_Rp_make 39 = .ok (.getfield 12, 3) := by decide +kernel
theorem d_Rp_make_42 : decode cd_Rp_make 42 = .ok (.getfield 34, 3) := by decide +kernel
theorem d_Rp_make_45 : decode cd_Rp_make 45 = .ok (.iload 6, 2) := by decide +kernel
theorem d_Rp_make_47 : decode cd_Rp_make 47 = .ok (.iload_n 3, 1) := by decide +kernel
theorem d_Rp_make_48 : decode cd_Rp_make 48 = .ok (.iload 4, 2) := by decide +kernel
theorem d_Rp_make_50 : decode cd_Rp_make 50 = .ok (.iload 5, 2) := by decide +kernel
theorem d_Rp_make_52 : decode cd_Rp_make 52 = .ok (.invokevirtual 100, 3) := by decide +kernel
theorem d_Rp_make_55 : decode cd_Rp_make 55 = .ok (.aload_n 0, 1) := by decide +kernel
theorem d_Rp_make_56 : decode cd_Rp_make 56 = .ok (.getfield 12, 3) := by decide +kernel
theorem d_Rp_make_59 : decode cd_Rp_make 59 = .ok (.getfield 75, 3) := by decide +kernel
theorem d_Rp_make_62 : decode cd_Rp_make 62 = .ok (.iload_n 1, 1) := by decide +kernel
theorem d_Rp_make_63 : decode cd_Rp_make 63 = .ok (.iload 6, 2) := by decide +kernel
theorem d_Rp_make_65 : decode cd_Rp_make 65 = .ok (.invokevirtual 106, 3) := by decide +kernel
theorem d_Rp_make_68 : decode cd_Rp_make 68 = .ok (.iload 6, 2) := by decide +kernel
theorem d_Rp_make_70 : decode cd_Rp_make 70 = .ok (.ireturn, 1) := by decide +kernel
set_option maxRecDepth 100000 in
set_option maxHeartbeats 4000000 in
theorem c_Rp_make {l : Launch} {V : xV} {σ : xS} {x1 x2 x3 x4 x5 : Int32} {Q : Int32 → xS → Prop} (h : p_Rp_make x1 x2 x3 x4 x5 σ Q) : xMi l y_Rp_make (.code y_Rp_make cd_Rp_make 7 (some .int) :: xG) rm_Rp_make V [.ref (V.2.2 0), .int x1, .int x2, .int x3, .int x4, .int x5] σ Q := by
  refine x_begini (by decide) (Nat.le_of_ble_eq_true rfl) (fun p e s m below meth c ls C hlocks hr hI hl => ?_)
  have C : xC p s m _ c cd_Rp_make 7 R_Rp V := C
  have hx := C.1
  have hb := C.2.1
  have hl : lv_has ls 7 [(0, .ref (V.2.2 0)), (1, .int x1), (2, .int x2), (3, .int x3), (4, .int x4), (5, .int x5)] := hl
  unfold p_Rp_make at h
  refine lv_aload_n hx hb d_Rp_make_0 rfl (lv_at hl 0 rfl) ?_
  refine lv_iload_n hx hb d_Rp_make_1 rfl (lv_at hl 1 rfl) ?_
  refine x_callv C hI hl.1 (d := 0) (As := [.int x1]) (rest := []) (by decide) (c_Rp_checkRoot h) (xE0 V _) rfl yw_Rp_checkRoot ml_Rp_72 rfl rfl ⟨Nat.le_of_ble_eq_true rfl, Nat.le_of_ble_eq_true rfl⟩ rfl rfl (Nat.le_of_ble_eq_true rfl) d_Rp_make_2 ⟨Nat.zero_le _, Nat.zero_le _⟩ (fun σ1 H locs h hI => ?_)
  refine lv_aload_n hx hb d_Rp_make_5 rfl (lv_at hl 0 rfl) ?_
  refine lv_iload_n hx hb d_Rp_make_6 rfl (lv_at hl 2 rfl) ?_
  refine x_callv C hI hl.1 (d := 0) (As := [.int x2]) (rest := []) (by decide) (c_Rp_checkRegion h) (xE0 V _) rfl yw_Rp_checkRegion ml_Rp_65 rfl rfl ⟨Nat.le_of_ble_eq_true rfl, Nat.le_of_ble_eq_true rfl⟩ rfl rfl (Nat.le_of_ble_eq_true rfl) d_Rp_make_7 ⟨Nat.zero_le _, Nat.zero_le _⟩ (fun σ2 H locs h hI => ?_)
  refine lv_aload_n hx hb d_Rp_make_10 rfl (lv_at hl 0 rfl) ?_
  refine lv_iload_n hx hb d_Rp_make_11 rfl (lv_at hl 3 rfl) ?_
  refine lv_iload hx hb d_Rp_make_12 (lv_at hl 4 rfl) ?_
  refine lv_iload hx hb d_Rp_make_14 (lv_at hl 5 rfl) ?_
  refine x_callv C hI hl.1 (d := 0) (As := [.int x3, .int x4, .int x5]) (rest := []) (by decide) (c_Rp_checkShape h) (xE0 V _) rfl yw_Rp_checkShape ml_Rp_92 rfl rfl ⟨Nat.le_of_ble_eq_true rfl, Nat.le_of_ble_eq_true rfl⟩ rfl rfl (Nat.le_of_ble_eq_true rfl) d_Rp_make_16 ⟨Nat.zero_le _, Nat.zero_le _⟩ (fun σ3 H locs h hI => ?_)
  refine lv_aload_n hx hb d_Rp_make_19 rfl (lv_at hl 0 rfl) ?_
  refine lv_iload_n hx hb d_Rp_make_20 rfl (lv_at hl 2 rfl) ?_
  refine lv_iload hx hb d_Rp_make_21 (lv_at hl 5 rfl) ?_
  refine lv_iconst (v := 1) hx hb d_Rp_make_23 (by decide) ?_
  refine lv_iadd hx hb d_Rp_make_24 ?_
  refine x_calli C hI hl.1 (d := 0) (As := [.int x2, .int (x5 + 1)]) (rest := []) (by decide) (c_Rp_placesAfterCollecting h) (xE0 V _) rfl yw_Rp_placesAfterCollecting ml_Rp_96 rfl rfl ⟨Nat.le_of_ble_eq_true rfl, Nat.le_of_ble_eq_true rfl⟩ rfl rfl (Nat.le_of_ble_eq_true rfl) d_Rp_make_25 ⟨Nat.zero_le _, Nat.zero_le _⟩ (fun r5 σ4 H locs h hI => ?_)
  refine lv_istore (lv' := [(6, .int r5), (0, .ref (V.2.2 0)), (1, .int x1), (2, .int x2), (3, .int x3), (4, .int x4), (5, .int x5)]) hx hb d_Rp_make_28 hl (by decide) rfl (fun ls hl => ?_)
  refine lv_iload hx hb d_Rp_make_30 (lv_at hl 0 rfl) ?_
  refine lv_iconst (v := (-1)) hx hb d_Rp_make_32 (by decide) ?_
  refine lv_icmp_ne (tgt := 38) hx hb d_Rp_make_33 (by decide) (fun c6 => ?_) (fun c6 => ?_)
  · have h := h.1 c6
    refine lv_aload_n hx hb d_Rp_make_38 rfl (lv_at hl 1 rfl) ?_
    refine x_get C hI (d := 0) (by decide) (xE0 V _) fd_Rp_12 rfl d_Rp_make_39 ?_
    refine x_get C hI (d := 1) (by decide) (xE1 V _) fd_Rp_34 rfl d_Rp_make_42 ?_
    refine lv_iload hx hb d_Rp_make_45 (lv_at hl 0 rfl) ?_
    refine lv_iload_n hx hb d_Rp_make_47 rfl (lv_at hl 4 rfl) ?_
    refine lv_iload hx hb d_Rp_make_48 (lv_at hl 5 rfl) ?_
    refine lv_iload hx hb d_Rp_make_50 (lv_at hl 6 rfl) ?_
    refine x_callv C hI hl.1 (d := 6) (As := [.int r5, .int x3, .int x4, .int x5]) (rest := []) (by decide) (c_Hea_found h) (xE6 V _) rfl yw_Hea_found ml_Rp_100 rfl rfl ⟨Nat.le_of_ble_eq_true rfl, Nat.le_of_ble_eq_true rfl⟩ rfl rfl (Nat.le_of_ble_eq_true rfl) d_Rp_make_52 ⟨Nat.zero_le _, Nat.zero_le _⟩ (fun σ7 H locs h hI => ?_)
    refine lv_aload_n hx hb d_Rp_make_55 rfl (lv_at hl 1 rfl) ?_
    refine x_get C hI (d := 0) (by decide) (xE0 V _) fd_Rp_12 rfl d_Rp_make_56 ?_
    refine x_get C hI (d := 1) (by decide) (xE1 V _) fd_Rp_75 rfl d_Rp_make_59 ?_
    refine lv_iload_n hx hb d_Rp_make_62 rfl (lv_at hl 2 rfl) ?_
    refine lv_iload hx hb d_Rp_make_63 (lv_at hl 0 rfl) ?_
    refine x_callv C hI hl.1 (d := 5) (As := [.int x1, .int r5]) (rest := []) (by decide) (c_Val_setReference_5 h) (xE5 V _) rfl yw_Val_setReference ml_Rp_106 rfl rfl ⟨Nat.le_of_ble_eq_true rfl, Nat.le_of_ble_eq_true rfl⟩ rfl rfl (Nat.le_of_ble_eq_true rfl) d_Rp_make_65 ⟨Nat.zero_le _, Nat.zero_le _⟩ (fun σ8 H locs h hI => ?_)
    refine lv_iload hx hb d_Rp_make_68 (lv_at hl 0 rfl) ?_
    exact x_iret C hlocks hr hI h d_Rp_make_70
  · have h := h.2 c6
    refine lv_iconst (v := (-1)) hx hb d_Rp_make_36 (by decide) ?_
    exact x_iret C hlocks hr hI h d_Rp_make_37
def y_Rp_get : MethodName := ⟨"RegionPool", "get", "(III)Z"⟩
abbrev cd_Rp_get : ByteArray := prog_1_method_9_code
def y_Rp_checkReference : MethodName := ⟨"RegionPool", "checkReference", "(I)V"⟩
abbrev cd_Rp_checkReference : ByteArray := prog_1_method_23_code
def p_Rp_checkReference (x1 : Int32) (σ : xS) (Q : xS → Prop) : Prop :=
  p_Val_isReference_5 x1 σ (fun r2 σ1 => ((¬ r2 = 0 → Q σ1) ∧ (r2 = 0 → False)))
abbrev rm_Rp_checkReference : Room := { frames := 1, cells := 0, slots := 0, locals := 21 }
theorem d_Rp_checkReference_0 : decode cd_Rp_checkReference 0 = .ok (.aload_n 0, 1) := by decide +kernel
theorem d_Rp_checkReference_1 : decode cd_Rp_checkReference 1 = .ok (.getfield 12, 3) := by decide +kernel
theorem d_Rp_checkReference_4 : decode cd_Rp_checkReference 4 = .ok (.getfield 75, 3) := by decide +kernel
theorem d_Rp_checkReference_7 : decode cd_Rp_checkReference 7 = .ok (.iload_n 1, 1) := by decide +kernel
theorem d_Rp_checkReference_8 : decode cd_Rp_checkReference 8 = .ok (.invokevirtual 184, 3) := by decide +kernel
theorem d_Rp_checkReference_11 : decode cd_Rp_checkReference 11 = .ok (.ifCond .ne 13, 3) := by decide +kernel
theorem d_Rp_checkReference_14 : decode cd_Rp_checkReference 14 = .ok (.new 234, 3) := by decide +kernel
theorem d_Rp_checkReference_17 : decode cd_Rp_checkReference 17 = .ok (.dup, 1) := by decide +kernel
theorem d_Rp_checkReference_18 : decode cd_Rp_checkReference 18 = .ok (.ldc 236, 2) := by decide +kernel
theorem d_Rp_checkReference_20 : decode cd_Rp_checkReference 20 = .ok (.invokespecial 238, 3) := by decide +kernel
theorem d_Rp_checkReference_23 : decode cd_Rp_checkReference 23 = .ok (.athrow, 1) := by decide +kernel
theorem d_Rp_checkReference_24 : decode cd_Rp_checkReference 24 = .ok (.return_, 1) := by decide +kernel
set_option maxRecDepth 100000 in
set_option maxHeartbeats 4000000 in
theorem c_Rp_checkReference {l : Launch} {V : xV} {σ : xS} {x1 : Int32} {Q : xS → Prop} (h : p_Rp_checkReference x1 σ Q) : xMv l y_Rp_checkReference (.code y_Rp_checkReference cd_Rp_checkReference 2 none :: xG) rm_Rp_checkReference V [.ref (V.2.2 0), .int x1] σ Q := by
  refine x_beginv (by decide) (Nat.le_of_ble_eq_true rfl) (fun p e s m below meth c ls C hlocks hr hI hl => ?_)
  have C : xC p s m _ c cd_Rp_checkReference 2 R_Rp V := C
  have hx := C.1
  have hb := C.2.1
  have hl : lv_has ls 2 [(0, .ref (V.2.2 0)), (1, .int x1)] := hl
  unfold p_Rp_checkReference at h
  refine lv_aload_n hx hb d_Rp_checkReference_0 rfl (lv_at hl 0 rfl) ?_
  refine x_get C hI (d := 0) (by decide) (xE0 V _) fd_Rp_12 rfl d_Rp_checkReference_1 ?_
  refine x_get C hI (d := 1) (by decide) (xE1 V _) fd_Rp_75 rfl d_Rp_checkReference_4 ?_
  refine lv_iload_n hx hb d_Rp_checkReference_7 rfl (lv_at hl 1 rfl) ?_
  refine x_calli C hI hl.1 (d := 5) (As := [.int x1]) (rest := []) (by decide) (c_Val_isReference_5 h) (xE5 V _) rfl yw_Val_isReference ml_Rp_184 rfl rfl ⟨Nat.le_of_ble_eq_true rfl, Nat.le_of_ble_eq_true rfl⟩ rfl rfl (Nat.le_of_ble_eq_true rfl) d_Rp_checkReference_8 ⟨Nat.zero_le _, Nat.zero_le _⟩ (fun r2 σ1 H locs h hI => ?_)
  refine lv_if_ne (tgt := 24) hx hb d_Rp_checkReference_11 (by decide) (fun c3 => ?_) (fun c3 => ?_)
  · have h := h.1 c3
    exact x_vret C hlocks hr hI h d_Rp_checkReference_24
  · have h := h.2 c3
    exact h.elim
theorem yw_Rp_checkReference : xY y_Rp_checkReference cd_Rp_checkReference 2 none 1 := ⟨xG_mem 781 (by decide +kernel) (by decide +kernel), xG_mem 20 (by decide +kernel) (by decide +kernel), xG_mem 54 (by decide +kernel) (by decide +kernel), xG_mem 782 (by decide +kernel) (by decide +kernel), by decide, by decide, by decide +kernel⟩
theorem ml_Rp_109 : Cond.methodLink R_Rp 109 y_Rp_checkReference ∈ xG := xG_mem 779 (by decide +kernel) (by decide +kernel)
theorem yw_Hea_hasField : xY y_Hea_hasField cd_Hea_hasField 3 (some .boolean) 2 := ⟨xG_mem 802 (by decide +kernel) (by decide +kernel), xG_mem 803 (by decide +kernel) (by decide +kernel), xG_mem 57 (by decide +kernel) (by decide +kernel), xG_mem 804 (by decide +kernel) (by decide +kernel), by decide, by decide, by decide +kernel⟩
theorem ml_Rp_115 : Cond.methodLink R_Rp 115 y_Hea_hasField ∈ xG := xG_mem 801 (by decide +kernel) (by decide +kernel)
def p_Rp_get (x1 x2 x3 : Int32) (σ : xS) (Q : Int32 → xS → Prop) : Prop :=
  p_Rp_checkRoot x1 σ (fun σ1 => p_Rp_checkRoot x2 σ1 (fun σ2 => p_Rp_checkReference x2 σ2 (fun σ3 => p_Val_contentOf_5 x2 σ3 (fun r5 σ4 => p_Hea_hasField r5 x3 σ4 (fun r7 σ6 => ((¬ r7 = 0 → p_Val_take_5_19 x1 ((r5 + 1) + x3) σ6 (fun σ9 => Q 1 σ9)) ∧ (r7 = 0 → Q 0 σ6)))))))
abbrev rm_Rp_get : Room := { frames := 2, cells := 0, slots := 0, locals := 46 }
theorem d_Rp_get_0 : decode cd_Rp_get 0 = .ok (.aload_n 0, 1) := by decide +kernel
theorem d_Rp_get_1 : decode cd_Rp_get 1 = .ok (.iload_n 1, 1) := by decide +kernel
theorem d_Rp_get_2 : decode cd_Rp_get 2 = .ok (.invokevirtual 72, 3) := by decide +kernel
theorem d_Rp_get_5 : decode cd_Rp_get 5 = .ok (.aload_n 0, 1) := by decide +kernel
theorem d_Rp_get_6 : decode cd_Rp_get 6 = .ok (.iload_n 2, 1) := by decide +kernel
theorem d_Rp_get_7 : decode cd_Rp_get 7 = .ok (.invokevirtual 72, 3) := by decide +kernel
theorem d_Rp_get_10 : decode cd_Rp_get 10 = .ok (.aload_n 0, 1) := by decide +kernel
theorem d_Rp_get_11 : decode cd_Rp_get 11 = .ok (.iload_n 2, 1) := by decide +kernel
theorem d_Rp_get_12 : decode cd_Rp_get 12 = .ok (.invokevirtual 109, 3) := by decide +kernel
theorem d_Rp_get_15 : decode cd_Rp_get 15 = .ok (.aload_n 0, 1) := by decide +kernel
theorem d_Rp_get_16 : decode cd_Rp_get 16 = .ok (.getfield 12, 3) := by decide +kernel
theorem d_Rp_get_19 : decode cd_Rp_get 19 = .ok (.getfield 75, 3) := by decide +kernel
theorem d_Rp_get_22 : decode cd_Rp_get 22 = .ok (.iload_n 2, 1) := by decide +kernel
theorem d_Rp_get_23 : decode cd_Rp_get 23 = .ok (.invokevirtual 112, 3) := by decide +kernel
theorem d_Rp_get_26 : decode cd_Rp_get 26 = .ok (.istore 4, 2) := by decide +kernel
theorem d_Rp_get_28 : decode cd_Rp_get 28 = .ok (.aload_n 0, 1) := by decide +kernel
theorem d_Rp_get_29 : decode cd_Rp_get 29 = .ok (.getfield 12, 3) := by decide +kernel
theorem d_Rp_get_32 : decode cd_Rp_get 32 = .ok (.getfield 34, 3) := by decide +kernel
theorem d_Rp_get_35 : decode cd_Rp_get 35 = .ok (.iload 4, 2) := by decide +kernel
theorem d_Rp_get_37 : decode cd_Rp_get 37 = .ok (.iload_n 3, 1) := by decide +kernel
theorem d_Rp_get_38 : decode cd_Rp_get 38 = .ok (.invokevirtual 115, 3) := by decide +kernel
theorem d_Rp_get_41 : decode cd_Rp_get 41 = .ok (.ifCond .ne 5, 3) := by decide +kernel
theorem d_Rp_get_44 : decode cd_Rp_get 44 = .ok (.iconst 0, 1) := by decide +kernel
theorem d_Rp_get_45 : decode cd_Rp_get 45 = .ok (.ireturn, 1) := by decide +kernel
theorem d_Rp_get_46 : decode cd_Rp_get 46 = .ok (.aload_n 0, 1) := by decide +kernel
theorem d_Rp_get_47 : decode cd_Rp_get 47 = .ok (.getfield 12, 3) := by decide +kernel
theorem d_Rp_get_50 : decode cd_Rp_get 50 = .ok (.getfield 75, 3) := by decide +kernel
theorem d_Rp_get_53 : decode cd_Rp_get 53 = .ok (.iload_n 1, 1) := by decide +kernel
theorem d_Rp_get_54 : decode cd_Rp_get 54 = .ok (.aload_n 0, 1) := by decide +kernel
theorem d_Rp_get_55 : decode cd_Rp_get 55 = .ok (.getfield 12, 3) := by decide +kernel
theorem d_Rp_get_58 : decode cd_Rp_get 58 = .ok (.getfield 34, 3) := by decide +kernel
theorem d_Rp_get_61 : decode cd_Rp_get 61 = .ok (.getfield 119, 3) := by decide +kernel
theorem d_Rp_get_64 : decode cd_Rp_get 64 = .ok (.iload 4, 2) := by decide +kernel
theorem d_Rp_get_66 : decode cd_Rp_get 66 = .ok (.iconst 1, 1) := by decide +kernel
theorem d_Rp_get_67 : decode cd_Rp_get 67 = .ok (.iadd, 1) := by decide +kernel
theorem d_Rp_get_68 : decode cd_Rp_get 68 = .ok (.iload_n 3, 1) := by decide +kernel
theorem d_Rp_get_69 : decode cd_Rp_get 69 = .ok (.iadd, 1) := by decide +kernel
theorem d_Rp_get_70 : decode cd_Rp_get 70 = .ok (.invokevirtual 88, 3) := by decide +kernel
theorem d_Rp_get_73 : decode cd_Rp_get 73 = .ok (.iconst 1, 1) := by decide +kernel
theorem d_Rp_get_74 : decode cd_Rp_get 74 = .ok (.ireturn, 1) := by decide +kernel
set_option maxRecDepth 100000 in
set_option maxHeartbeats 4000000 in
theorem c_Rp_get {l : Launch} {V : xV} {σ : xS} {x1 x2 x3 : Int32} {Q : Int32 → xS → Prop} (h : p_Rp_get x1 x2 x3 σ Q) : xMi l y_Rp_get (.code y_Rp_get cd_Rp_get 5 (some .boolean) :: xG) rm_Rp_get V [.ref (V.2.2 0), .int x1, .int x2, .int x3] σ Q := by
  refine x_begini (by decide) (Nat.le_of_ble_eq_true rfl) (fun p e s m below meth c ls C hlocks hr hI hl => ?_)
  have C : xC p s m _ c cd_Rp_get 5 R_Rp V := C
  have hx := C.1
  have hb := C.2.1
  have hl : lv_has ls 5 [(0, .ref (V.2.2 0)), (1, .int x1), (2, .int x2), (3, .int x3)] := hl
  unfold p_Rp_get at h
  refine lv_aload_n hx hb d_Rp_get_0 rfl (lv_at hl 0 rfl) ?_
  refine lv_iload_n hx hb d_Rp_get_1 rfl (lv_at hl 1 rfl) ?_
  refine x_callv C hI hl.1 (d := 0) (As := [.int x1]) (rest := []) (by decide) (c_Rp_checkRoot h) (xE0 V _) rfl yw_Rp_checkRoot ml_Rp_72 rfl rfl ⟨Nat.le_of_ble_eq_true rfl, Nat.le_of_ble_eq_true rfl⟩ rfl rfl (Nat.le_of_ble_eq_true rfl) d_Rp_get_2 ⟨Nat.zero_le _, Nat.zero_le _⟩ (fun σ1 H locs h hI => ?_)
  refine lv_aload_n hx hb d_Rp_get_5 rfl (lv_at hl 0 rfl) ?_
  refine lv_iload_n hx hb d_Rp_get_6 rfl (lv_at hl 2 rfl) ?_
  refine x_callv C hI hl.1 (d := 0) (As := [.int x2]) (rest := []) (by decide) (c_Rp_checkRoot h) (xE0 V _) rfl yw_Rp_checkRoot ml_Rp_72 rfl rfl ⟨Nat.le_of_ble_eq_true rfl, Nat.le_of_ble_eq_true rfl⟩ rfl rfl (Nat.le_of_ble_eq_true rfl) d_Rp_get_7 ⟨Nat.zero_le _, Nat.zero_le _⟩ (fun σ2 H locs h hI => ?_)
  refine lv_aload_n hx hb d_Rp_get_10 rfl (lv_at hl 0 rfl) ?_
  refine lv_iload_n hx hb d_Rp_get_11 rfl (lv_at hl 2 rfl) ?_
  refine x_callv C hI hl.1 (d := 0) (As := [.int x2]) (rest := []) (by decide) (c_Rp_checkReference h) (xE0 V _) rfl yw_Rp_checkReference ml_Rp_109 rfl rfl ⟨Nat.le_of_ble_eq_true rfl, Nat.le_of_ble_eq_true rfl⟩ rfl rfl (Nat.le_of_ble_eq_true rfl) d_Rp_get_12 ⟨Nat.zero_le _, Nat.zero_le _⟩ (fun σ3 H locs h hI => ?_)
  refine lv_aload_n hx hb d_Rp_get_15 rfl (lv_at hl 0 rfl) ?_
  refine x_get C hI (d := 0) (by decide) (xE0 V _) fd_Rp_12 rfl d_Rp_get_16 ?_
  refine x_get C hI (d := 1) (by decide) (xE1 V _) fd_Rp_75 rfl d_Rp_get_19 ?_
  refine lv_iload_n hx hb d_Rp_get_22 rfl (lv_at hl 2 rfl) ?_
  refine x_calli C hI hl.1 (d := 5) (As := [.int x2]) (rest := []) (by decide) (c_Val_contentOf_5 h) (xE5 V _) rfl yw_Val_contentOf ml_Rp_112 rfl rfl ⟨Nat.le_of_ble_eq_true rfl, Nat.le_of_ble_eq_true rfl⟩ rfl rfl (Nat.le_of_ble_eq_true rfl) d_Rp_get_23 ⟨Nat.zero_le _, Nat.zero_le _⟩ (fun r5 σ4 H locs h hI => ?_)
  refine lv_istore (lv' := [(4, .int r5), (0, .ref (V.2.2 0)), (1, .int x1), (2, .int x2), (3, .int x3)]) hx hb d_Rp_get_26 hl (by decide) rfl (fun ls hl => ?_)
  refine lv_aload_n hx hb d_Rp_get_28 rfl (lv_at hl 1 rfl) ?_
  refine x_get C hI (d := 0) (by decide) (xE0 V _) fd_Rp_12 rfl d_Rp_get_29 ?_
  refine x_get C hI (d := 1) (by decide) (xE1 V _) fd_Rp_34 rfl d_Rp_get_32 ?_
  refine lv_iload hx hb d_Rp_get_35 (lv_at hl 0 rfl) ?_
  refine lv_iload_n hx hb d_Rp_get_37 rfl (lv_at hl 4 rfl) ?_
  refine x_calli C hI hl.1 (d := 6) (As := [.int r5, .int x3]) (rest := []) (by decide) (c_Hea_hasField h) (xE6 V _) rfl yw_Hea_hasField ml_Rp_115 rfl rfl ⟨Nat.le_of_ble_eq_true rfl, Nat.le_of_ble_eq_true rfl⟩ rfl rfl (Nat.le_of_ble_eq_true rfl) d_Rp_get_38 ⟨Nat.zero_le _, Nat.zero_le _⟩ (fun r7 σ6 H locs h hI => ?_)
  refine lv_if_ne (tgt := 46) hx hb d_Rp_get_41 (by decide) (fun c8 => ?_) (fun c8 => ?_)
  · have h := h.1 c8
    refine lv_aload_n hx hb d_Rp_get_46 rfl (lv_at hl 1 rfl) ?_
    refine x_get C hI (d := 0) (by decide) (xE0 V _) fd_Rp_12 rfl d_Rp_get_47 ?_
    refine x_get C hI (d := 1) (by decide) (xE1 V _) fd_Rp_75 rfl d_Rp_get_50 ?_
    refine lv_iload_n hx hb d_Rp_get_53 rfl (lv_at hl 2 rfl) ?_
    refine lv_aload_n hx hb d_Rp_get_54 rfl (lv_at hl 1 rfl) ?_
    refine x_get C hI (d := 0) (by decide) (xE0 V _) fd_Rp_12 rfl d_Rp_get_55 ?_
    refine x_get C hI (d := 1) (by decide) (xE1 V _) fd_Rp_34 rfl d_Rp_get_58 ?_
    refine x_get C hI (d := 6) (by decide) (xE6 V _) fd_Rp_119 rfl d_Rp_get_61 ?_
    refine lv_iload hx hb d_Rp_get_64 (lv_at hl 0 rfl) ?_
    refine lv_iconst (v := 1) hx hb d_Rp_get_66 (by decide) ?_
    refine lv_iadd hx hb d_Rp_get_67 ?_
    refine lv_iload_n hx hb d_Rp_get_68 rfl (lv_at hl 4 rfl) ?_
    refine lv_iadd hx hb d_Rp_get_69 ?_
    refine x_callv C hI hl.1 (d := 5) (As := [.int x1, .ref (V.2.2 19), .int ((r5 + 1) + x3)]) (rest := []) (by decide) (c_Val_take_5_19 h) (xE5 V _) rfl yw_Val_take ml_Rp_88 rfl rfl ⟨Nat.le_of_ble_eq_true rfl, Nat.le_of_ble_eq_true rfl⟩ rfl rfl (Nat.le_of_ble_eq_true rfl) d_Rp_get_70 ⟨Nat.zero_le _, Nat.zero_le _⟩ (fun σ9 H locs h hI => ?_)
    refine lv_iconst (v := 1) hx hb d_Rp_get_73 (by decide) ?_
    exact x_zret C hlocks hr hI ⟨rfl, h⟩ d_Rp_get_74
  · have h := h.2 c8
    refine lv_iconst (v := 0) hx hb d_Rp_get_44 (by decide) ?_
    exact x_zret C hlocks hr hI ⟨rfl, h⟩ d_Rp_get_45
def y_Rp_put : MethodName := ⟨"RegionPool", "put", "(III)I"⟩
abbrev cd_Rp_put : ByteArray := prog_1_method_10_code
theorem ml_Rp_125 : Cond.methodLink R_Rp 125 y_Mem_refersBeyond ∈ xG := xG_mem 813 (by decide +kernel) (by decide +kernel)
def p_Rp_put (x1 x2 x3 : Int32) (σ : xS) (Q : Int32 → xS → Prop) : Prop :=
  p_Rp_checkRoot x1 σ (fun σ1 => p_Rp_checkRoot x3 σ1 (fun σ2 => p_Rp_checkReference x1 σ2 (fun σ3 => p_Val_contentOf_5 x1 σ3 (fun r5 σ4 => p_Hea_hasField r5 x2 σ4 (fun r7 σ6 => ((¬ r7 = 0 → p_Reg_ofPlace r5 σ6 (fun r10 σ9 => p_Mem_refersBeyond_1_5 x3 r10 σ9 (fun r12 σ11 => ((r12 = 0 → p_Val_take_19_5 ((r5 + 1) + x2) x3 σ11 (fun σ14 => Q 1 σ14)) ∧ (¬ r12 = 0 → Q (-2) σ11))))) ∧ (r7 = 0 → Q (-1) σ6)))))))
abbrev rm_Rp_put : Room := { frames := 2, cells := 0, slots := 0, locals := 46 }
theorem d_Rp_put_0 : decode cd_Rp_put 0 = .ok (.aload_n 0, 1) := by decide +kernel
theorem d_Rp_put_1 : decode cd_Rp_put 1 = .ok (.iload_n 1, 1) := by decide +kernel
theorem d_Rp_put_2 : decode cd_Rp_put 2 = .ok (.invokevirtual 72, 3) := by decide +kernel
theorem d_Rp_put_5 : decode cd_Rp_put 5 = .ok (.aload_n 0, 1) := by decide +kernel
theorem d_Rp_put_6 : decode cd_Rp_put 6 = .ok (.iload_n 3, 1) := by decide +kernel
theorem d_Rp_put_7 : decode cd_Rp_put 7 = .ok (.invokevirtual 72, 3) := by decide +kernel
theorem d_Rp_put_10 : decode cd_Rp_put 10 = .ok (.aload_n 0, 1) := by decide +kernel
theorem d_Rp_put_11 : decode cd_Rp_put 11 = .ok (.iload_n 1, 1) := by decide +kernel
theorem d_Rp_put_12 : decode cd_Rp_put 12 = .ok (.invokevirtual 109, 3) := by decide +kernel
theorem d_Rp_put_15 : decode cd_Rp_put 15 = .ok (.aload_n 0, 1) := by decide +kernel
theorem d_Rp_put_16 : decode cd_Rp_put 16 = .ok (.getfield 12, 3) := by decide +kernel
theorem d_Rp_put_19 : decode cd_Rp_put 19 = .ok (.getfield 75, 3) := by decide +kernel
theorem d_Rp_put_22 : decode cd_Rp_put 22 = .ok (.iload_n 1, 1) := by decide +kernel
theorem d_Rp_put_23 : decode cd_Rp_put 23 = .ok (.invokevirtual 112, 3) := by decide +kernel
theorem d_Rp_put_26 : decode cd_Rp_put 26 = .ok (.istore 4, 2) := by decide +kernel
theorem d_Rp_put_28 : decode cd_Rp_put 28 = .ok (.aload_n 0, 1) := by decide +kernel
theorem d_Rp_put_29 : decode cd_Rp_put 29 = .ok (.getfield 12, 3) := by decide +kernel
theorem d_Rp_put_32 : decode cd_Rp_put 32 = .ok (.getfield 34, 3) := by decide +kernel
theorem d_Rp_put_35 : decode cd_Rp_put 35 = .ok (.iload 4, 2) := by decide +kernel
theorem d_Rp_put_37 : decode cd_Rp_put 37 = .ok (.iload_n 2, 1) := by decide +kernel
theorem d_Rp_put_38 : decode cd_Rp_put 38 = .ok (.invokevirtual 115, 3) := by decide +kernel
theorem d_Rp_put_41 : decode cd_Rp_put 41 = .ok (.ifCond .ne 5, 3) := by decide +kernel
theorem d_Rp_put_44 : decode cd_Rp_put 44 = .ok (.iconst (-1), 1) := by decide +kernel
theorem d_Rp_put_45 : decode cd_Rp_put 45 = .ok (.ireturn, 1) := by decide +kernel
theorem d_Rp_put_46 : decode cd_Rp_put 46 = .ok (.aload_n 0, 1) := by decide +kernel
theorem d_Rp_put_47 : decode cd_Rp_put 47 = .ok (.getfield 12, 3) := by decide +kernel
theorem d_Rp_put_50 : decode cd_Rp_put 50 = .ok (.aload_n 0, 1) := by decide +kernel
theorem d_Rp_put_51 : decode cd_Rp_put 51 = .ok (.getfield 12, 3) := by decide +kernel
theorem d_Rp_put_54 : decode cd_Rp_put 54 = .ok (.getfield 75, 3) := by decide +kernel
theorem d_Rp_put_57 : decode cd_Rp_put 57 = .ok (.iload_n 3, 1) := by decide +kernel
theorem d_Rp_put_58 : decode cd_Rp_put 58 = .ok (.aload_n 0, 1) := by decide +kernel
theorem d_Rp_put_59 : decode cd_Rp_put 59 = .ok (.getfield 12, 3) := by decide +kernel
theorem d_Rp_put_62 : decode cd_Rp_put 62 = .ok (.getfield 45, 3) := by decide +kernel
theorem d_Rp_put_65 : decode cd_Rp_put 65 = .ok (.iload 4, 2) := by decide +kernel
theorem d_Rp_put_67 : decode cd_Rp_put 67 = .ok (.invokevirtual 122, 3) := by decide +kernel
theorem d_Rp_put_70 : decode cd_Rp_put 70 = .ok (.invokevirtual 125, 3) := by decide +kernel
theorem d_Rp_put_73 : decode cd_Rp_put 73 = .ok (.ifCond .eq 6, 3) := by decide +kernel
theorem d_Rp_put_76 : decode cd_Rp_put 76 = .ok (.bipush (-2), 2) := by decide +kernel
theorem d_Rp_put_78 : decode cd_Rp_put 78 = .ok (.ireturn, 1) := by decide +kernel
theorem d_Rp_put_79 : decode cd_Rp_put 79 = .ok (.aload_n 0, 1) := by decide +kernel
theorem d_Rp_put_80 : decode cd_Rp_put 80 = .ok (.getfield 12, 3) := by decide +kernel
theorem d_Rp_put_83 : decode cd_Rp_put 83 = .ok (.getfield 34, 3) := by decide +kernel
theorem d_Rp_put_86 : decode cd_Rp_put 86 = .ok (.getfield 119, 3) := by decide +kernel
theorem d_Rp_put_89 : decode cd_Rp_put 89 = .ok (.iload 4, 2) := by decide +kernel
theorem d_Rp_put_91 : decode cd_Rp_put 91 = .ok (.iconst 1, 1) := by decide +kernel
theorem d_Rp_put_92 : decode cd_Rp_put 92 = .ok (.iadd, 1) := by decide +kernel
theorem d_Rp_put_93 : decode cd_Rp_put 93 = .ok (.iload_n 2, 1) := by decide +kernel
theorem d_Rp_put_94 : decode cd_Rp_put 94 = .ok (.iadd, 1) := by decide +kernel
theorem d_Rp_put_95 : decode cd_Rp_put 95 = .ok (.aload_n 0, 1) := by decide +kernel
theorem d_Rp_put_96 : decode cd_Rp_put 96 = .ok (.getfield 12, 3) := by decide +kernel
theorem d_Rp_put_99 : decode cd_Rp_put 99 = .ok (.getfield 75, 3) := by decide +kernel
theorem d_Rp_put_102 : decode cd_Rp_put 102 = .ok (.iload_n 3, 1) := by decide +kernel
theorem d_Rp_put_103 : decode cd_Rp_put 103 = .ok (.invokevirtual 88, 3) := by decide +kernel
theorem d_Rp_put_106 : decode cd_Rp_put 106 = .ok (.iconst 1, 1) := by decide +kernel
theorem d_Rp_put_107 : decode cd_Rp_put 107 = .ok (.ireturn, 1) := by decide +kernel
set_option maxRecDepth 100000 in
set_option maxHeartbeats 4000000 in
theorem c_Rp_put {l : Launch} {V : xV} {σ : xS} {x1 x2 x3 : Int32} {Q : Int32 → xS → Prop} (h : p_Rp_put x1 x2 x3 σ Q) : xMi l y_Rp_put (.code y_Rp_put cd_Rp_put 5 (some .int) :: xG) rm_Rp_put V [.ref (V.2.2 0), .int x1, .int x2, .int x3] σ Q := by
  refine x_begini (by decide) (Nat.le_of_ble_eq_true rfl) (fun p e s m below meth c ls C hlocks hr hI hl => ?_)
  have C : xC p s m _ c cd_Rp_put 5 R_Rp V := C
  have hx := C.1
  have hb := C.2.1
  have hl : lv_has ls 5 [(0, .ref (V.2.2 0)), (1, .int x1), (2, .int x2), (3, .int x3)] := hl
  unfold p_Rp_put at h
  refine lv_aload_n hx hb d_Rp_put_0 rfl (lv_at hl 0 rfl) ?_
  refine lv_iload_n hx hb d_Rp_put_1 rfl (lv_at hl 1 rfl) ?_
  refine x_callv C hI hl.1 (d := 0) (As := [.int x1]) (rest := []) (by decide) (c_Rp_checkRoot h) (xE0 V _) rfl yw_Rp_checkRoot ml_Rp_72 rfl rfl ⟨Nat.le_of_ble_eq_true rfl, Nat.le_of_ble_eq_true rfl⟩ rfl rfl (Nat.le_of_ble_eq_true rfl) d_Rp_put_2 ⟨Nat.zero_le _, Nat.zero_le _⟩ (fun σ1 H locs h hI => ?_)
  refine lv_aload_n hx hb d_Rp_put_5 rfl (lv_at hl 0 rfl) ?_
  refine lv_iload_n hx hb d_Rp_put_6 rfl (lv_at hl 3 rfl) ?_
  refine x_callv C hI hl.1 (d := 0) (As := [.int x3]) (rest := []) (by decide) (c_Rp_checkRoot h) (xE0 V _) rfl yw_Rp_checkRoot ml_Rp_72 rfl rfl ⟨Nat.le_of_ble_eq_true rfl, Nat.le_of_ble_eq_true rfl⟩ rfl rfl (Nat.le_of_ble_eq_true rfl) d_Rp_put_7 ⟨Nat.zero_le _, Nat.zero_le _⟩ (fun σ2 H locs h hI => ?_)
  refine lv_aload_n hx hb d_Rp_put_10 rfl (lv_at hl 0 rfl) ?_
  refine lv_iload_n hx hb d_Rp_put_11 rfl (lv_at hl 1 rfl) ?_
  refine x_callv C hI hl.1 (d := 0) (As := [.int x1]) (rest := []) (by decide) (c_Rp_checkReference h) (xE0 V _) rfl yw_Rp_checkReference ml_Rp_109 rfl rfl ⟨Nat.le_of_ble_eq_true rfl, Nat.le_of_ble_eq_true rfl⟩ rfl rfl (Nat.le_of_ble_eq_true rfl) d_Rp_put_12 ⟨Nat.zero_le _, Nat.zero_le _⟩ (fun σ3 H locs h hI => ?_)
  refine lv_aload_n hx hb d_Rp_put_15 rfl (lv_at hl 0 rfl) ?_
  refine x_get C hI (d := 0) (by decide) (xE0 V _) fd_Rp_12 rfl d_Rp_put_16 ?_
  refine x_get C hI (d := 1) (by decide) (xE1 V _) fd_Rp_75 rfl d_Rp_put_19 ?_
  refine lv_iload_n hx hb d_Rp_put_22 rfl (lv_at hl 1 rfl) ?_
  refine x_calli C hI hl.1 (d := 5) (As := [.int x1]) (rest := []) (by decide) (c_Val_contentOf_5 h) (xE5 V _) rfl yw_Val_contentOf ml_Rp_112 rfl rfl ⟨Nat.le_of_ble_eq_true rfl, Nat.le_of_ble_eq_true rfl⟩ rfl rfl (Nat.le_of_ble_eq_true rfl) d_Rp_put_23 ⟨Nat.zero_le _, Nat.zero_le _⟩ (fun r5 σ4 H locs h hI => ?_)
  refine lv_istore (lv' := [(4, .int r5), (0, .ref (V.2.2 0)), (1, .int x1), (2, .int x2), (3, .int x3)]) hx hb d_Rp_put_26 hl (by decide) rfl (fun ls hl => ?_)
  refine lv_aload_n hx hb d_Rp_put_28 rfl (lv_at hl 1 rfl) ?_
  refine x_get C hI (d := 0) (by decide) (xE0 V _) fd_Rp_12 rfl d_Rp_put_29 ?_
  refine x_get C hI (d := 1) (by decide) (xE1 V _) fd_Rp_34 rfl d_Rp_put_32 ?_
  refine lv_iload hx hb d_Rp_put_35 (lv_at hl 0 rfl) ?_
  refine lv_iload_n hx hb d_Rp_put_37 rfl (lv_at hl 3 rfl) ?_
  refine x_calli C hI hl.1 (d := 6) (As := [.int r5, .int x2]) (rest := []) (by decide) (c_Hea_hasField h) (xE6 V _) rfl yw_Hea_hasField ml_Rp_115 rfl rfl ⟨Nat.le_of_ble_eq_true rfl, Nat.le_of_ble_eq_true rfl⟩ rfl rfl (Nat.le_of_ble_eq_true rfl) d_Rp_put_38 ⟨Nat.zero_le _, Nat.zero_le _⟩ (fun r7 σ6 H locs h hI => ?_)
  refine lv_if_ne (tgt := 46) hx hb d_Rp_put_41 (by decide) (fun c8 => ?_) (fun c8 => ?_)
  · have h := h.1 c8
    refine lv_aload_n hx hb d_Rp_put_46 rfl (lv_at hl 1 rfl) ?_
    refine x_get C hI (d := 0) (by decide) (xE0 V _) fd_Rp_12 rfl d_Rp_put_47 ?_
    refine lv_aload_n hx hb d_Rp_put_50 rfl (lv_at hl 1 rfl) ?_
    refine x_get C hI (d := 0) (by decide) (xE0 V _) fd_Rp_12 rfl d_Rp_put_51 ?_
    refine x_get C hI (d := 1) (by decide) (xE1 V _) fd_Rp_75 rfl d_Rp_put_54 ?_
    refine lv_iload_n hx hb d_Rp_put_57 rfl (lv_at hl 4 rfl) ?_
    refine lv_aload_n hx hb d_Rp_put_58 rfl (lv_at hl 1 rfl) ?_
    refine x_get C hI (d := 0) (by decide) (xE0 V _) fd_Rp_12 rfl d_Rp_put_59 ?_
    refine x_get C hI (d := 1) (by decide) (xE1 V _) fd_Rp_45 rfl d_Rp_put_62 ?_
    refine lv_iload hx hb d_Rp_put_65 (lv_at hl 0 rfl) ?_
    refine x_calli C hI hl.1 (d := 7) (As := [.int r5]) (rest := [.int x3, .ref (V.2.2 5), .ref (V.2.2 1)]) (by decide) (c_Reg_ofPlace h) (xE7 V _) rfl yw_Reg_ofPlace ml_Rp_122 rfl rfl ⟨Nat.le_of_ble_eq_true rfl, Nat.le_of_ble_eq_true rfl⟩ rfl rfl (Nat.le_of_ble_eq_true rfl) d_Rp_put_67 ⟨Nat.zero_le _, Nat.zero_le _⟩ (fun r10 σ9 H locs h hI => ?_)
    refine x_calli C hI hl.1 (d := 1) (As := [.ref (V.2.2 5), .int x3, .int r10]) (rest := []) (by decide) (c_Mem_refersBeyond_1_5 h) (xE1 V _) rfl yw_Mem_refersBeyond ml_Rp_125 rfl rfl ⟨Nat.le_of_ble_eq_true rfl, Nat.le_of_ble_eq_true rfl⟩ rfl rfl (Nat.le_of_ble_eq_true rfl) d_Rp_put_70 ⟨Nat.zero_le _, Nat.zero_le _⟩ (fun r12 σ11 H locs h hI => ?_)
    refine lv_if_eq (tgt := 79) hx hb d_Rp_put_73 (by decide) (fun c13 => ?_) (fun c13 => ?_)
    · have h := h.1 c13
      refine lv_aload_n hx hb d_Rp_put_79 rfl (lv_at hl 1 rfl) ?_
      refine x_get C hI (d := 0) (by decide) (xE0 V _) fd_Rp_12 rfl d_Rp_put_80 ?_
      refine x_get C hI (d := 1) (by decide) (xE1 V _) fd_Rp_34 rfl d_Rp_put_83 ?_
      refine x_get C hI (d := 6) (by decide) (xE6 V _) fd_Rp_119 rfl d_Rp_put_86 ?_
      refine lv_iload hx hb d_Rp_put_89 (lv_at hl 0 rfl) ?_
      refine lv_iconst (v := 1) hx hb d_Rp_put_91 (by decide) ?_
      refine lv_iadd hx hb d_Rp_put_92 ?_
      refine lv_iload_n hx hb d_Rp_put_93 rfl (lv_at hl 3 rfl) ?_
      refine lv_iadd hx hb d_Rp_put_94 ?_
      refine lv_aload_n hx hb d_Rp_put_95 rfl (lv_at hl 1 rfl) ?_
      refine x_get C hI (d := 0) (by decide) (xE0 V _) fd_Rp_12 rfl d_Rp_put_96 ?_
      refine x_get C hI (d := 1) (by decide) (xE1 V _) fd_Rp_75 rfl d_Rp_put_99 ?_
      refine lv_iload_n hx hb d_Rp_put_102 rfl (lv_at hl 4 rfl) ?_
      refine x_callv C hI hl.1 (d := 19) (As := [.int ((r5 + 1) + x2), .ref (V.2.2 5), .int x3]) (rest := []) (by decide) (c_Val_take_19_5 h) (xE19 V _) rfl yw_Val_take ml_Rp_88 rfl rfl ⟨Nat.le_of_ble_eq_true rfl, Nat.le_of_ble_eq_true rfl⟩ rfl rfl (Nat.le_of_ble_eq_true rfl) d_Rp_put_103 ⟨Nat.zero_le _, Nat.zero_le _⟩ (fun σ14 H locs h hI => ?_)
      refine lv_iconst (v := 1) hx hb d_Rp_put_106 (by decide) ?_
      exact x_iret C hlocks hr hI h d_Rp_put_107
    · have h := h.2 c13
      refine lv_bipush (v := (-2)) hx hb d_Rp_put_76 (by decide) ?_
      exact x_iret C hlocks hr hI h d_Rp_put_78
  · have h := h.2 c8
    refine lv_iconst (v := (-1)) hx hb d_Rp_put_44 (by decide) ?_
    exact x_iret C hlocks hr hI h d_Rp_put_45
def y_Rp_lift : MethodName := ⟨"RegionPool", "lift", "(II)I"⟩
abbrev cd_Rp_lift : ByteArray := prog_1_method_11_code
theorem fd_Rp_28 : xFd R_Rp 28 0 2 := ⟨R_Rp, T_Rp, 6, rfl, in_Rp, by decide, xG_mem 280 (by decide +kernel) (by decide +kernel)⟩
theorem yw_Par_find : xY y_Par_find cd_Par_find 4 none 2 := ⟨xG_mem 822 (by decide +kernel) (by decide +kernel), xG_mem 823 (by decide +kernel) (by decide +kernel), xG_mem 63 (by decide +kernel) (by decide +kernel), xG_mem 824 (by decide +kernel) (by decide +kernel), by decide, by decide, by decide +kernel⟩
theorem ml_Rp_129 : Cond.methodLink R_Rp 129 y_Par_find ∈ xG := xG_mem 821 (by decide +kernel) (by decide +kernel)
theorem yw_Par_fitInto : xY y_Par_fitInto cd_Par_fitInto 6 (some .boolean) 1 := ⟨xG_mem 837 (by decide +kernel) (by decide +kernel), xG_mem 838 (by decide +kernel) (by decide +kernel), xG_mem 63 (by decide +kernel) (by decide +kernel), xG_mem 839 (by decide +kernel) (by decide +kernel), by decide, by decide, by decide +kernel⟩
theorem ml_Rp_132 : Cond.methodLink R_Rp 132 y_Par_fitInto ∈ xG := xG_mem 836 (by decide +kernel) (by decide +kernel)
theorem yw_Par_transfer : xY y_Par_transfer cd_Par_transfer 3 none 1 := ⟨xG_mem 847 (by decide +kernel) (by decide +kernel), xG_mem 848 (by decide +kernel) (by decide +kernel), xG_mem 63 (by decide +kernel) (by decide +kernel), xG_mem 849 (by decide +kernel) (by decide +kernel), by decide, by decide, by decide +kernel⟩
theorem ml_Rp_136 : Cond.methodLink R_Rp 136 y_Par_transfer ∈ xG := xG_mem 846 (by decide +kernel) (by decide +kernel)
theorem yw_Par_amount : xY y_Par_amount cd_Par_amount 1 (some .int) 0 := ⟨xG_mem 864 (by decide +kernel) (by decide +kernel), xG_mem 865 (by decide +kernel) (by decide +kernel), xG_mem 63 (by decide +kernel) (by decide +kernel), xG_mem 866 (by decide +kernel) (by decide +kernel), by decide, by decide, by decide +kernel⟩
theorem ml_Rp_143 : Cond.methodLink R_Rp 143 y_Par_amount ∈ xG := xG_mem 863 (by decide +kernel) (by decide +kernel)
theorem fw_Rp_139 : xFw R_Rp 139 0 4 := ⟨R_Rp, T_Rp, 6, t_Rp, rfl, in_Rp, by decide, xG_mem 282 (by decide +kernel) (by decide +kernel), tk_Rp, nm_Rp, rfl, by decide +kernel⟩
theorem xP_0_4 (V : xV) (f : Nat → Int32) (x : Int32) : xE V 0 (upd f 4 x) = .inr (0, [.ref (V.2.2 1), .ref (V.2.2 2), .ref (V.2.2 3), .ref (V.2.2 4), .int (f 4), .int (f 5)].set 4 (.int x)) := rfl
def p_Rp_lift (x1 x2 : Int32) (σ : xS) (Q : Int32 → xS → Prop) : Prop :=
  p_Rp_checkRoot x1 σ (fun σ1 => p_Rp_checkRegion x2 σ1 (fun σ2 => p_Par_find x1 x2 σ2 (fun σ3 => p_Par_fitInto x2 σ3 (fun r5 σ4 => ((¬ r5 = 0 → p_Par_transfer x2 σ4 (fun σ7 => p_Par_amount σ7 (fun r9 σ8 => p_Par_amount (xu σ8 0 4 ((σ7 0 4) + r9)) (fun r11 σ10 => Q r11 σ10)))) ∧ (r5 = 0 → Q (-1) σ4))))))
abbrev rm_Rp_lift : Room := { frames := 5, cells := 0, slots := 0, locals := 114 }
theorem d_Rp_lift_0 : decode cd_Rp_lift 0 = .ok (.aload_n 0, 1) := by decide +kernel
theorem d_Rp_lift_1 : decode cd_Rp_lift 1 = .ok (.iload_n 1, 1) := by decide +kernel
theorem d_Rp_lift_2 : decode cd_Rp_lift 2 = .ok (.invokevirtual 72, 3) := by decide +kernel
theorem d_Rp_lift_5 : decode cd_Rp_lift 5 = .ok (.aload_n 0, 1) := by decide +kernel
theorem d_Rp_lift_6 : decode cd_Rp_lift 6 = .ok (.iload_n 2, 1) := by decide +kernel
theorem d_Rp_lift_7 : decode cd_Rp_lift 7 = .ok (.invokevirtual 65, 3) := by decide +kernel
theorem d_Rp_lift_10 : decode cd_Rp_lift 10 = .ok (.aload_n 0, 1) := by decide +kernel
theorem d_Rp_lift_11 : decode cd_Rp_lift 11 = .ok (.getfield 28, 3) := by decide +kernel
theorem d_Rp_lift_14 : decode cd_Rp_lift 14 = .ok (.iload_n 1, 1) := by decide +kernel
theorem d_Rp_lift_15 : decode cd_Rp_lift 15 = .ok (.iload_n 2, 1) := by decide +kernel
theorem d_Rp_lift_16 : decode cd_Rp_lift 16 = .ok (.invokevirtual 129, 3) := by decide +kernel
theorem d_Rp_lift_19 : decode cd_Rp_lift 19 = .ok (.aload_n 0, 1) := by decide +kernel
theorem d_Rp_lift_20 : decode cd_Rp_lift 20 = .ok (.getfield 28, 3) := by decide +kernel
theorem d_Rp_lift_23 : decode cd_Rp_lift 23 = .ok (.iload_n 2, 1) := by decide +kernel
theorem d_Rp_lift_24 : decode cd_Rp_lift 24 = .ok (.invokevirtual 132, 3) := by decide +kernel
theorem d_Rp_lift_27 : decode cd_Rp_lift 27 = .ok (.ifCond .ne 5, 3) := by decide +kernel
theorem d_Rp_lift_30 : decode cd_Rp_lift 30 = .ok (.iconst (-1), 1) := by decide +kernel
theorem d_Rp_lift_31 : decode cd_Rp_lift 31 = .ok (.ireturn, 1) := by decide +kernel
theorem d_Rp_lift_32 : decode cd_Rp_lift 32 = .ok (.aload_n 0, 1) := by decide +kernel
theorem d_Rp_lift_33 : decode cd_Rp_lift 33 = .ok (.getfield 28, 3) := by decide +kernel
theorem d_Rp_lift_36 : decode cd_Rp_lift 36 = .ok (.iload_n 2, 1) := by decide +kernel
theorem d_Rp_lift_37 : decode cd_Rp_lift 37 = .ok (.invokevirtual 136, 3) := by decide +kernel
theorem d_Rp_lift_40 : decode cd_Rp_lift 40 = .ok (.aload_n 0, 1) := by decide +kernel
theorem d_Rp_lift_41 : decode cd_Rp_lift 41 = .ok (.dup, 1) := by decide +kernel
theorem d_Rp_lift_42 : decode cd_Rp_lift 42 = .ok (.getfield 139, 3) := by decide +kernel
theorem d_Rp_lift_45 : decode cd_Rp_lift 45 = .ok (.aload_n 0, 1) := by decide +kernel
theorem d_Rp_lift_46 : decode cd_Rp_lift 46 = .ok (.getfield 28, 3) := by decide +kernel
theorem d_Rp_lift_49 : decode cd_Rp_lift 49 = .ok (.invokevirtual 143, 3) := by decide +kernel
theorem d_Rp_lift_52 : decode cd_Rp_lift 52 = .ok (.iadd, 1) := by decide +kernel
theorem d_Rp_lift_53 : decode cd_Rp_lift 53 = .ok (.putfield 139, 3) := by decide +kernel
theorem d_Rp_lift_56 : decode cd_Rp_lift 56 = .ok (.aload_n 0, 1) := by decide +kernel
theorem d_Rp_lift_57 : decode cd_Rp_lift 57 = .ok (.getfield 28, 3) := by decide +kernel
theorem d_Rp_lift_60 : decode cd_Rp_lift 60 = .ok (.invokevirtual 143, 3) := by decide +kernel
theorem d_Rp_lift_63 : decode cd_Rp_lift 63 = .ok (.ireturn, 1) := by decide +kernel
set_option maxRecDepth 100000 in
set_option maxHeartbeats 4000000 in
theorem c_Rp_lift {l : Launch} {V : xV} {σ : xS} {x1 x2 : Int32} {Q : Int32 → xS → Prop} (h : p_Rp_lift x1 x2 σ Q) : xMi l y_Rp_lift (.code y_Rp_lift cd_Rp_lift 3 (some .int) :: xG) rm_Rp_lift V [.ref (V.2.2 0), .int x1, .int x2] σ Q := by
  refine x_begini (by decide) (Nat.le_of_ble_eq_true rfl) (fun p e s m below meth c ls C hlocks hr hI hl => ?_)
  have C : xC p s m _ c cd_Rp_lift 3 R_Rp V := C
  have hx := C.1
  have hb := C.2.1
  have hl : lv_has ls 3 [(0, .ref (V.2.2 0)), (1, .int x1), (2, .int x2)] := hl
  unfold p_Rp_lift at h
  refine lv_aload_n hx hb d_Rp_lift_0 rfl (lv_at hl 0 rfl) ?_
  refine lv_iload_n hx hb d_Rp_lift_1 rfl (lv_at hl 1 rfl) ?_
  refine x_callv C hI hl.1 (d := 0) (As := [.int x1]) (rest := []) (by decide) (c_Rp_checkRoot h) (xE0 V _) rfl yw_Rp_checkRoot ml_Rp_72 rfl rfl ⟨Nat.le_of_ble_eq_true rfl, Nat.le_of_ble_eq_true rfl⟩ rfl rfl (Nat.le_of_ble_eq_true rfl) d_Rp_lift_2 ⟨Nat.zero_le _, Nat.zero_le _⟩ (fun σ1 H locs h hI => ?_)
  refine lv_aload_n hx hb d_Rp_lift_5 rfl (lv_at hl 0 rfl) ?_
  refine lv_iload_n hx hb d_Rp_lift_6 rfl (lv_at hl 2 rfl) ?_
  refine x_callv C hI hl.1 (d := 0) (As := [.int x2]) (rest := []) (by decide) (c_Rp_checkRegion h) (xE0 V _) rfl yw_Rp_checkRegion ml_Rp_65 rfl rfl ⟨Nat.le_of_ble_eq_true rfl, Nat.le_of_ble_eq_true rfl⟩ rfl rfl (Nat.le_of_ble_eq_true rfl) d_Rp_lift_7 ⟨Nat.zero_le _, Nat.zero_le _⟩ (fun σ2 H locs h hI => ?_)
  refine lv_aload_n hx hb d_Rp_lift_10 rfl (lv_at hl 0 rfl) ?_
  refine x_get C hI (d := 0) (by decide) (xE0 V _) fd_Rp_28 rfl d_Rp_lift_11 ?_
  refine lv_iload_n hx hb d_Rp_lift_14 rfl (lv_at hl 1 rfl) ?_
  refine lv_iload_n hx hb d_Rp_lift_15 rfl (lv_at hl 2 rfl) ?_
  refine x_callv C hI hl.1 (d := 3) (As := [.int x1, .int x2]) (rest := []) (by decide) (c_Par_find h) (xE3 V _) rfl yw_Par_find ml_Rp_129 rfl rfl ⟨Nat.le_of_ble_eq_true rfl, Nat.le_of_ble_eq_true rfl⟩ rfl rfl (Nat.le_of_ble_eq_true rfl) d_Rp_lift_16 ⟨Nat.zero_le _, Nat.zero_le _⟩ (fun σ3 H locs h hI => ?_)
  refine lv_aload_n hx hb d_Rp_lift_19 rfl (lv_at hl 0 rfl) ?_
  refine x_get C hI (d := 0) (by decide) (xE0 V _) fd_Rp_28 rfl d_Rp_lift_20 ?_
  refine lv_iload_n hx hb d_Rp_lift_23 rfl (lv_at hl 2 rfl) ?_
  refine x_calli C hI hl.1 (d := 3) (As := [.int x2]) (rest := []) (by decide) (c_Par_fitInto h) (xE3 V _) rfl yw_Par_fitInto ml_Rp_132 rfl rfl ⟨Nat.le_of_ble_eq_true rfl, Nat.le_of_ble_eq_true rfl⟩ rfl rfl (Nat.le_of_ble_eq_true rfl) d_Rp_lift_24 ⟨Nat.zero_le _, Nat.zero_le _⟩ (fun r5 σ4 H locs h hI => ?_)
  refine lv_if_ne (tgt := 32) hx hb d_Rp_lift_27 (by decide) (fun c6 => ?_) (fun c6 => ?_)
  · have h := h.1 c6
    refine lv_aload_n hx hb d_Rp_lift_32 rfl (lv_at hl 0 rfl) ?_
    refine x_get C hI (d := 0) (by decide) (xE0 V _) fd_Rp_28 rfl d_Rp_lift_33 ?_
    refine lv_iload_n hx hb d_Rp_lift_36 rfl (lv_at hl 2 rfl) ?_
    refine x_callv C hI hl.1 (d := 3) (As := [.int x2]) (rest := []) (by decide) (c_Par_transfer h) (xE3 V _) rfl yw_Par_transfer ml_Rp_136 rfl rfl ⟨Nat.le_of_ble_eq_true rfl, Nat.le_of_ble_eq_true rfl⟩ rfl rfl (Nat.le_of_ble_eq_true rfl) d_Rp_lift_37 ⟨Nat.zero_le _, Nat.zero_le _⟩ (fun σ7 H locs h hI => ?_)
    refine lv_aload_n hx hb d_Rp_lift_40 rfl (lv_at hl 0 rfl) ?_
    refine lv_dup hx hb d_Rp_lift_41 rfl ?_
    refine x_get C hI (d := 0) (by decide) (xE0 V _) fd_Rp_139 rfl d_Rp_lift_42 ?_
    refine lv_aload_n hx hb d_Rp_lift_45 rfl (lv_at hl 0 rfl) ?_
    refine x_get C hI (d := 0) (by decide) (xE0 V _) fd_Rp_28 rfl d_Rp_lift_46 ?_
    refine x_calli C hI hl.1 (d := 3) (As := []) (rest := [.int (σ7 0 4), .ref (V.2.2 0)]) (by decide) (c_Par_amount h) (xE3 V _) rfl yw_Par_amount ml_Rp_143 rfl rfl ⟨Nat.le_of_ble_eq_true rfl, Nat.le_of_ble_eq_true rfl⟩ rfl rfl (Nat.le_of_ble_eq_true rfl) d_Rp_lift_49 ⟨Nat.zero_le _, Nat.zero_le _⟩ (fun r9 σ8 H locs h hI => ?_)
    refine lv_iadd hx hb d_Rp_lift_52 ?_
    refine x_put C hI (d := 0) (by decide) (xE0 V _) (xP_0_4 V _ _) fw_Rp_139 (Nat.le_of_ble_eq_true rfl) d_Rp_lift_53 (fun H locs hI => ?_)
    refine lv_aload_n hx hb d_Rp_lift_56 rfl (lv_at hl 0 rfl) ?_
    refine x_get C hI (d := 0) (by decide) (xE0 V _) fd_Rp_28 rfl d_Rp_lift_57 ?_
    refine x_calli C hI hl.1 (d := 3) (As := []) (rest := []) (by decide) (c_Par_amount h) (xE3 V _) rfl yw_Par_amount ml_Rp_143 rfl rfl ⟨Nat.le_of_ble_eq_true rfl, Nat.le_of_ble_eq_true rfl⟩ rfl rfl (Nat.le_of_ble_eq_true rfl) d_Rp_lift_60 ⟨Nat.zero_le _, Nat.zero_le _⟩ (fun r11 σ10 H locs h hI => ?_)
    exact x_iret C hlocks hr hI h d_Rp_lift_63
  · have h := h.2 c6
    refine lv_iconst (v := (-1)) hx hb d_Rp_lift_30 (by decide) ?_
    exact x_iret C hlocks hr hI h d_Rp_lift_31
def y_Rp_copy : MethodName := ⟨"RegionPool", "copy", "(III)I"⟩
abbrev cd_Rp_copy : ByteArray := prog_1_method_12_code
theorem yw_Par_duplicate : xY y_Par_duplicate cd_Par_duplicate 4 none 1 := ⟨xG_mem 875 (by decide +kernel) (by decide +kernel), xG_mem 876 (by decide +kernel) (by decide +kernel), xG_mem 63 (by decide +kernel) (by decide +kernel), xG_mem 877 (by decide +kernel) (by decide +kernel), by decide, by decide, by decide +kernel⟩
theorem ml_Rp_144 : Cond.methodLink R_Rp 144 y_Par_duplicate ∈ xG := xG_mem 874 (by decide +kernel) (by decide +kernel)
theorem ml_Rp_147 : Cond.methodLink R_Rp 147 y_Mem_followMove ∈ xG := xG_mem 892 (by decide +kernel) (by decide +kernel)
theorem fw_Rp_151 : xFw R_Rp 151 0 5 := ⟨R_Rp, T_Rp, 6, t_Rp, rfl, in_Rp, by decide, xG_mem 283 (by decide +kernel) (by decide +kernel), tk_Rp, nm_Rp, rfl, by decide +kernel⟩
theorem xP_0_5 (V : xV) (f : Nat → Int32) (x : Int32) : xE V 0 (upd f 5 x) = .inr (0, [.ref (V.2.2 1), .ref (V.2.2 2), .ref (V.2.2 3), .ref (V.2.2 4), .int (f 4), .int (f 5)].set 5 (.int x)) := rfl
def p_Rp_copy (x1 x2 x3 : Int32) (σ : xS) (Q : Int32 → xS → Prop) : Prop :=
  p_Rp_checkRoot x1 σ (fun σ1 => p_Rp_checkRoot x2 σ1 (fun σ2 => p_Rp_checkRegion x3 σ2 (fun σ3 => p_Par_find x2 x3 σ3 (fun σ4 => p_Par_fitInto x3 σ4 (fun r6 σ5 => ((¬ r6 = 0 → p_Par_duplicate x3 σ5 (fun σ8 => p_Val_take_5_5 x1 x2 σ8 (fun σ9 => p_Mem_followMove_1_5 x1 σ9 (fun σ10 => p_Par_amount σ10 (fun r12 σ11 => p_Par_amount (xu σ11 0 5 ((σ10 0 5) + r12)) (fun r14 σ13 => Q r14 σ13)))))) ∧ (r6 = 0 → Q (-1) σ5)))))))
abbrev rm_Rp_copy : Room := { frames := 5, cells := 0, slots := 0, locals := 114 }
theorem d_Rp_copy_0 : decode cd_Rp_copy 0 = .ok (.aload_n 0, 1) := by decide +kernel
theorem d_Rp_copy_1 : decode cd_Rp_copy 1 = .ok (.iload_n 1, 1) := by decide +kernel
theorem d_Rp_copy_2 : decode cd_Rp_copy 2 = .ok (.invokevirtual 72, 3) := by decide +kernel
theorem d_Rp_copy_5 : decode cd_Rp_copy 5 = .ok (.aload_n 0, 1) := by decide +kernel
theorem d_Rp_copy_6 : decode cd_Rp_copy 6 = .ok (.iload_n 2, 1) := by decide +kernel
theorem d_Rp_copy_7 : decode cd_Rp_copy 7 = .ok (.invokevirtual 72, 3) := by decide +kernel
theorem d_Rp_copy_10 : decode cd_Rp_copy 10 = .ok (.aload_n 0, 1) := by decide +kernel
theorem d_Rp_copy_11 : decode cd_Rp_copy 11 = .ok (.iload_n 3, 1) := by decide +kernel
theorem d_Rp_copy_12 : decode cd_Rp_copy 12 = .ok (.invokevirtual 65, 3) := by decide +kernel
theorem d_Rp_copy_15 : decode cd_Rp_copy 15 = .ok (.aload_n 0, 1) := by decide +kernel
theorem d_Rp_copy_16 : decode cd_Rp_copy 16 = .ok (.getfield 28, 3) := by decide +kernel
theorem d_Rp_copy_19 : decode cd_Rp_copy 19 = .ok (.iload_n 2, 1) := by decide +kernel
theorem d_Rp_copy_20 : decode cd_Rp_copy 20 = .ok (.iload_n 3, 1) := by decide +kernel
theorem d_Rp_copy_21 : decode cd_Rp_copy 21 = .ok (.invokevirtual 129, 3) := by decide +kernel
theorem d_Rp_copy_24 : decode cd_Rp_copy 24 = .ok (.aload_n 0, 1) := by decide +kernel
theorem d_Rp_copy_25 : decode cd_Rp_copy 25 = .ok (.getfield 28, 3) := by decide +kernel
theorem d_Rp_copy_28 : decode cd_Rp_copy 28 = .ok (.iload_n 3, 1) := by decide +kernel
theorem d_Rp_copy_29 : decode cd_Rp_copy 29 = .ok (.invokevirtual 132, 3) := by decide +kernel
theorem d_Rp_copy_32 : decode cd_Rp_copy 32 = .ok (.ifCond .ne 5, 3) := by decide +kernel
theorem d_Rp_copy_35 : decode cd_Rp_copy 35 = .ok (.iconst (-1), 1) := by decide +kernel
theorem d_Rp_copy_36 : decode cd_Rp_copy 36 = .ok (.ireturn, 1) := by decide +kernel
theorem d_Rp_copy_37 : decode cd_Rp_copy 37 = .ok (.aload_n 0, 1) := by decide +kernel
theorem d_Rp_copy_38 : decode cd_Rp_copy 38 = .ok (.getfield 28, 3) := by decide +kernel
theorem d_Rp_copy_41 : decode cd_Rp_copy 41 = .ok (.iload_n 3, 1) := by decide +kernel
theorem d_Rp_copy_42 : decode cd_Rp_copy 42 = .ok (.invokevirtual 144, 3) := by decide +kernel
theorem d_Rp_copy_45 : decode cd_Rp_copy 45 = .ok (.aload_n 0, 1) := by decide +kernel
theorem d_Rp_copy_46 : decode cd_Rp_copy 46 = .ok (.getfield 12, 3) := by decide +kernel
theorem d_Rp_copy_49 : decode cd_Rp_copy 49 = .ok (.getfield 75, 3) := by decide +kernel
theorem d_Rp_copy_52 : decode cd_Rp_copy 52 = .ok (.iload_n 1, 1) := by decide +kernel
theorem d_Rp_copy_53 : decode cd_Rp_copy 53 = .ok (.aload_n 0, 1) := by decide +kernel
theorem d_Rp_copy_54 : decode cd_Rp_copy 54 = .ok (.getfield 12, 3) := by decide +kernel
theorem d_Rp_copy_57 : decode cd_Rp_copy 57 = .ok (.getfield 75, 3) := by decide +kernel
theorem d_Rp_copy_60 : decode cd_Rp_copy 60 = .ok (.iload_n 2, 1) := by decide +kernel
theorem d_Rp_copy_61 : decode cd_Rp_copy 61 = .ok (.invokevirtual 88, 3) := by decide +kernel
theorem d_Rp_copy_64 : decode cd_Rp_copy 64 = .ok (.aload_n 0, 1) := by decide +kernel
theorem d_Rp_copy_65 : decode cd_Rp_copy 65 = .ok (.getfield 12, 3) := by decide +kernel
theorem d_Rp_copy_68 : decode cd_Rp_copy 68 = .ok (.aload_n 0, 1) := by decide +kernel
theorem d_Rp_copy_69 : decode cd_Rp_copy 69 = .ok (.getfield 12, 3) := by decide +kernel
theorem d_Rp_copy_72 : decode cd_Rp_copy 72 = .ok (.getfield 75, 3) := by decide +kernel
theorem d_Rp_copy_75 : decode cd_Rp_copy 75 = .ok (.iload_n 1, 1) := by decide +kernel
theorem d_Rp_copy_76 : decode cd_Rp_copy 76 = .ok (.invokevirtual 147, 3) := by decide +kernel
theorem d_Rp_copy_79 : decode cd_Rp_copy 79 = .ok (.aload_n 0, 1) := by decide +kernel
theorem d_Rp_copy_80 : decode cd_Rp_copy 80 = .ok (.dup, 1) := by decide +kernel
theorem d_Rp_copy_81 : decode cd_Rp_copy 81 = .ok (.getfield 151, 3) := by decide +kernel
theorem d_Rp_copy_84 : decode cd_Rp_copy 84 = .ok (.aload_n 0, 1) := by decide +kernel
theorem d_Rp_copy_85 : decode cd_Rp_copy 85 = .ok (.getfield 28, 3) := by decide +kernel
theorem d_Rp_copy_88 : decode cd_Rp_copy 88 = .ok (.invokevirtual 143, 3) := by decide +kernel
theorem d_Rp_copy_91 : decode cd_Rp_copy 91 = .ok (.iadd, 1) := by decide +kernel
theorem d_Rp_copy_92 : decode cd_Rp_copy 92 = .ok (.putfield 151, 3) := by decide +kernel
theorem d_Rp_copy_95 : decode cd_Rp_copy 95 = .ok (.aload_n 0, 1) := by decide +kernel
theorem d_Rp_copy_96 : decode cd_Rp_copy 96 = .ok (.getfield 28, 3) := by decide +kernel
theorem d_Rp_copy_99 : decode cd_Rp_copy 99 = .ok (.invokevirtual 143, 3) := by decide +kernel
theorem d_Rp_copy_102 : decode cd_Rp_copy 102 = .ok (.ireturn, 1) := by decide +kernel
set_option maxRecDepth 100000 in
set_option maxHeartbeats 4000000 in
theorem c_Rp_copy {l : Launch} {V : xV} {σ : xS} {x1 x2 x3 : Int32} {Q : Int32 → xS → Prop} (h : p_Rp_copy x1 x2 x3 σ Q) : xMi l y_Rp_copy (.code y_Rp_copy cd_Rp_copy 4 (some .int) :: xG) rm_Rp_copy V [.ref (V.2.2 0), .int x1, .int x2, .int x3] σ Q := by
  refine x_begini (by decide) (Nat.le_of_ble_eq_true rfl) (fun p e s m below meth c ls C hlocks hr hI hl => ?_)
  have C : xC p s m _ c cd_Rp_copy 4 R_Rp V := C
  have hx := C.1
  have hb := C.2.1
  have hl : lv_has ls 4 [(0, .ref (V.2.2 0)), (1, .int x1), (2, .int x2), (3, .int x3)] := hl
  unfold p_Rp_copy at h
  refine lv_aload_n hx hb d_Rp_copy_0 rfl (lv_at hl 0 rfl) ?_
  refine lv_iload_n hx hb d_Rp_copy_1 rfl (lv_at hl 1 rfl) ?_
  refine x_callv C hI hl.1 (d := 0) (As := [.int x1]) (rest := []) (by decide) (c_Rp_checkRoot h) (xE0 V _) rfl yw_Rp_checkRoot ml_Rp_72 rfl rfl ⟨Nat.le_of_ble_eq_true rfl, Nat.le_of_ble_eq_true rfl⟩ rfl rfl (Nat.le_of_ble_eq_true rfl) d_Rp_copy_2 ⟨Nat.zero_le _, Nat.zero_le _⟩ (fun σ1 H locs h hI => ?_)
  refine lv_aload_n hx hb d_Rp_copy_5 rfl (lv_at hl 0 rfl) ?_
  refine lv_iload_n hx hb d_Rp_copy_6 rfl (lv_at hl 2 rfl) ?_
  refine x_callv C hI hl.1 (d := 0) (As := [.int x2]) (rest := []) (by decide) (c_Rp_checkRoot h) (xE0 V _) rfl yw_Rp_checkRoot ml_Rp_72 rfl rfl ⟨Nat.le_of_ble_eq_true rfl, Nat.le_of_ble_eq_true rfl⟩ rfl rfl (Nat.le_of_ble_eq_true rfl) d_Rp_copy_7 ⟨Nat.zero_le _, Nat.zero_le _⟩ (fun σ2 H locs h hI => ?_)
  refine lv_aload_n hx hb d_Rp_copy_10 rfl (lv_at hl 0 rfl) ?_
  refine lv_iload_n hx hb d_Rp_copy_11 rfl (lv_at hl 3 rfl) ?_
  refine x_callv C hI hl.1 (d := 0) (As := [.int x3]) (rest := []) (by decide) (c_Rp_checkRegion h) (xE0 V _) rfl yw_Rp_checkRegion ml_Rp_65 rfl rfl ⟨Nat.le_of_ble_eq_true rfl, Nat.le_of_ble_eq_true rfl⟩ rfl rfl (Nat.le_of_ble_eq_true rfl) d_Rp_copy_12 ⟨Nat.zero_le _, Nat.zero_le _⟩ (fun σ3 H locs h hI => ?_)
  refine lv_aload_n hx hb d_Rp_copy_15 rfl (lv_at hl 0 rfl) ?_
  refine x_get C hI (d := 0) (by decide) (xE0 V _) fd_Rp_28 rfl d_Rp_copy_16 ?_
  refine lv_iload_n hx hb d_Rp_copy_19 rfl (lv_at hl 2 rfl) ?_
  refine lv_iload_n hx hb d_Rp_copy_20 rfl (lv_at hl 3 rfl) ?_
  refine x_callv C hI hl.1 (d := 3) (As := [.int x2, .int x3]) (rest := []) (by decide) (c_Par_find h) (xE3 V _) rfl yw_Par_find ml_Rp_129 rfl rfl ⟨Nat.le_of_ble_eq_true rfl, Nat.le_of_ble_eq_true rfl⟩ rfl rfl (Nat.le_of_ble_eq_true rfl) d_Rp_copy_21 ⟨Nat.zero_le _, Nat.zero_le _⟩ (fun σ4 H locs h hI => ?_)
  refine lv_aload_n hx hb d_Rp_copy_24 rfl (lv_at hl 0 rfl) ?_
  refine x_get C hI (d := 0) (by decide) (xE0 V _) fd_Rp_28 rfl d_Rp_copy_25 ?_
  refine lv_iload_n hx hb d_Rp_copy_28 rfl (lv_at hl 3 rfl) ?_
  refine x_calli C hI hl.1 (d := 3) (As := [.int x3]) (rest := []) (by decide) (c_Par_fitInto h) (xE3 V _) rfl yw_Par_fitInto ml_Rp_132 rfl rfl ⟨Nat.le_of_ble_eq_true rfl, Nat.le_of_ble_eq_true rfl⟩ rfl rfl (Nat.le_of_ble_eq_true rfl) d_Rp_copy_29 ⟨Nat.zero_le _, Nat.zero_le _⟩ (fun r6 σ5 H locs h hI => ?_)
  refine lv_if_ne (tgt := 37) hx hb d_Rp_copy_32 (by decide) (fun c7 => ?_) (fun c7 => ?_)
  · have h := h.1 c7
    refine lv_aload_n hx hb d_Rp_copy_37 rfl (lv_at hl 0 rfl) ?_
    refine x_get C hI (d := 0) (by decide) (xE0 V _) fd_Rp_28 rfl d_Rp_copy_38 ?_
    refine lv_iload_n hx hb d_Rp_copy_41 rfl (lv_at hl 3 rfl) ?_
    refine x_callv C hI hl.1 (d := 3) (As := [.int x3]) (rest := []) (by decide) (c_Par_duplicate h) (xE3 V _) rfl yw_Par_duplicate ml_Rp_144 rfl rfl ⟨Nat.le_of_ble_eq_true rfl, Nat.le_of_ble_eq_true rfl⟩ rfl rfl (Nat.le_of_ble_eq_true rfl) d_Rp_copy_42 ⟨Nat.zero_le _, Nat.zero_le _⟩ (fun σ8 H locs h hI => ?_)
    refine lv_aload_n hx hb d_Rp_copy_45 rfl (lv_at hl 0 rfl) ?_
    refine x_get C hI (d := 0) (by decide) (xE0 V _) fd_Rp_12 rfl d_Rp_copy_46 ?_
    refine x_get C hI (d := 1) (by decide) (xE1 V _) fd_Rp_75 rfl d_Rp_copy_49 ?_
    refine lv_iload_n hx hb d_Rp_copy_52 rfl (lv_at hl 1 rfl) ?_
    refine lv_aload_n hx hb d_Rp_copy_53 rfl (lv_at hl 0 rfl) ?_
    refine x_get C hI (d := 0) (by decide) (xE0 V _) fd_Rp_12 rfl d_Rp_copy_54 ?_
    refine x_get C hI (d := 1) (by decide) (xE1 V _) fd_Rp_75 rfl d_Rp_copy_57 ?_
    refine lv_iload_n hx hb d_Rp_copy_60 rfl (lv_at hl 2 rfl) ?_
    refine x_callv C hI hl.1 (d := 5) (As := [.int x1, .ref (V.2.2 5), .int x2]) (rest := []) (by decide) (c_Val_take_5_5 h) (xE5 V _) rfl yw_Val_take ml_Rp_88 rfl rfl ⟨Nat.le_of_ble_eq_true rfl, Nat.le_of_ble_eq_true rfl⟩ rfl rfl (Nat.le_of_ble_eq_true rfl) d_Rp_copy_61 ⟨Nat.zero_le _, Nat.zero_le _⟩ (fun σ9 H locs h hI => ?_)
    refine lv_aload_n hx hb d_Rp_copy_64 rfl (lv_at hl 0 rfl) ?_
    refine x_get C hI (d := 0) (by decide) (xE0 V _) fd_Rp_12 rfl d_Rp_copy_65 ?_
    refine lv_aload_n hx hb d_Rp_copy_68 rfl (lv_at hl 0 rfl) ?_
    refine x_get C hI (d := 0) (by decide) (xE0 V _) fd_Rp_12 rfl d_Rp_copy_69 ?_
    refine x_get C hI (d := 1) (by decide) (xE1 V _) fd_Rp_75 rfl d_Rp_copy_72 ?_
    refine lv_iload_n hx hb d_Rp_copy_75 rfl (lv_at hl 1 rfl) ?_
    refine x_callv C hI hl.1 (d := 1) (As := [.ref (V.2.2 5), .int x1]) (rest := []) (by decide) (c_Mem_followMove_1_5 h) (xE1 V _) rfl yw_Mem_followMove ml_Rp_147 rfl rfl ⟨Nat.le_of_ble_eq_true rfl, Nat.le_of_ble_eq_true rfl⟩ rfl rfl (Nat.le_of_ble_eq_true rfl) d_Rp_copy_76 ⟨Nat.zero_le _, Nat.zero_le _⟩ (fun σ10 H locs h hI => ?_)
    refine lv_aload_n hx hb d_Rp_copy_79 rfl (lv_at hl 0 rfl) ?_
    refine lv_dup hx hb d_Rp_copy_80 rfl ?_
    refine x_get C hI (d := 0) (by decide) (xE0 V _) fd_Rp_151 rfl d_Rp_copy_81 ?_
    refine lv_aload_n hx hb d_Rp_copy_84 rfl (lv_at hl 0 rfl) ?_
    refine x_get C hI (d := 0) (by decide) (xE0 V _) fd_Rp_28 rfl d_Rp_copy_85 ?_
    refine x_calli C hI hl.1 (d := 3) (As := []) (rest := [.int (σ10 0 5), .ref (V.2.2 0)]) (by decide) (c_Par_amount h) (xE3 V _) rfl yw_Par_amount ml_Rp_143 rfl rfl ⟨Nat.le_of_ble_eq_true rfl, Nat.le_of_ble_eq_true rfl⟩ rfl rfl (Nat.le_of_ble_eq_true rfl) d_Rp_copy_88 ⟨Nat.zero_le _, Nat.zero_le _⟩ (fun r12 σ11 H locs h hI => ?_)
    refine lv_iadd hx hb d_Rp_copy_91 ?_
    refine x_put C hI (d := 0) (by decide) (xE0 V _) (xP_0_5 V _ _) fw_Rp_151 (Nat.le_of_ble_eq_true rfl) d_Rp_copy_92 (fun H locs hI => ?_)
    refine lv_aload_n hx hb d_Rp_copy_95 rfl (lv_at hl 0 rfl) ?_
    refine x_get C hI (d := 0) (by decide) (xE0 V _) fd_Rp_28 rfl d_Rp_copy_96 ?_
    refine x_calli C hI hl.1 (d := 3) (As := []) (rest := []) (by decide) (c_Par_amount h) (xE3 V _) rfl yw_Par_amount ml_Rp_143 rfl rfl ⟨Nat.le_of_ble_eq_true rfl, Nat.le_of_ble_eq_true rfl⟩ rfl rfl (Nat.le_of_ble_eq_true rfl) d_Rp_copy_99 ⟨Nat.zero_le _, Nat.zero_le _⟩ (fun r14 σ13 H locs h hI => ?_)
    exact x_iret C hlocks hr hI h d_Rp_copy_102
  · have h := h.2 c7
    refine lv_iconst (v := (-1)) hx hb d_Rp_copy_35 (by decide) ?_
    exact x_iret C hlocks hr hI h d_Rp_copy_36
def y_Rp_watch : MethodName := ⟨"RegionPool", "watch", "(I)Z"⟩
abbrev cd_Rp_watch : ByteArray := prog_1_method_13_code
theorem ml_Rp_163 : Cond.methodLink R_Rp 163 y_Lin_append ∈ xG := xG_mem 904 (by decide +kernel) (by decide +kernel)
def p_Rp_watch (x1 : Int32) (σ : xS) (Q : Int32 → xS → Prop) : Prop :=
  p_Rp_checkRoot x1 σ (fun σ1 => p_Rp_checkReference x1 σ1 (fun σ2 => p_Val_contentOf_5 x1 σ2 (fun r4 σ3 => p_Lin_has_9 r4 σ3 (fun r6 σ5 => ((r6 = 0 → p_Lin_append_9 r4 σ5 (fun σ8 => Q 1 σ8)) ∧ (¬ r6 = 0 → Q 0 σ5))))))
abbrev rm_Rp_watch : Room := { frames := 2, cells := 0, slots := 0, locals := 42 }
theorem d_Rp_watch_0 : decode cd_Rp_watch 0 = .ok (.aload_n 0, 1) := by decide +kernel
theorem d_Rp_watch_1 : decode cd_Rp_watch 1 = .ok (.iload_n 1, 1) := by decide +kernel
theorem d_Rp_watch_2 : decode cd_Rp_watch 2 = .ok (.invokevirtual 72, 3) := by decide +kernel
theorem d_Rp_watch_5 : decode cd_Rp_watch 5 = .ok (.aload_n 0, 1) := by decide +kernel
theorem d_Rp_watch_6 : decode cd_Rp_watch 6 = .ok (.iload_n 1, 1) := by decide +kernel
theorem d_Rp_watch_7 : decode cd_Rp_watch 7 = .ok (.invokevirtual 109, 3) := by decide +kernel
theorem d_Rp_watch_10 : decode cd_Rp_watch 10 = .ok (.aload_n 0, 1) := by decide +kernel
theorem d_Rp_watch_11 : decode cd_Rp_watch 11 = .ok (.getfield 12, 3) := by decide +kernel
theorem d_Rp_watch_14 : decode cd_Rp_watch 14 = .ok (.getfield 75, 3) := by decide +kernel
theorem d_Rp_watch_17 : decode cd_Rp_watch 17 = .ok (.iload_n 1, 1) := by decide +kernel
theorem d_Rp_watch_18 : decode cd_Rp_watch 18 = .ok (.invokevirtual 112, 3) := by decide +kernel
theorem d_Rp_watch_21 : decode cd_Rp_watch 21 = .ok (.istore_n 2, 1) := by decide +kernel
theorem d_Rp_watch_22 : decode cd_Rp_watch 22 = .ok (.aload_n 0, 1) := by decide +kernel
theorem d_Rp_watch_23 : decode cd_Rp_watch 23 = .ok (.getfield 12, 3) := by decide +kernel
theorem d_Rp_watch_26 : decode cd_Rp_watch 26 = .ok (.getfield 154, 3) := by decide +kernel
theorem d_Rp_watch_29 : decode cd_Rp_watch 29 = .ok (.iload_n 2, 1) := by decide +kernel
theorem d_Rp_watch_30 : decode cd_Rp_watch 30 = .ok (.invokevirtual 158, 3) := by decide +kernel
theorem d_Rp_watch_33 : decode cd_Rp_watch 33 = .ok (.ifCond .eq 5, 3) := by decide +kernel
theorem d_Rp_watch_36 : decode cd_Rp_watch 36 = .ok (.iconst 0, 1) := by decide +kernel
theorem d_Rp_watch_37 : decode cd_Rp_watch 37 = .ok (.ireturn, 1) := by decide +kernel
theorem d_Rp_watch_38 : decode cd_Rp_watch 38 = .ok (.aload_n 0, 1) := by decide +kernel
theorem d_Rp_watch_39 : decode cd_Rp_watch 39 = .ok (.getfield 12, 3) := by decide +kernel
theorem d_Rp_watch_42 : decode cd_Rp_watch 42 = .ok (.getfield 154, 3) := by decide +kernel
theorem d_Rp_watch_45 : decode cd_Rp_watch 45 = .ok (.iload_n 2, 1) := by decide +kernel
theorem d_Rp_watch_46 : decode cd_Rp_watch 46 = .ok (.invokevirtual 163, 3) := by decide +kernel
theorem d_Rp_watch_49 : decode cd_Rp_watch 49 = .ok (.iconst 1, 1) := by decide +kernel
theorem d_Rp_watch_50 : decode cd_Rp_watch 50 = .ok (.ireturn, 1) := by decide +kernel
set_option maxRecDepth 100000 in
set_option maxHeartbeats 4000000 in
theorem c_Rp_watch {l : Launch} {V : xV} {σ : xS} {x1 : Int32} {Q : Int32 → xS → Prop} (h : p_Rp_watch x1 σ Q) : xMi l y_Rp_watch (.code y_Rp_watch cd_Rp_watch 3 (some .boolean) :: xG) rm_Rp_watch V [.ref (V.2.2 0), .int x1] σ Q := by
  refine x_begini (by decide) (Nat.le_of_ble_eq_true rfl) (fun p e s m below meth c ls C hlocks hr hI hl => ?_)
  have C : xC p s m _ c cd_Rp_watch 3 R_Rp V := C
  have hx := C.1
  have hb := C.2.1
  have hl : lv_has ls 3 [(0, .ref (V.2.2 0)), (1, .int x1)] := hl
  unfold p_Rp_watch at h
  refine lv_aload_n hx hb d_Rp_watch_0 rfl (lv_at hl 0 rfl) ?_
  refine lv_iload_n hx hb d_Rp_watch_1 rfl (lv_at hl 1 rfl) ?_
  refine x_callv C hI hl.1 (d := 0) (As := [.int x1]) (rest := []) (by decide) (c_Rp_checkRoot h) (xE0 V _) rfl yw_Rp_checkRoot ml_Rp_72 rfl rfl ⟨Nat.le_of_ble_eq_true rfl, Nat.le_of_ble_eq_true rfl⟩ rfl rfl (Nat.le_of_ble_eq_true rfl) d_Rp_watch_2 ⟨Nat.zero_le _, Nat.zero_le _⟩ (fun σ1 H locs h hI => ?_)
  refine lv_aload_n hx hb d_Rp_watch_5 rfl (lv_at hl 0 rfl) ?_
  refine lv_iload_n hx hb d_Rp_watch_6 rfl (lv_at hl 1 rfl) ?_
  refine x_callv C hI hl.1 (d := 0) (As := [.int x1]) (rest := []) (by decide) (c_Rp_checkReference h) (xE0 V _) rfl yw_Rp_checkReference ml_Rp_109 rfl rfl ⟨Nat.le_of_ble_eq_true rfl, Nat.le_of_ble_eq_true rfl⟩ rfl rfl (Nat.le_of_ble_eq_true rfl) d_Rp_watch_7 ⟨Nat.zero_le _, Nat.zero_le _⟩ (fun σ2 H locs h hI => ?_)
  refine lv_aload_n hx hb d_Rp_watch_10 rfl (lv_at hl 0 rfl) ?_
  refine x_get C hI (d := 0) (by decide) (xE0 V _) fd_Rp_12 rfl d_Rp_watch_11 ?_
  refine x_get C hI (d := 1) (by decide) (xE1 V _) fd_Rp_75 rfl d_Rp_watch_14 ?_
  refine lv_iload_n hx hb d_Rp_watch_17 rfl (lv_at hl 1 rfl) ?_
  refine x_calli C hI hl.1 (d := 5) (As := [.int x1]) (rest := []) (by decide) (c_Val_contentOf_5 h) (xE5 V _) rfl yw_Val_contentOf ml_Rp_112 rfl rfl ⟨Nat.le_of_ble_eq_true rfl, Nat.le_of_ble_eq_true rfl⟩ rfl rfl (Nat.le_of_ble_eq_true rfl) d_Rp_watch_18 ⟨Nat.zero_le _, Nat.zero_le _⟩ (fun r4 σ3 H locs h hI => ?_)
  refine lv_istore_n (lv' := [(2, .int r4), (0, .ref (V.2.2 0)), (1, .int x1)]) hx hb d_Rp_watch_21 rfl hl (by decide) rfl (fun ls hl => ?_)
  refine lv_aload_n hx hb d_Rp_watch_22 rfl (lv_at hl 1 rfl) ?_
  refine x_get C hI (d := 0) (by decide) (xE0 V _) fd_Rp_12 rfl d_Rp_watch_23 ?_
  refine x_get C hI (d := 1) (by decide) (xE1 V _) fd_Rp_154 rfl d_Rp_watch_26 ?_
  refine lv_iload_n hx hb d_Rp_watch_29 rfl (lv_at hl 0 rfl) ?_
  refine x_calli C hI hl.1 (d := 9) (As := [.int r4]) (rest := []) (by decide) (c_Lin_has_9 h) (xE9 V _) rfl yw_Lin_has ml_Rp_158 rfl rfl ⟨Nat.le_of_ble_eq_true rfl, Nat.le_of_ble_eq_true rfl⟩ rfl rfl (Nat.le_of_ble_eq_true rfl) d_Rp_watch_30 ⟨Nat.zero_le _, Nat.zero_le _⟩ (fun r6 σ5 H locs h hI => ?_)
  refine lv_if_eq (tgt := 38) hx hb d_Rp_watch_33 (by decide) (fun c7 => ?_) (fun c7 => ?_)
  · have h := h.1 c7
    refine lv_aload_n hx hb d_Rp_watch_38 rfl (lv_at hl 1 rfl) ?_
    refine x_get C hI (d := 0) (by decide) (xE0 V _) fd_Rp_12 rfl d_Rp_watch_39 ?_
    refine x_get C hI (d := 1) (by decide) (xE1 V _) fd_Rp_154 rfl d_Rp_watch_42 ?_
    refine lv_iload_n hx hb d_Rp_watch_45 rfl (lv_at hl 0 rfl) ?_
    refine x_callv C hI hl.1 (d := 9) (As := [.int r4]) (rest := []) (by decide) (c_Lin_append_9 h) (xE9 V _) rfl yw_Lin_append ml_Rp_163 rfl rfl ⟨Nat.le_of_ble_eq_true rfl, Nat.le_of_ble_eq_true rfl⟩ rfl rfl (Nat.le_of_ble_eq_true rfl) d_Rp_watch_46 ⟨Nat.zero_le _, Nat.zero_le _⟩ (fun σ8 H locs h hI => ?_)
    refine lv_iconst (v := 1) hx hb d_Rp_watch_49 (by decide) ?_
    exact x_zret C hlocks hr hI ⟨rfl, h⟩ d_Rp_watch_50
  · have h := h.2 c7
    refine lv_iconst (v := 0) hx hb d_Rp_watch_36 (by decide) ?_
    exact x_zret C hlocks hr hI ⟨rfl, h⟩ d_Rp_watch_37
def y_Rp_due : MethodName := ⟨"RegionPool", "due", "(I)I"⟩
abbrev cd_Rp_due : ByteArray := prog_1_method_14_code
theorem ml_Rp_172 : Cond.methodLink R_Rp 172 y_Lin_itemAt ∈ xG := xG_mem 912 (by decide +kernel) (by decide +kernel)
theorem yw_Lin_dropFirst : xY y_Lin_dropFirst cd_Lin_dropFirst 2 none 0 := ⟨xG_mem 914 (by decide +kernel) (by decide +kernel), xG_mem 915 (by decide +kernel) (by decide +kernel), xG_mem 60 (by decide +kernel) (by decide +kernel), xG_mem 916 (by decide +kernel) (by decide +kernel), by decide, by decide, by decide +kernel⟩
theorem ml_Rp_175 : Cond.methodLink R_Rp 175 y_Lin_dropFirst ∈ xG := xG_mem 913 (by decide +kernel) (by decide +kernel)
def p_Rp_due (x1 : Int32) (σ : xS) (Q : Int32 → xS → Prop) : Prop :=
  p_Rp_checkRoot x1 σ (fun σ1 => p_Lin_length_8 σ1 (fun r3 σ2 => ((r3 ≤ 0 → Q r3 σ2) ∧ (¬ r3 ≤ 0 → p_Lin_itemAt_8 0 σ2 (fun r6 σ5 => p_Val_setReference_5 x1 r6 σ5 (fun σ7 => p_Lin_dropFirst_8 σ7 (fun σ8 => Q r3 σ8)))))))
abbrev rm_Rp_due : Room := { frames := 2, cells := 0, slots := 0, locals := 45 }
theorem d_Rp_due_0 : decode cd_Rp_due 0 = .ok (.aload_n 0, 1) := by decide +kernel
theorem d_Rp_due_1 : decode cd_Rp_due 1 = .ok (.iload_n 1, 1) := by decide +kernel
theorem d_Rp_due_2 : decode cd_Rp_due 2 = .ok (.invokevirtual 72, 3) := by decide +kernel
theorem d_Rp_due_5 : decode cd_Rp_due 5 = .ok (.aload_n 0, 1) := by decide +kernel
theorem d_Rp_due_6 : decode cd_Rp_due 6 = .ok (.getfield 12, 3) := by decide +kernel
theorem d_Rp_due_9 : decode cd_Rp_due 9 = .ok (.getfield 166, 3) := by decide +kernel
theorem d_Rp_due_12 : decode cd_Rp_due 12 = .ok (.invokevirtual 169, 3) := by decide +kernel
theorem d_Rp_due_15 : decode cd_Rp_due 15 = .ok (.istore_n 2, 1) := by decide +kernel
theorem d_Rp_due_16 : decode cd_Rp_due 16 = .ok (.iload_n 2, 1) := by decide +kernel
theorem d_Rp_due_17 : decode cd_Rp_due 17 = .ok (.ifCond .le 35, 3) := by decide +kernel
theorem d_Rp_due_20 : decode cd_Rp_due 20 = .ok (.aload_n 0, 1) := by decide +kernel
theorem d_Rp_due_21 : decode cd_Rp_due 21 = .ok (.getfield 12, 3) := by decide +kernel
theorem d_Rp_due_24 : decode cd_Rp_due 24 = .ok (.getfield 75, 3) := by decide +kernel
theorem d_Rp_due_27 : decode cd_Rp_due 27 = .ok (.iload_n 1, 1) := by decide +kernel
theorem d_Rp_due_28 : decode cd_Rp_due 28 = .ok (.aload_n 0, 1) := by decide +kernel
theorem d_Rp_due_29 : decode cd_Rp_due 29 = .ok (.getfield 12, 3) := by decide +kernel
theorem d_Rp_due_32 : decode cd_Rp_due 32 = .ok (.getfield 166, 3) := by decide +kernel
theorem d_Rp_due_35 : decode cd_Rp_due 35 = .ok (.iconst 0, 1) := by decide +kernel
theorem d_Rp_due_36 : decode cd_Rp_due 36 = .ok (.invokevirtual 172, 3) := by decide +kernel
theorem d_Rp_due_39 : decode cd_Rp_due 39 = .ok (.invokevirtual 106, 3) := by decide +kernel
theorem d_Rp_due_42 : decode cd_Rp_due 42 = .ok (.aload_n 0, 1) := by decide +kernel
theorem d_Rp_due_43 : decode cd_Rp_due 43 = .ok (.getfield 12, 3) := by decide +kernel
theorem d_Rp_due_46 : decode cd_Rp_due 46 = .ok (.getfield 166, 3) := by decide +kernel
theorem d_Rp_due_49 : decode cd_Rp_due 49 = .ok (.invokevirtual 175, 3) := by decide +kernel
theorem d_Rp_due_52 : decode cd_Rp_due 52 = .ok (.iload_n 2, 1) := by decide +kernel
theorem d_Rp_due_53 : decode cd_Rp_due 53 = .ok (.ireturn, 1) := by decide +kernel
set_option maxRecDepth 100000 in
set_option maxHeartbeats 4000000 in
theorem c_Rp_due {l : Launch} {V : xV} {σ : xS} {x1 : Int32} {Q : Int32 → xS → Prop} (h : p_Rp_due x1 σ Q) : xMi l y_Rp_due (.code y_Rp_due cd_Rp_due 3 (some .int) :: xG) rm_Rp_due V [.ref (V.2.2 0), .int x1] σ Q := by
  refine x_begini (by decide) (Nat.le_of_ble_eq_true rfl) (fun p e s m below meth c ls C hlocks hr hI hl => ?_)
  have C : xC p s m _ c cd_Rp_due 3 R_Rp V := C
  have hx := C.1
  have hb := C.2.1
  have hl : lv_has ls 3 [(0, .ref (V.2.2 0)), (1, .int x1)] := hl
  unfold p_Rp_due at h
  refine lv_aload_n hx hb d_Rp_due_0 rfl (lv_at hl 0 rfl) ?_
  refine lv_iload_n hx hb d_Rp_due_1 rfl (lv_at hl 1 rfl) ?_
  refine x_callv C hI hl.1 (d := 0) (As := [.int x1]) (rest := []) (by decide) (c_Rp_checkRoot h) (xE0 V _) rfl yw_Rp_checkRoot ml_Rp_72 rfl rfl ⟨Nat.le_of_ble_eq_true rfl, Nat.le_of_ble_eq_true rfl⟩ rfl rfl (Nat.le_of_ble_eq_true rfl) d_Rp_due_2 ⟨Nat.zero_le _, Nat.zero_le _⟩ (fun σ1 H locs h hI => ?_)
  refine lv_aload_n hx hb d_Rp_due_5 rfl (lv_at hl 0 rfl) ?_
  refine x_get C hI (d := 0) (by decide) (xE0 V _) fd_Rp_12 rfl d_Rp_due_6 ?_
  refine x_get C hI (d := 1) (by decide) (xE1 V _) fd_Rp_166 rfl d_Rp_due_9 ?_
  refine x_calli C hI hl.1 (d := 8) (As := []) (rest := []) (by decide) (c_Lin_length_8 h) (xE8 V _) rfl yw_Lin_length ml_Rp_169 rfl rfl ⟨Nat.le_of_ble_eq_true rfl, Nat.le_of_ble_eq_true rfl⟩ rfl rfl (Nat.le_of_ble_eq_true rfl) d_Rp_due_12 ⟨Nat.zero_le _, Nat.zero_le _⟩ (fun r3 σ2 H locs h hI => ?_)
  refine lv_istore_n (lv' := [(2, .int r3), (0, .ref (V.2.2 0)), (1, .int x1)]) hx hb d_Rp_due_15 rfl hl (by decide) rfl (fun ls hl => ?_)
  refine lv_iload_n hx hb d_Rp_due_16 rfl (lv_at hl 0 rfl) ?_
  refine lv_if_le (tgt := 52) hx hb d_Rp_due_17 (by decide) (fun c4 => ?_) (fun c4 => ?_)
  · have h := h.1 c4
    refine lv_iload_n hx hb d_Rp_due_52 rfl (lv_at hl 0 rfl) ?_
    exact x_iret C hlocks hr hI h d_Rp_due_53
  · have h := h.2 c4
    refine lv_aload_n hx hb d_Rp_due_20 rfl (lv_at hl 1 rfl) ?_
    refine x_get C hI (d := 0) (by decide) (xE0 V _) fd_Rp_12 rfl d_Rp_due_21 ?_
    refine x_get C hI (d := 1) (by decide) (xE1 V _) fd_Rp_75 rfl d_Rp_due_24 ?_
    refine lv_iload_n hx hb d_Rp_due_27 rfl (lv_at hl 2 rfl) ?_
    refine lv_aload_n hx hb d_Rp_due_28 rfl (lv_at hl 1 rfl) ?_
    refine x_get C hI (d := 0) (by decide) (xE0 V _) fd_Rp_12 rfl d_Rp_due_29 ?_
    refine x_get C hI (d := 1) (by decide) (xE1 V _) fd_Rp_166 rfl d_Rp_due_32 ?_
    refine lv_iconst (v := 0) hx hb d_Rp_due_35 (by decide) ?_
    refine x_calli C hI hl.1 (d := 8) (As := [.int 0]) (rest := [.int x1, .ref (V.2.2 5)]) (by decide) (c_Lin_itemAt_8 h) (xE8 V _) rfl yw_Lin_itemAt ml_Rp_172 rfl rfl ⟨Nat.le_of_ble_eq_true rfl, Nat.le_of_ble_eq_true rfl⟩ rfl rfl (Nat.le_of_ble_eq_true rfl) d_Rp_due_36 ⟨Nat.zero_le _, Nat.zero_le _⟩ (fun r6 σ5 H locs h hI => ?_)
    refine x_callv C hI hl.1 (d := 5) (As := [.int x1, .int r6]) (rest := []) (by decide) (c_Val_setReference_5 h) (xE5 V _) rfl yw_Val_setReference ml_Rp_106 rfl rfl ⟨Nat.le_of_ble_eq_true rfl, Nat.le_of_ble_eq_true rfl⟩ rfl rfl (Nat.le_of_ble_eq_true rfl) d_Rp_due_39 ⟨Nat.zero_le _, Nat.zero_le _⟩ (fun σ7 H locs h hI => ?_)
    refine lv_aload_n hx hb d_Rp_due_42 rfl (lv_at hl 1 rfl) ?_
    refine x_get C hI (d := 0) (by decide) (xE0 V _) fd_Rp_12 rfl d_Rp_due_43 ?_
    refine x_get C hI (d := 1) (by decide) (xE1 V _) fd_Rp_166 rfl d_Rp_due_46 ?_
    refine x_callv C hI hl.1 (d := 8) (As := []) (rest := []) (by decide) (c_Lin_dropFirst_8 h) (xE8 V _) rfl yw_Lin_dropFirst ml_Rp_175 rfl rfl ⟨Nat.le_of_ble_eq_true rfl, Nat.le_of_ble_eq_true rfl⟩ rfl rfl (Nat.le_of_ble_eq_true rfl) d_Rp_due_49 ⟨Nat.zero_le _, Nat.zero_le _⟩ (fun σ8 H locs h hI => ?_)
    refine lv_iload_n hx hb d_Rp_due_52 rfl (lv_at hl 0 rfl) ?_
    exact x_iret C hlocks hr hI h d_Rp_due_53
def y_Rp_alike : MethodName := ⟨"RegionPool", "alike", "(II)Z"⟩
abbrev cd_Rp_alike : ByteArray := prog_1_method_15_code
theorem fd_Rp_41 : xFd R_Rp 41 0 3 := ⟨R_Rp, T_Rp, 6, rfl, in_Rp, by decide, xG_mem 281 (by decide +kernel) (by decide +kernel)⟩
theorem yw_Lik_ofRoots : xY y_Lik_ofRoots cd_Lik_ofRoots 6 (some .boolean) 3 := ⟨xG_mem 925 (by decide +kernel) (by decide +kernel), xG_mem 926 (by decide +kernel) (by decide +kernel), xG_mem 64 (by decide +kernel) (by decide +kernel), xG_mem 927 (by decide +kernel) (by decide +kernel), by decide, by decide, by decide +kernel⟩
theorem ml_Rp_178 : Cond.methodLink R_Rp 178 y_Lik_ofRoots ∈ xG := xG_mem 924 (by decide +kernel) (by decide +kernel)
def p_Rp_alike (x1 x2 : Int32) (σ : xS) (Q : Int32 → xS → Prop) : Prop :=
  p_Rp_checkRoot x1 σ (fun σ1 => p_Rp_checkRoot x2 σ1 (fun σ2 => p_Lik_ofRoots_4_5 x1 x2 σ2 (fun r4 σ3 => (narrow .boolean (.int r4) = .int r4 ∧ Q r4 σ3))))
abbrev rm_Rp_alike : Room := { frames := 5, cells := 0, slots := 0, locals := 119 }
theorem d_Rp_alike_0 : decode cd_Rp_alike 0 = .ok (.aload_n 0, 1) := by decide +kernel
theorem d_Rp_alike_1 : decode cd_Rp_alike 1 = .ok (.iload_n 1, 1) := by decide +kernel
theorem d_Rp_alike_2 : decode cd_Rp_alike 2 = .ok (.invokevirtual 72, 3) := by decide +kernel
theorem d_Rp_alike_5 : decode cd_Rp_alike 5 = .ok (.aload_n 0, 1) := by decide +kernel
theorem d_Rp_alike_6 : decode cd_Rp_alike 6 = .ok (.iload_n 2, 1) := by decide +kernel
theorem d_Rp_alike_7 : decode cd_Rp_alike 7 = .ok (.invokevirtual 72, 3) := by decide +kernel
theorem d_Rp_alike_10 : decode cd_Rp_alike 10 = .ok (.aload_n 0, 1) := by decide +kernel
theorem d_Rp_alike_11 : decode cd_Rp_alike 11 = .ok (.getfield 41, 3) := by decide +kernel
theorem d_Rp_alike_14 : decode cd_Rp_alike 14 = .ok (.aload_n 0, 1) := by decide +kernel
theorem d_Rp_alike_15 : decode cd_Rp_alike 15 = .ok (.getfield 12, 3) := by decide +kernel
theorem d_Rp_alike_18 : decode cd_Rp_alike 18 = .ok (.getfield 75, 3) := by decide +kernel
theorem d_Rp_alike_21 : decode cd_Rp_alike 21 = .ok (.iload_n 1, 1) := by decide +kernel
theorem d_Rp_alike_22 : decode cd_Rp_alike 22 = .ok (.iload_n 2, 1) := by decide +kernel
theorem d_Rp_alike_23 : decode cd_Rp_alike 23 = .ok (.invokevirtual 178, 3) := by decide +kernel
theorem d_Rp_alike_26 : decode cd_Rp_alike 26 = .ok (.ireturn, 1) := by decide +kernel
set_option maxRecDepth 100000 in
set_option maxHeartbeats 4000000 in
theorem c_Rp_alike {l : Launch} {V : xV} {σ : xS} {x1 x2 : Int32} {Q : Int32 → xS → Prop} (h : p_Rp_alike x1 x2 σ Q) : xMi l y_Rp_alike (.code y_Rp_alike cd_Rp_alike 3 (some .boolean) :: xG) rm_Rp_alike V [.ref (V.2.2 0), .int x1, .int x2] σ Q := by
  refine x_begini (by decide) (Nat.le_of_ble_eq_true rfl) (fun p e s m below meth c ls C hlocks hr hI hl => ?_)
  have C : xC p s m _ c cd_Rp_alike 3 R_Rp V := C
  have hx := C.1
  have hb := C.2.1
  have hl : lv_has ls 3 [(0, .ref (V.2.2 0)), (1, .int x1), (2, .int x2)] := hl
  unfold p_Rp_alike at h
  refine lv_aload_n hx hb d_Rp_alike_0 rfl (lv_at hl 0 rfl) ?_
  refine lv_iload_n hx hb d_Rp_alike_1 rfl (lv_at hl 1 rfl) ?_
  refine x_callv C hI hl.1 (d := 0) (As := [.int x1]) (rest := []) (by decide) (c_Rp_checkRoot h) (xE0 V _) rfl yw_Rp_checkRoot ml_Rp_72 rfl rfl ⟨Nat.le_of_ble_eq_true rfl, Nat.le_of_ble_eq_true rfl⟩ rfl rfl (Nat.le_of_ble_eq_true rfl) d_Rp_alike_2 ⟨Nat.zero_le _, Nat.zero_le _⟩ (fun σ1 H locs h hI => ?_)
  refine lv_aload_n hx hb d_Rp_alike_5 rfl (lv_at hl 0 rfl) ?_
  refine lv_iload_n hx hb d_Rp_alike_6 rfl (lv_at hl 2 rfl) ?_
  refine x_callv C hI hl.1 (d := 0) (As := [.int x2]) (rest := []) (by decide) (c_Rp_checkRoot h) (xE0 V _) rfl yw_Rp_checkRoot ml_Rp_72 rfl rfl ⟨Nat.le_of_ble_eq_true rfl, Nat.le_of_ble_eq_true rfl⟩ rfl rfl (Nat.le_of_ble_eq_true rfl) d_Rp_alike_7 ⟨Nat.zero_le _, Nat.zero_le _⟩ (fun σ2 H locs h hI => ?_)
  refine lv_aload_n hx hb d_Rp_alike_10 rfl (lv_at hl 0 rfl) ?_
  refine x_get C hI (d := 0) (by decide) (xE0 V _) fd_Rp_41 rfl d_Rp_alike_11 ?_
  refine lv_aload_n hx hb d_Rp_alike_14 rfl (lv_at hl 0 rfl) ?_
  refine x_get C hI (d := 0) (by decide) (xE0 V _) fd_Rp_12 rfl d_Rp_alike_15 ?_
  refine x_get C hI (d := 1) (by decide) (xE1 V _) fd_Rp_75 rfl d_Rp_alike_18 ?_
  refine lv_iload_n hx hb d_Rp_alike_21 rfl (lv_at hl 1 rfl) ?_
  refine lv_iload_n hx hb d_Rp_alike_22 rfl (lv_at hl 2 rfl) ?_
  refine x_calli C hI hl.1 (d := 4) (As := [.ref (V.2.2 5), .int x1, .int x2]) (rest := []) (by decide) (c_Lik_ofRoots_4_5 h) (xE4 V _) rfl yw_Lik_ofRoots ml_Rp_178 rfl rfl ⟨Nat.le_of_ble_eq_true rfl, Nat.le_of_ble_eq_true rfl⟩ rfl rfl (Nat.le_of_ble_eq_true rfl) d_Rp_alike_23 ⟨Nat.zero_le _, Nat.zero_le _⟩ (fun r4 σ3 H locs h hI => ?_)
  exact x_zret C hlocks hr hI h d_Rp_alike_26
def y_Rp_root : MethodName := ⟨"RegionPool", "root", "(II)I"⟩
abbrev cd_Rp_root : ByteArray := prog_1_method_16_code
theorem yw_Rp_ofObject : xY y_Rp_ofObject cd_Rp_ofObject 3 (some .int) 2 := ⟨xG_mem 962 (by decide +kernel) (by decide +kernel), xG_mem 29 (by decide +kernel) (by decide +kernel), xG_mem 54 (by decide +kernel) (by decide +kernel), xG_mem 963 (by decide +kernel) (by decide +kernel), by decide, by decide, by decide +kernel⟩
theorem ml_Rp_187 : Cond.methodLink R_Rp 187 y_Rp_ofObject ∈ xG := xG_mem 960 (by decide +kernel) (by decide +kernel)
def p_Rp_root (x1 x2 : Int32) (σ : xS) (Q : Int32 → xS → Prop) : Prop :=
  p_Rp_checkRoot x1 σ (fun σ1 => ((¬ x2 = 0 → ((¬ x2 = 1 → p_Val_isReference_5 x1 σ1 (fun r5 σ4 => ((¬ r5 = 0 → p_Val_contentOf_5 x1 σ4 (fun r8 σ7 => p_Rp_ofObject r8 x2 σ7 (fun r10 σ9 => Q r10 σ9))) ∧ (r5 = 0 → Q (-1) σ4)))) ∧ (x2 = 1 → p_Val_contentOf_5 x1 σ1 (fun r12 σ11 => Q r12 σ11)))) ∧ (x2 = 0 → p_Val_sortOf_5 x1 σ1 (fun r14 σ13 => Q r14 σ13))))
abbrev rm_Rp_root : Room := { frames := 2, cells := 0, slots := 0, locals := 44 }
theorem d_Rp_root_0 : decode cd_Rp_root 0 = .ok (.aload_n 0, 1) := by decide +kernel
theorem d_Rp_root_1 : decode cd_Rp_root 1 = .ok (.iload_n 1, 1) := by decide +kernel
theorem d_Rp_root_2 : decode cd_Rp_root 2 = .ok (.invokevirtual 72, 3) := by decide +kernel
theorem d_Rp_root_5 : decode cd_Rp_root 5 = .ok (.iload_n 2, 1) := by decide +kernel
theorem d_Rp_root_6 : decode cd_Rp_root 6 = .ok (.ifCond .ne 15, 3) := by decide +kernel
theorem d_Rp_root_9 : decode cd_Rp_root 9 = .ok (.aload_n 0, 1) := by decide +kernel
theorem d_Rp_root_10 : decode cd_Rp_root 10 = .ok (.getfield 12, 3) := by decide +kernel
theorem d_Rp_root_13 : decode cd_Rp_root 13 = .ok (.getfield 75, 3) := by decide +kernel
theorem d_Rp_root_16 : decode cd_Rp_root 16 = .ok (.iload_n 1, 1) := by decide +kernel
theorem d_Rp_root_17 : decode cd_Rp_root 17 = .ok (.invokevirtual 181, 3) := by decide +kernel
theorem d_Rp_root_20 : decode cd_Rp_root 20 = .ok (.ireturn, 1) := by decide +kernel
theorem d_Rp_root_21 : decode cd_Rp_root 21 = .ok (.iload_n 2, 1) := by decide +kernel
theorem d_Rp_root_22 : decode cd_Rp_root 22 = .ok (.iconst 1, 1) := by decide +kernel
theorem d_Rp_root_23 : decode cd_Rp_root 23 = .ok (.if_icmp .ne 15, 3) := by decide +kernel
theorem d_Rp_root_26 : decode cd_Rp_root 26 = .ok (.aload_n 0, 1) := by decide +kernel
theorem d_Rp_root_27 : decode cd_Rp_root 27 = .ok (.getfield 12, 3) := by decide +kernel
theorem d_Rp_root_30 : decode cd_Rp_root 30 = .ok (.getfield 75, 3) := by decide +kernel
theorem d_Rp_root_33 : decode cd_Rp_root 33 = .ok (.iload_n 1, 1) := by decide +kernel
theorem d_Rp_root_34 : decode cd_Rp_root 34 = .ok (.invokevirtual 112, 3) := by decide +kernel
theorem d_Rp_root_37 : decode cd_Rp_root 37 = .ok (.ireturn, 1) := by decide +kernel
theorem d_Rp_root_38 : decode cd_Rp_root 38 = .ok (.aload_n 0, 1) := by decide +kernel
theorem d_Rp_root_39 : decode cd_Rp_root 39 = .ok (.getfield 12, 3) := by decide +kernel
theorem d_Rp_root_42 : decode cd_Rp_root 42 = .ok (.getfield 75, 3) := by decide +kernel
theorem d_Rp_root_45 : decode cd_Rp_root 45 = .ok (.iload_n 1, 1) := by decide +kernel
theorem d_Rp_root_46 : decode cd_Rp_root 46 = .ok (.invokevirtual 184, 3) := by decide +kernel
theorem d_Rp_root_49 : decode cd_Rp_root 49 = .ok (.ifCond .ne 5, 3) := by decide +kernel
theorem d_Rp_root_52 : decode cd_Rp_root 52 = .ok (.iconst (-1), 1) := by decide +kernel
theorem d_Rp_root_53 : decode cd_Rp_root 53 = .ok (.ireturn, 1) := by decide +kernel
theorem d_Rp_root_54 : decode cd_Rp_root 54 = .ok (.aload_n 0, 1) := by decide +kernel
theorem d_Rp_root_55 : decode cd_Rp_root 55 = .ok (.aload_n 0, 1) := by decide +kernel
theorem d_Rp_root_56 : decode cd_Rp_root 56 = .ok (.getfield 12, 3) := by decide +kernel
theorem d_Rp_root_59 : decode cd_Rp_root 59 = .ok (.getfield 75, 3) := by decide +kernel
theorem d_Rp_root_62 : decode cd_Rp_root 62 = .ok (.iload_n 1, 1) := by decide +kernel
theorem d_Rp_root_63 : decode cd_Rp_root 63 = .ok (.invokevirtual 112, 3) := by decide +kernel
theorem d_Rp_root_66 : decode cd_Rp_root 66 = .ok (.iload_n 2, 1) := by decide +kernel
theorem d_Rp_root_67 : decode cd_Rp_root 67 = .ok (.invokevirtual 187, 3) := by decide +kernel
theorem d_Rp_root_70 : decode cd_Rp_root 70 = .ok (.ireturn, 1) := by decide +kernel
set_option maxRecDepth 100000 in
set_option maxHeartbeats 4000000 in
theorem c_Rp_root {l : Launch} {V : xV} {σ : xS} {x1 x2 : Int32} {Q : Int32 → xS → Prop} (h : p_Rp_root x1 x2 σ Q) : xMi l y_Rp_root (.code y_Rp_root cd_Rp_root 3 (some .int) :: xG) rm_Rp_root V [.ref (V.2.2 0), .int x1, .int x2] σ Q := by
  refine x_begini (by decide) (Nat.le_of_ble_eq_true rfl) (fun p e s m below meth c ls C hlocks hr hI hl => ?_)
  have C : xC p s m _ c cd_Rp_root 3 R_Rp V := C
  have hx := C.1
  have hb := C.2.1
  have hl : lv_has ls 3 [(0, .ref (V.2.2 0)), (1, .int x1), (2, .int x2)] := hl
  unfold p_Rp_root at h
  refine lv_aload_n hx hb d_Rp_root_0 rfl (lv_at hl 0 rfl) ?_
  refine lv_iload_n hx hb d_Rp_root_1 rfl (lv_at hl 1 rfl) ?_
  refine x_callv C hI hl.1 (d := 0) (As := [.int x1]) (rest := []) (by decide) (c_Rp_checkRoot h) (xE0 V _) rfl yw_Rp_checkRoot ml_Rp_72 rfl rfl ⟨Nat.le_of_ble_eq_true rfl, Nat.le_of_ble_eq_true rfl⟩ rfl rfl (Nat.le_of_ble_eq_true rfl) d_Rp_root_2 ⟨Nat.zero_le _, Nat.zero_le _⟩ (fun σ1 H locs h hI => ?_)
  refine lv_iload_n hx hb d_Rp_root_5 rfl (lv_at hl 2 rfl) ?_
  refine lv_if_ne (tgt := 21) hx hb d_Rp_root_6 (by decide) (fun c2 => ?_) (fun c2 => ?_)
  · have h := h.1 c2
    refine lv_iload_n hx hb d_Rp_root_21 rfl (lv_at hl 2 rfl) ?_
    refine lv_iconst (v := 1) hx hb d_Rp_root_22 (by decide) ?_
    refine lv_icmp_ne (tgt := 38) hx hb d_Rp_root_23 (by decide) (fun c3 => ?_) (fun c3 => ?_)
    · have h := h.1 c3
      refine lv_aload_n hx hb d_Rp_root_38 rfl (lv_at hl 0 rfl) ?_
      refine x_get C hI (d := 0) (by decide) (xE0 V _) fd_Rp_12 rfl d_Rp_root_39 ?_
      refine x_get C hI (d := 1) (by decide) (xE1 V _) fd_Rp_75 rfl d_Rp_root_42 ?_
      refine lv_iload_n hx hb d_Rp_root_45 rfl (lv_at hl 1 rfl) ?_
      refine x_calli C hI hl.1 (d := 5) (As := [.int x1]) (rest := []) (by decide) (c_Val_isReference_5 h) (xE5 V _) rfl yw_Val_isReference ml_Rp_184 rfl rfl ⟨Nat.le_of_ble_eq_true rfl, Nat.le_of_ble_eq_true rfl⟩ rfl rfl (Nat.le_of_ble_eq_true rfl) d_Rp_root_46 ⟨Nat.zero_le _, Nat.zero_le _⟩ (fun r5 σ4 H locs h hI => ?_)
      refine lv_if_ne (tgt := 54) hx hb d_Rp_root_49 (by decide) (fun c6 => ?_) (fun c6 => ?_)
      · have h := h.1 c6
        refine lv_aload_n hx hb d_Rp_root_54 rfl (lv_at hl 0 rfl) ?_
        refine lv_aload_n hx hb d_Rp_root_55 rfl (lv_at hl 0 rfl) ?_
        refine x_get C hI (d := 0) (by decide) (xE0 V _) fd_Rp_12 rfl d_Rp_root_56 ?_
        refine x_get C hI (d := 1) (by decide) (xE1 V _) fd_Rp_75 rfl d_Rp_root_59 ?_
        refine lv_iload_n hx hb d_Rp_root_62 rfl (lv_at hl 1 rfl) ?_
        refine x_calli C hI hl.1 (d := 5) (As := [.int x1]) (rest := [.ref (V.2.2 0)]) (by decide) (c_Val_contentOf_5 h) (xE5 V _) rfl yw_Val_contentOf ml_Rp_112 rfl rfl ⟨Nat.le_of_ble_eq_true rfl, Nat.le_of_ble_eq_true rfl⟩ rfl rfl (Nat.le_of_ble_eq_true rfl) d_Rp_root_63 ⟨Nat.zero_le _, Nat.zero_le _⟩ (fun r8 σ7 H locs h hI => ?_)
        refine lv_iload_n hx hb d_Rp_root_66 rfl (lv_at hl 2 rfl) ?_
        refine x_calli C hI hl.1 (d := 0) (As := [.int r8, .int x2]) (rest := []) (by decide) (c_Rp_ofObject h) (xE0 V _) rfl yw_Rp_ofObject ml_Rp_187 rfl rfl ⟨Nat.le_of_ble_eq_true rfl, Nat.le_of_ble_eq_true rfl⟩ rfl rfl (Nat.le_of_ble_eq_true rfl) d_Rp_root_67 ⟨Nat.zero_le _, Nat.zero_le _⟩ (fun r10 σ9 H locs h hI => ?_)
        exact x_iret C hlocks hr hI h d_Rp_root_70
      · have h := h.2 c6
        refine lv_iconst (v := (-1)) hx hb d_Rp_root_52 (by decide) ?_
        exact x_iret C hlocks hr hI h d_Rp_root_53
    · have h := h.2 c3
      refine lv_aload_n hx hb d_Rp_root_26 rfl (lv_at hl 0 rfl) ?_
      refine x_get C hI (d := 0) (by decide) (xE0 V _) fd_Rp_12 rfl d_Rp_root_27 ?_
      refine x_get C hI (d := 1) (by decide) (xE1 V _) fd_Rp_75 rfl d_Rp_root_30 ?_
      refine lv_iload_n hx hb d_Rp_root_33 rfl (lv_at hl 1 rfl) ?_
      refine x_calli C hI hl.1 (d := 5) (As := [.int x1]) (rest := []) (by decide) (c_Val_contentOf_5 h) (xE5 V _) rfl yw_Val_contentOf ml_Rp_112 rfl rfl ⟨Nat.le_of_ble_eq_true rfl, Nat.le_of_ble_eq_true rfl⟩ rfl rfl (Nat.le_of_ble_eq_true rfl) d_Rp_root_34 ⟨Nat.zero_le _, Nat.zero_le _⟩ (fun r12 σ11 H locs h hI => ?_)
      exact x_iret C hlocks hr hI h d_Rp_root_37
  · have h := h.2 c2
    refine lv_aload_n hx hb d_Rp_root_9 rfl (lv_at hl 0 rfl) ?_
    refine x_get C hI (d := 0) (by decide) (xE0 V _) fd_Rp_12 rfl d_Rp_root_10 ?_
    refine x_get C hI (d := 1) (by decide) (xE1 V _) fd_Rp_75 rfl d_Rp_root_13 ?_
    refine lv_iload_n hx hb d_Rp_root_16 rfl (lv_at hl 1 rfl) ?_
    refine x_calli C hI hl.1 (d := 5) (As := [.int x1]) (rest := []) (by decide) (c_Val_sortOf_5 h) (xE5 V _) rfl yw_Val_sortOf ml_Rp_181 rfl rfl ⟨Nat.le_of_ble_eq_true rfl, Nat.le_of_ble_eq_true rfl⟩ rfl rfl (Nat.le_of_ble_eq_true rfl) d_Rp_root_17 ⟨Nat.zero_le _, Nat.zero_le _⟩ (fun r14 σ13 H locs h hI => ?_)
    exact x_iret C hlocks hr hI h d_Rp_root_20
def y_Rp_field : MethodName := ⟨"RegionPool", "field", "(III)I"⟩
abbrev cd_Rp_field : ByteArray := prog_1_method_17_code
theorem yw_Rp_ofField : xY y_Rp_ofField cd_Rp_ofField 4 (some .int) 2 := ⟨xG_mem 975 (by decide +kernel) (by decide +kernel), xG_mem 30 (by decide +kernel) (by decide +kernel), xG_mem 54 (by decide +kernel) (by decide +kernel), xG_mem 976 (by decide +kernel) (by decide +kernel), by decide, by decide, by decide +kernel⟩
theorem ml_Rp_190 : Cond.methodLink R_Rp 190 y_Rp_ofField ∈ xG := xG_mem 973 (by decide +kernel) (by decide +kernel)
def p_Rp_field (x1 x2 x3 : Int32) (σ : xS) (Q : Int32 → xS → Prop) : Prop :=
  p_Rp_checkRoot x1 σ (fun σ1 => p_Val_isReference_5 x1 σ1 (fun r3 σ2 => ((¬ r3 = 0 → p_Val_contentOf_5 x1 σ2 (fun r6 σ5 => p_Hea_hasField r6 x2 σ5 (fun r8 σ7 => ((¬ r8 = 0 → p_Rp_ofField ((r6 + 1) + x2) x3 σ7 (fun r11 σ10 => Q r11 σ10)) ∧ (r8 = 0 → Q (-1) σ7))))) ∧ (r3 = 0 → Q (-1) σ2))))
abbrev rm_Rp_field : Room := { frames := 2, cells := 0, slots := 0, locals := 44 }
theorem d_Rp_field_0 : decode cd_Rp_field 0 = .ok (.aload_n 0, 1) := by decide +kernel
theorem d_Rp_field_1 : decode cd_Rp_field 1 = .ok (.iload_n 1, 1) := by decide +kernel
theorem d_Rp_field_2 : decode cd_Rp_field 2 = .ok (.invokevirtual 72, 3) := by decide +kernel
theorem d_Rp_field_5 : decode cd_Rp_field 5 = .ok (.aload_n 0, 1) := by decide +kernel
theorem d_Rp_field_6 : decode cd_Rp_field 6 = .ok (.getfield 12, 3) := by decide +kernel
theorem d_Rp_field_9 : decode cd_Rp_field 9 = .ok (.getfield 75, 3) := by decide +kernel
theorem d_Rp_field_12 : decode cd_Rp_field 12 = .ok (.iload_n 1, 1) := by decide +kernel
theorem d_Rp_field_13 : decode cd_Rp_field 13 = .ok (.invokevirtual 184, 3) := by decide +kernel
theorem d_Rp_field_16 : decode cd_Rp_field 16 = .ok (.ifCond .ne 5, 3) := by decide +kernel
theorem d_Rp_field_19 : decode cd_Rp_field 19 = .ok (.iconst (-1), 1) := by decide +kernel
theorem d_Rp_field_20 : decode cd_Rp_field 20 = .ok (.ireturn, 1) := by decide +kernel
theorem d_Rp_field_21 : decode cd_Rp_field 21 = .ok (.aload_n 0, 1) := by decide +kernel
theorem d_Rp_field_22 : decode cd_Rp_field 22 = .ok (.getfield 12, 3) := by decide +kernel
theorem d_Rp_field_25 : decode cd_Rp_field 25 = .ok (.getfield 75, 3) := by decide +kernel
theorem d_Rp_field_28 : decode cd_Rp_field 28 = .ok (.iload_n 1, 1) := by decide +kernel
theorem d_Rp_field_29 : decode cd_Rp_field 29 = .ok (.invokevirtual 112, 3) := by decide +kernel
theorem d_Rp_field_32 : decode cd_Rp_field 32 = .ok (.istore 4, 2) := by decide +kernel
theorem d_Rp_field_34 : decode cd_Rp_field 34 = .ok (.aload_n 0, 1) := by decide +kernel
theorem d_Rp_field_35 : decode cd_Rp_field 35 = .ok (.getfield 12, 3) := by decide +kernel
theorem d_Rp_field_38 : decode cd_Rp_field 38 = .ok (.getfield 34, 3) := by decide +kernel
theorem d_Rp_field_41 : decode cd_Rp_field 41 = .ok (.iload 4, 2) := by decide +kernel
theorem d_Rp_field_43 : decode cd_Rp_field 43 = .ok (.iload_n 2, 1) := by decide +kernel
theorem d_Rp_field_44 : decode cd_Rp_field 44 = .ok (.invokevirtual 115, 3) := by decide +kernel
theorem d_Rp_field_47 : decode cd_Rp_field 47 = .ok (.ifCond .ne 5, 3) := by decide +kernel
theorem d_Rp_field_50 : decode cd_Rp_field 50 = .ok (.iconst (-1), 1) := by decide +kernel
theorem d_Rp_field_51 : decode cd_Rp_field 51 = .ok (.ireturn, 1) := by decide +kernel
theorem d_Rp_field_52 : decode cd_Rp_field 52 = .ok (.aload_n 0, 1) := by decide +kernel
theorem d_Rp_field_53 : decode cd_Rp_field 53 = .ok (.iload 4, 2) := by decide +kernel
theorem d_Rp_field_55 : decode cd_Rp_field 55 = .ok (.iconst 1, 1) := by decide +kernel
theorem d_Rp_field_56 : decode cd_Rp_field 56 = .ok (.iadd, 1) := by decide +kernel
theorem d_Rp_field_57 : decode cd_Rp_field 57 = .ok (.iload_n 2, 1) := by decide +kernel
theorem d_Rp_field_58 : decode cd_Rp_field 58 = .ok (.iadd, 1) := by decide +kernel
theorem d_Rp_field_59 : decode cd_Rp_field 59 = .ok (.iload_n 3, 1) := by decide +kernel
theorem d_Rp_field_60 : decode cd_Rp_field 60 = .ok (.invokevirtual 190, 3) := by decide +kernel
theorem d_Rp_field_63 : decode cd_Rp_field 63 = .ok (.ireturn, 1) := by decide +kernel
set_option maxRecDepth 100000 in
set_option maxHeartbeats 4000000 in
theorem c_Rp_field {l : Launch} {V : xV} {σ : xS} {x1 x2 x3 : Int32} {Q : Int32 → xS → Prop} (h : p_Rp_field x1 x2 x3 σ Q) : xMi l y_Rp_field (.code y_Rp_field cd_Rp_field 5 (some .int) :: xG) rm_Rp_field V [.ref (V.2.2 0), .int x1, .int x2, .int x3] σ Q := by
  refine x_begini (by decide) (Nat.le_of_ble_eq_true rfl) (fun p e s m below meth c ls C hlocks hr hI hl => ?_)
  have C : xC p s m _ c cd_Rp_field 5 R_Rp V := C
  have hx := C.1
  have hb := C.2.1
  have hl : lv_has ls 5 [(0, .ref (V.2.2 0)), (1, .int x1), (2, .int x2), (3, .int x3)] := hl
  unfold p_Rp_field at h
  refine lv_aload_n hx hb d_Rp_field_0 rfl (lv_at hl 0 rfl) ?_
  refine lv_iload_n hx hb d_Rp_field_1 rfl (lv_at hl 1 rfl) ?_
  refine x_callv C hI hl.1 (d := 0) (As := [.int x1]) (rest := []) (by decide) (c_Rp_checkRoot h) (xE0 V _) rfl yw_Rp_checkRoot ml_Rp_72 rfl rfl ⟨Nat.le_of_ble_eq_true rfl, Nat.le_of_ble_eq_true rfl⟩ rfl rfl (Nat.le_of_ble_eq_true rfl) d_Rp_field_2 ⟨Nat.zero_le _, Nat.zero_le _⟩ (fun σ1 H locs h hI => ?_)
  refine lv_aload_n hx hb d_Rp_field_5 rfl (lv_at hl 0 rfl) ?_
  refine x_get C hI (d := 0) (by decide) (xE0 V _) fd_Rp_12 rfl d_Rp_field_6 ?_
  refine x_get C hI (d := 1) (by decide) (xE1 V _) fd_Rp_75 rfl d_Rp_field_9 ?_
  refine lv_iload_n hx hb d_Rp_field_12 rfl (lv_at hl 1 rfl) ?_
  refine x_calli C hI hl.1 (d := 5) (As := [.int x1]) (rest := []) (by decide) (c_Val_isReference_5 h) (xE5 V _) rfl yw_Val_isReference ml_Rp_184 rfl rfl ⟨Nat.le_of_ble_eq_true rfl, Nat.le_of_ble_eq_true rfl⟩ rfl rfl (Nat.le_of_ble_eq_true rfl) d_Rp_field_13 ⟨Nat.zero_le _, Nat.zero_le _⟩ (fun r3 σ2 H locs h hI => ?_)
  refine lv_if_ne (tgt := 21) hx hb d_Rp_field_16 (by decide) (fun c4 => ?_) (fun c4 => ?_)
  · have h := h.1 c4
    refine lv_aload_n hx hb d_Rp_field_21 rfl (lv_at hl 0 rfl) ?_
    refine x_get C hI (d := 0) (by decide) (xE0 V _) fd_Rp_12 rfl d_Rp_field_22 ?_
    refine x_get C hI (d := 1) (by decide) (xE1 V _) fd_Rp_75 rfl d_Rp_field_25 ?_
    refine lv_iload_n hx hb d_Rp_field_28 rfl (lv_at hl 1 rfl) ?_
    refine x_calli C hI hl.1 (d := 5) (As := [.int x1]) (rest := []) (by decide) (c_Val_contentOf_5 h) (xE5 V _) rfl yw_Val_contentOf ml_Rp_112 rfl rfl ⟨Nat.le_of_ble_eq_true rfl, Nat.le_of_ble_eq_true rfl⟩ rfl rfl (Nat.le_of_ble_eq_true rfl) d_Rp_field_29 ⟨Nat.zero_le _, Nat.zero_le _⟩ (fun r6 σ5 H locs h hI => ?_)
    refine lv_istore (lv' := [(4, .int r6), (0, .ref (V.2.2 0)), (1, .int x1), (2, .int x2), (3, .int x3)]) hx hb d_Rp_field_32 hl (by decide) rfl (fun ls hl => ?_)
    refine lv_aload_n hx hb d_Rp_field_34 rfl (lv_at hl 1 rfl) ?_
    refine x_get C hI (d := 0) (by decide) (xE0 V _) fd_Rp_12 rfl d_Rp_field_35 ?_
    refine x_get C hI (d := 1) (by decide) (xE1 V _) fd_Rp_34 rfl d_Rp_field_38 ?_
    refine lv_iload hx hb d_Rp_field_41 (lv_at hl 0 rfl) ?_
    refine lv_iload_n hx hb d_Rp_field_43 rfl (lv_at hl 3 rfl) ?_
    refine x_calli C hI hl.1 (d := 6) (As := [.int r6, .int x2]) (rest := []) (by decide) (c_Hea_hasField h) (xE6 V _) rfl yw_Hea_hasField ml_Rp_115 rfl rfl ⟨Nat.le_of_ble_eq_true rfl, Nat.le_of_ble_eq_true rfl⟩ rfl rfl (Nat.le_of_ble_eq_true rfl) d_Rp_field_44 ⟨Nat.zero_le _, Nat.zero_le _⟩ (fun r8 σ7 H locs h hI => ?_)
    refine lv_if_ne (tgt := 52) hx hb d_Rp_field_47 (by decide) (fun c9 => ?_) (fun c9 => ?_)
    · have h := h.1 c9
      refine lv_aload_n hx hb d_Rp_field_52 rfl (lv_at hl 1 rfl) ?_
      refine lv_iload hx hb d_Rp_field_53 (lv_at hl 0 rfl) ?_
      refine lv_iconst (v := 1) hx hb d_Rp_field_55 (by decide) ?_
      refine lv_iadd hx hb d_Rp_field_56 ?_
      refine lv_iload_n hx hb d_Rp_field_57 rfl (lv_at hl 3 rfl) ?_
      refine lv_iadd hx hb d_Rp_field_58 ?_
      refine lv_iload_n hx hb d_Rp_field_59 rfl (lv_at hl 4 rfl) ?_
      refine x_calli C hI hl.1 (d := 0) (As := [.int ((r6 + 1) + x2), .int x3]) (rest := []) (by decide) (c_Rp_ofField h) (xE0 V _) rfl yw_Rp_ofField ml_Rp_190 rfl rfl ⟨Nat.le_of_ble_eq_true rfl, Nat.le_of_ble_eq_true rfl⟩ rfl rfl (Nat.le_of_ble_eq_true rfl) d_Rp_field_60 ⟨Nat.zero_le _, Nat.zero_le _⟩ (fun r11 σ10 H locs h hI => ?_)
      exact x_iret C hlocks hr hI h d_Rp_field_63
    · have h := h.2 c9
      refine lv_iconst (v := (-1)) hx hb d_Rp_field_50 (by decide) ?_
      exact x_iret C hlocks hr hI h d_Rp_field_51
  · have h := h.2 c4
    refine lv_iconst (v := (-1)) hx hb d_Rp_field_19 (by decide) ?_
    exact x_iret C hlocks hr hI h d_Rp_field_20
