def y_Hea_isObject : MethodName := ⟨"RegionPool$Heap", "isObject", "(I)Z"⟩
abbrev cd_Hea_isObject : ByteArray := prog_3_method_2_code
theorem fd_Hea_20 : xFd R_Hea 20 6 0 := ⟨R_Hea, T_Hea, 1, rfl, in_Hea, by decide, xG_mem 112 (by decide +kernel) (by decide +kernel)⟩
theorem yw_Val_sortOf : xY y_Val_sortOf cd_Val_sortOf 2 (some .int) 1 := ⟨xG_mem 355 (by decide +kernel) (by decide +kernel), xG_mem 356 (by decide +kernel) (by decide +kernel), xG_mem 56 (by decide +kernel) (by decide +kernel), xG_mem 357 (by decide +kernel) (by decide +kernel), by decide, by decide, by decide +kernel⟩
theorem ml_Hea_26 : Cond.methodLink R_Hea 26 y_Val_sortOf ∈ xG := xG_mem 354 (by decide +kernel) (by decide +kernel)
def p_Hea_isObject (x1 : Int32) (σ : xS) (Q : Int32 → xS → Prop) : Prop :=
  p_Val_sortOf_19 x1 σ (fun r2 σ1 => ((¬ r2 = 3 → Q 0 σ1) ∧ (r2 = 3 → Q 1 σ1)))
abbrev rm_Hea_isObject : Room := { frames := 1, cells := 0, slots := 0, locals := 21 }
theorem d_Hea_isObject_0 : decode cd_Hea_isObject 0 = .ok (.aload_n 0, 1) := by decide +kernel
theorem d_Hea_isObject_1 : decode cd_Hea_isObject 1 = .ok (.getfield 20, 3) := by decide +kernel
theorem d_Hea_isObject_4 : decode cd_Hea_isObject 4 = .ok (.iload_n 1, 1) := by decide +kernel
theorem d_Hea_isObject_5 : decode cd_Hea_isObject 5 = .ok (.invokevirtual 26, 3) := by decide +kernel
theorem d_Hea_isObject_8 : decode cd_Hea_isObject 8 = .ok (.iconst 3, 1) := by decide +kernel
theorem d_Hea_isObject_9 : decode cd_Hea_isObject 9 = .ok (.if_icmp .ne 7, 3) := by decide +kernel
theorem d_Hea_isObject_12 : decode cd_Hea_isObject 12 = .ok (.iconst 1, 1) := by decide +kernel
theorem d_Hea_isObject_13 : decode cd_Hea_isObject 13 = .ok (.goto 4, 3) := by decide +kernel
theorem d_Hea_isObject_16 : decode cd_Hea_isObject 16 = .ok (.iconst 0, 1) := by decide +kernel
theorem d_Hea_isObject_17 : decode cd_Hea_isObject 17 = .ok (.ireturn, 1) := by decide +kernel
set_option maxRecDepth 100000 in
set_option maxHeartbeats 4000000 in
theorem c_Hea_isObject {l : Launch} {V : xV} {σ : xS} {x1 : Int32} {Q : Int32 → xS → Prop} (h : p_Hea_isObject x1 σ Q) : xMi l y_Hea_isObject (.code y_Hea_isObject cd_Hea_isObject 2 (some .boolean) :: xG) rm_Hea_isObject V [.ref (V.2.2 6), .int x1] σ Q := by
  refine x_begini (by decide) (Nat.le_of_ble_eq_true rfl) (fun p e s m below meth c ls C hlocks hr hI hl => ?_)
  have C : xC p s m _ c cd_Hea_isObject 2 R_Hea V := C
  have hx := C.1
  have hb := C.2.1
  have hl : lv_has ls 2 [(0, .ref (V.2.2 6)), (1, .int x1)] := hl
  unfold p_Hea_isObject at h
  refine lv_aload_n hx hb d_Hea_isObject_0 rfl (lv_at hl 0 rfl) ?_
  refine x_get C hI (d := 6) (by decide) (xE6 V _) fd_Hea_20 rfl d_Hea_isObject_1 ?_
  refine lv_iload_n hx hb d_Hea_isObject_4 rfl (lv_at hl 1 rfl) ?_
  refine x_calli C hI hl.1 (d := 19) (As := [.int x1]) (rest := []) (by decide) (c_Val_sortOf_19 h) (xE19 V _) rfl yw_Val_sortOf ml_Hea_26 rfl rfl ⟨Nat.le_of_ble_eq_true rfl, Nat.le_of_ble_eq_true rfl⟩ rfl rfl (Nat.le_of_ble_eq_true rfl) d_Hea_isObject_5 ⟨Nat.zero_le _, Nat.zero_le _⟩ (fun r2 σ1 H locs h hI => ?_)
  refine lv_iconst (v := 3) hx hb d_Hea_isObject_8 (by decide) ?_
  refine lv_icmp_ne (tgt := 16) hx hb d_Hea_isObject_9 (by decide) (fun c3 => ?_) (fun c3 => ?_)
  · have h := h.1 c3
    refine lv_iconst (v := 0) hx hb d_Hea_isObject_16 (by decide) ?_
    exact x_zret C hlocks hr hI ⟨rfl, h⟩ d_Hea_isObject_17
  · have h := h.2 c3
    refine lv_iconst (v := 1) hx hb d_Hea_isObject_12 (by decide) ?_
    refine lv_goto (tgt := 17) hx hb d_Hea_isObject_13 (by decide) ?_
    exact x_zret C hlocks hr hI ⟨rfl, h⟩ d_Hea_isObject_17
def y_Hea_headOf : MethodName := ⟨"RegionPool$Heap", "headOf", "(I)I"⟩
abbrev cd_Hea_headOf : ByteArray := prog_3_method_3_code
def p_Hea_headOf (x1 : Int32) (σ : xS) (Q : Int32 → xS → Prop) : Prop :=
  (vp_in x1 640 ∧ Q (σ 29 x1.toNatClampNeg) σ)
abbrev rm_Hea_headOf : Room := { frames := 0, cells := 0, slots := 0, locals := 0 }
theorem d_Hea_headOf_0 : decode cd_Hea_headOf 0 = .ok (.aload_n 0, 1) := by decide +kernel
theorem d_Hea_headOf_1 : decode cd_Hea_headOf 1 = .ok (.getfield 20, 3) := by decide +kernel
theorem d_Hea_headOf_4 : decode cd_Hea_headOf 4 = .ok (.getfield 30, 3) := by decide +kernel
theorem d_Hea_headOf_7 : decode cd_Hea_headOf 7 = .ok (.iload_n 1, 1) := by decide +kernel
theorem d_Hea_headOf_8 : decode cd_Hea_headOf 8 = .ok (.iaload, 1) := by decide +kernel
theorem d_Hea_headOf_9 : decode cd_Hea_headOf 9 = .ok (.ireturn, 1) := by decide +kernel
set_option maxRecDepth 100000 in
set_option maxHeartbeats 4000000 in
theorem c_Hea_headOf {l : Launch} {V : xV} {σ : xS} {x1 : Int32} {Q : Int32 → xS → Prop} (h : p_Hea_headOf x1 σ Q) : xMi l y_Hea_headOf (.code y_Hea_headOf cd_Hea_headOf 2 (some .int) :: xG) rm_Hea_headOf V [.ref (V.2.2 6), .int x1] σ Q := by
  refine x_begini (by decide) (Nat.le_of_ble_eq_true rfl) (fun p e s m below meth c ls C hlocks hr hI hl => ?_)
  have C : xC p s m _ c cd_Hea_headOf 2 R_Hea V := C
  have hx := C.1
  have hb := C.2.1
  have hl : lv_has ls 2 [(0, .ref (V.2.2 6)), (1, .int x1)] := hl
  unfold p_Hea_headOf at h
  refine lv_aload_n hx hb d_Hea_headOf_0 rfl (lv_at hl 0 rfl) ?_
  refine x_get C hI (d := 6) (by decide) (xE6 V _) fd_Hea_20 rfl d_Hea_headOf_1 ?_
  refine x_getN C hI (d := 19) (by decide) (xE19 V _) rfl d_Hea_headOf_4 ?_
  refine lv_iload_n hx hb d_Hea_headOf_7 rfl (lv_at hl 1 rfl) ?_
  obtain ⟨i1, h⟩ := h
  refine x_iald C hI (d := 29) (by decide) (xE29 V) i1 d_Hea_headOf_8 ?_
  exact x_iret C hlocks hr hI h d_Hea_headOf_9
def y_Hea_kindOf : MethodName := ⟨"RegionPool$Heap", "kindOf", "(I)I"⟩
abbrev cd_Hea_kindOf : ByteArray := prog_3_method_4_code
def p_Hea_kindOf (x1 : Int32) (σ : xS) (Q : Int32 → xS → Prop) : Prop :=
  (vp_in x1 640 ∧ Q ((σ 29 x1.toNatClampNeg) >>> (14 &&& 31)) σ)
abbrev rm_Hea_kindOf : Room := { frames := 0, cells := 0, slots := 0, locals := 0 }
theorem d_Hea_kindOf_0 : decode cd_Hea_kindOf 0 = .ok (.aload_n 0, 1) := by decide +kernel
theorem d_Hea_kindOf_1 : decode cd_Hea_kindOf 1 = .ok (.getfield 20, 3) := by decide +kernel
theorem d_Hea_kindOf_4 : decode cd_Hea_kindOf 4 = .ok (.getfield 30, 3) := by decide +kernel
theorem d_Hea_kindOf_7 : decode cd_Hea_kindOf 7 = .ok (.iload_n 1, 1) := by decide +kernel
theorem d_Hea_kindOf_8 : decode cd_Hea_kindOf 8 = .ok (.iaload, 1) := by decide +kernel
theorem d_Hea_kindOf_9 : decode cd_Hea_kindOf 9 = .ok (.bipush 14, 2) := by decide +kernel
theorem d_Hea_kindOf_11 : decode cd_Hea_kindOf 11 = .ok (.ishr, 1) := by decide +kernel
theorem d_Hea_kindOf_12 : decode cd_Hea_kindOf 12 = .ok (.ireturn, 1) := by decide +kernel
set_option maxRecDepth 100000 in
set_option maxHeartbeats 4000000 in
theorem c_Hea_kindOf {l : Launch} {V : xV} {σ : xS} {x1 : Int32} {Q : Int32 → xS → Prop} (h : p_Hea_kindOf x1 σ Q) : xMi l y_Hea_kindOf (.code y_Hea_kindOf cd_Hea_kindOf 2 (some .int) :: xG) rm_Hea_kindOf V [.ref (V.2.2 6), .int x1] σ Q := by
  refine x_begini (by decide) (Nat.le_of_ble_eq_true rfl) (fun p e s m below meth c ls C hlocks hr hI hl => ?_)
  have C : xC p s m _ c cd_Hea_kindOf 2 R_Hea V := C
  have hx := C.1
  have hb := C.2.1
  have hl : lv_has ls 2 [(0, .ref (V.2.2 6)), (1, .int x1)] := hl
  unfold p_Hea_kindOf at h
  refine lv_aload_n hx hb d_Hea_kindOf_0 rfl (lv_at hl 0 rfl) ?_
  refine x_get C hI (d := 6) (by decide) (xE6 V _) fd_Hea_20 rfl d_Hea_kindOf_1 ?_
  refine x_getN C hI (d := 19) (by decide) (xE19 V _) rfl d_Hea_kindOf_4 ?_
  refine lv_iload_n hx hb d_Hea_kindOf_7 rfl (lv_at hl 1 rfl) ?_
  obtain ⟨i1, h⟩ := h
  refine x_iald C hI (d := 29) (by decide) (xE29 V) i1 d_Hea_kindOf_8 ?_
  refine lv_bipush (v := 14) hx hb d_Hea_kindOf_9 (by decide) ?_
  refine lv_ishr hx hb d_Hea_kindOf_11 ?_
  exact x_iret C hlocks hr hI h d_Hea_kindOf_12
def y_Hea_tagOf : MethodName := ⟨"RegionPool$Heap", "tagOf", "(I)I"⟩
abbrev cd_Hea_tagOf : ByteArray := prog_3_method_5_code
def p_Hea_tagOf (x1 : Int32) (σ : xS) (Q : Int32 → xS → Prop) : Prop :=
  (vp_in x1 640 ∧ Q (((σ 29 x1.toNatClampNeg) >>> (4 &&& 31)) &&& 1023) σ)
abbrev rm_Hea_tagOf : Room := { frames := 0, cells := 0, slots := 0, locals := 0 }
theorem d_Hea_tagOf_0 : decode cd_Hea_tagOf 0 = .ok (.aload_n 0, 1) := by decide +kernel
theorem d_Hea_tagOf_1 : decode cd_Hea_tagOf 1 = .ok (.getfield 20, 3) := by decide +kernel
theorem d_Hea_tagOf_4 : decode cd_Hea_tagOf 4 = .ok (.getfield 30, 3) := by decide +kernel
theorem d_Hea_tagOf_7 : decode cd_Hea_tagOf 7 = .ok (.iload_n 1, 1) := by decide +kernel
theorem d_Hea_tagOf_8 : decode cd_Hea_tagOf 8 = .ok (.iaload, 1) := by decide +kernel
theorem d_Hea_tagOf_9 : decode cd_Hea_tagOf 9 = .ok (.iconst 4, 1) := by decide +kernel
theorem d_Hea_tagOf_10 : decode cd_Hea_tagOf 10 = .ok (.ishr, 1) := by decide +kernel
theorem d_Hea_tagOf_11 : decode cd_Hea_tagOf 11 = .ok (.sipush 1023, 3) := by decide +kernel
theorem d_Hea_tagOf_14 : decode cd_Hea_tagOf 14 = .ok (.iand, 1) := by decide +kernel
theorem d_Hea_tagOf_15 : decode cd_Hea_tagOf 15 = .ok (.ireturn, 1) := by decide +kernel
set_option maxRecDepth 100000 in
set_option maxHeartbeats 4000000 in
theorem c_Hea_tagOf {l : Launch} {V : xV} {σ : xS} {x1 : Int32} {Q : Int32 → xS → Prop} (h : p_Hea_tagOf x1 σ Q) : xMi l y_Hea_tagOf (.code y_Hea_tagOf cd_Hea_tagOf 2 (some .int) :: xG) rm_Hea_tagOf V [.ref (V.2.2 6), .int x1] σ Q := by
  refine x_begini (by decide) (Nat.le_of_ble_eq_true rfl) (fun p e s m below meth c ls C hlocks hr hI hl => ?_)
  have C : xC p s m _ c cd_Hea_tagOf 2 R_Hea V := C
  have hx := C.1
  have hb := C.2.1
  have hl : lv_has ls 2 [(0, .ref (V.2.2 6)), (1, .int x1)] := hl
  unfold p_Hea_tagOf at h
  refine lv_aload_n hx hb d_Hea_tagOf_0 rfl (lv_at hl 0 rfl) ?_
  refine x_get C hI (d := 6) (by decide) (xE6 V _) fd_Hea_20 rfl d_Hea_tagOf_1 ?_
  refine x_getN C hI (d := 19) (by decide) (xE19 V _) rfl d_Hea_tagOf_4 ?_
  refine lv_iload_n hx hb d_Hea_tagOf_7 rfl (lv_at hl 1 rfl) ?_
  obtain ⟨i1, h⟩ := h
  refine x_iald C hI (d := 29) (by decide) (xE29 V) i1 d_Hea_tagOf_8 ?_
  refine lv_iconst (v := 4) hx hb d_Hea_tagOf_9 (by decide) ?_
  refine lv_ishr hx hb d_Hea_tagOf_10 ?_
  refine lv_sipush (v := 1023) hx hb d_Hea_tagOf_11 (by decide) ?_
  refine lv_iand hx hb d_Hea_tagOf_14 ?_
  exact x_iret C hlocks hr hI h d_Hea_tagOf_15
def y_Hea_fieldsOf : MethodName := ⟨"RegionPool$Heap", "fieldsOf", "(I)I"⟩
abbrev cd_Hea_fieldsOf : ByteArray := prog_3_method_6_code
def p_Hea_fieldsOf (x1 : Int32) (σ : xS) (Q : Int32 → xS → Prop) : Prop :=
  (vp_in x1 640 ∧ Q ((σ 29 x1.toNatClampNeg) &&& 15) σ)
abbrev rm_Hea_fieldsOf : Room := { frames := 0, cells := 0, slots := 0, locals := 0 }
theorem d_Hea_fieldsOf_0 : decode cd_Hea_fieldsOf 0 = .ok (.aload_n 0, 1) := by decide +kernel
theorem d_Hea_fieldsOf_1 : decode cd_Hea_fieldsOf 1 = .ok (.getfield 20, 3) := by decide +kernel
theorem d_Hea_fieldsOf_4 : decode cd_Hea_fieldsOf 4 = .ok (.getfield 30, 3) := by decide +kernel
theorem d_Hea_fieldsOf_7 : decode cd_Hea_fieldsOf 7 = .ok (.iload_n 1, 1) := by decide +kernel
theorem d_Hea_fieldsOf_8 : decode cd_Hea_fieldsOf 8 = .ok (.iaload, 1) := by decide +kernel
theorem d_Hea_fieldsOf_9 : decode cd_Hea_fieldsOf 9 = .ok (.bipush 15, 2) := by decide +kernel
theorem d_Hea_fieldsOf_11 : decode cd_Hea_fieldsOf 11 = .ok (.iand, 1) := by decide +kernel
theorem d_Hea_fieldsOf_12 : decode cd_Hea_fieldsOf 12 = .ok (.ireturn, 1) := by decide +kernel
set_option maxRecDepth 100000 in
set_option maxHeartbeats 4000000 in
theorem c_Hea_fieldsOf {l : Launch} {V : xV} {σ : xS} {x1 : Int32} {Q : Int32 → xS → Prop} (h : p_Hea_fieldsOf x1 σ Q) : xMi l y_Hea_fieldsOf (.code y_Hea_fieldsOf cd_Hea_fieldsOf 2 (some .int) :: xG) rm_Hea_fieldsOf V [.ref (V.2.2 6), .int x1] σ Q := by
  refine x_begini (by decide) (Nat.le_of_ble_eq_true rfl) (fun p e s m below meth c ls C hlocks hr hI hl => ?_)
  have C : xC p s m _ c cd_Hea_fieldsOf 2 R_Hea V := C
  have hx := C.1
  have hb := C.2.1
  have hl : lv_has ls 2 [(0, .ref (V.2.2 6)), (1, .int x1)] := hl
  unfold p_Hea_fieldsOf at h
  refine lv_aload_n hx hb d_Hea_fieldsOf_0 rfl (lv_at hl 0 rfl) ?_
  refine x_get C hI (d := 6) (by decide) (xE6 V _) fd_Hea_20 rfl d_Hea_fieldsOf_1 ?_
  refine x_getN C hI (d := 19) (by decide) (xE19 V _) rfl d_Hea_fieldsOf_4 ?_
  refine lv_iload_n hx hb d_Hea_fieldsOf_7 rfl (lv_at hl 1 rfl) ?_
  obtain ⟨i1, h⟩ := h
  refine x_iald C hI (d := 29) (by decide) (xE29 V) i1 d_Hea_fieldsOf_8 ?_
  refine lv_bipush (v := 15) hx hb d_Hea_fieldsOf_9 (by decide) ?_
  refine lv_iand hx hb d_Hea_fieldsOf_11 ?_
  exact x_iret C hlocks hr hI h d_Hea_fieldsOf_12
def y_Hea_sizeOf : MethodName := ⟨"RegionPool$Heap", "sizeOf", "(I)I"⟩
abbrev cd_Hea_sizeOf : ByteArray := prog_3_method_7_code
theorem yw_Hea_fieldsOf : xY y_Hea_fieldsOf cd_Hea_fieldsOf 2 (some .int) 1 := ⟨xG_mem 367 (by decide +kernel) (by decide +kernel), xG_mem 368 (by decide +kernel) (by decide +kernel), xG_mem 57 (by decide +kernel) (by decide +kernel), xG_mem 369 (by decide +kernel) (by decide +kernel), by decide, by decide, by decide +kernel⟩
theorem ml_Hea_34 : Cond.methodLink R_Hea 34 y_Hea_fieldsOf ∈ xG := xG_mem 366 (by decide +kernel) (by decide +kernel)
def p_Hea_sizeOf (x1 : Int32) (σ : xS) (Q : Int32 → xS → Prop) : Prop :=
  p_Hea_fieldsOf x1 σ (fun r2 σ1 => Q (r2 + 1) σ1)
abbrev rm_Hea_sizeOf : Room := { frames := 1, cells := 0, slots := 0, locals := 21 }
theorem d_Hea_sizeOf_0 : decode cd_Hea_sizeOf 0 = .ok (.aload_n 0, 1) := by decide +kernel
theorem d_Hea_sizeOf_1 : decode cd_Hea_sizeOf 1 = .ok (.iload_n 1, 1) := by decide +kernel
theorem d_Hea_sizeOf_2 : decode cd_Hea_sizeOf 2 = .ok (.invokevirtual 34, 3) := by decide +kernel
theorem d_Hea_sizeOf_5 : decode cd_Hea_sizeOf 5 = .ok (.iconst 1, 1) := by decide +kernel
theorem d_Hea_sizeOf_6 : decode cd_Hea_sizeOf 6 = .ok (.iadd, 1) := by decide +kernel
theorem d_Hea_sizeOf_7 : decode cd_Hea_sizeOf 7 = .ok (.ireturn, 1) := by decide +kernel
set_option maxRecDepth 100000 in
set_option maxHeartbeats 4000000 in
theorem c_Hea_sizeOf {l : Launch} {V : xV} {σ : xS} {x1 : Int32} {Q : Int32 → xS → Prop} (h : p_Hea_sizeOf x1 σ Q) : xMi l y_Hea_sizeOf (.code y_Hea_sizeOf cd_Hea_sizeOf 2 (some .int) :: xG) rm_Hea_sizeOf V [.ref (V.2.2 6), .int x1] σ Q := by
  refine x_begini (by decide) (Nat.le_of_ble_eq_true rfl) (fun p e s m below meth c ls C hlocks hr hI hl => ?_)
  have C : xC p s m _ c cd_Hea_sizeOf 2 R_Hea V := C
  have hx := C.1
  have hb := C.2.1
  have hl : lv_has ls 2 [(0, .ref (V.2.2 6)), (1, .int x1)] := hl
  unfold p_Hea_sizeOf at h
  refine lv_aload_n hx hb d_Hea_sizeOf_0 rfl (lv_at hl 0 rfl) ?_
  refine lv_iload_n hx hb d_Hea_sizeOf_1 rfl (lv_at hl 1 rfl) ?_
  refine x_calli C hI hl.1 (d := 6) (As := [.int x1]) (rest := []) (by decide) (c_Hea_fieldsOf h) (xE6 V _) rfl yw_Hea_fieldsOf ml_Hea_34 rfl rfl ⟨Nat.le_of_ble_eq_true rfl, Nat.le_of_ble_eq_true rfl⟩ rfl rfl (Nat.le_of_ble_eq_true rfl) d_Hea_sizeOf_2 ⟨Nat.zero_le _, Nat.zero_le _⟩ (fun r2 σ1 H locs h hI => ?_)
  refine lv_iconst (v := 1) hx hb d_Hea_sizeOf_5 (by decide) ?_
  refine lv_iadd hx hb d_Hea_sizeOf_6 ?_
  exact x_iret C hlocks hr hI h d_Hea_sizeOf_7
def y_Hea_hasField : MethodName := ⟨"RegionPool$Heap", "hasField", "(II)Z"⟩
abbrev cd_Hea_hasField : ByteArray := prog_3_method_8_code
def p_Hea_hasField (x1 x2 : Int32) (σ : xS) (Q : Int32 → xS → Prop) : Prop :=
  ((x2 < 0 → Q 0 σ) ∧ (¬ x2 < 0 → p_Hea_fieldsOf x1 σ (fun r3 σ2 => ((r3 ≤ x2 → Q 0 σ2) ∧ (¬ r3 ≤ x2 → Q 1 σ2)))))
abbrev rm_Hea_hasField : Room := { frames := 1, cells := 0, slots := 0, locals := 21 }
theorem d_Hea_hasField_0 : decode cd_Hea_hasField 0 = .ok (.iload_n 2, 1) := by decide +kernel
theorem d_Hea_hasField_1 : decode cd_Hea_hasField 1 = .ok (.ifCond .lt 16, 3) := by decide +kernel
theorem d_Hea_hasField_4 : decode cd_Hea_hasField 4 = .ok (.iload_n 2, 1) := by decide +kernel
theorem d_Hea_hasField_5 : decode cd_Hea_hasField 5 = .ok (.aload_n 0, 1) := by decide +kernel
theorem d_Hea_hasField_6 : decode cd_Hea_hasField 6 = .ok (.iload_n 1, 1) := by decide +kernel
theorem d_Hea_hasField_7 : decode cd_Hea_hasField 7 = .ok (.invokevirtual 34, 3) := by decide +kernel
theorem d_Hea_hasField_10 : decode cd_Hea_hasField 10 = .ok (.if_icmp .ge 7, 3) := by decide +kernel
theorem d_Hea_hasField_13 : decode cd_Hea_hasField 13 = .ok (.iconst 1, 1) := by decide +kernel
theorem d_Hea_hasField_14 : decode cd_Hea_hasField 14 = .ok (.goto 4, 3) := by decide +kernel
theorem d_Hea_hasField_17 : decode cd_Hea_hasField 17 = .ok (.iconst 0, 1) := by decide +kernel
theorem d_Hea_hasField_18 : decode cd_Hea_hasField 18 = .ok (.ireturn, 1) := by decide +kernel
set_option maxRecDepth 100000 in
set_option maxHeartbeats 4000000 in
theorem c_Hea_hasField {l : Launch} {V : xV} {σ : xS} {x1 x2 : Int32} {Q : Int32 → xS → Prop} (h : p_Hea_hasField x1 x2 σ Q) : xMi l y_Hea_hasField (.code y_Hea_hasField cd_Hea_hasField 3 (some .boolean) :: xG) rm_Hea_hasField V [.ref (V.2.2 6), .int x1, .int x2] σ Q := by
  refine x_begini (by decide) (Nat.le_of_ble_eq_true rfl) (fun p e s m below meth c ls C hlocks hr hI hl => ?_)
  have C : xC p s m _ c cd_Hea_hasField 3 R_Hea V := C
  have hx := C.1
  have hb := C.2.1
  have hl : lv_has ls 3 [(0, .ref (V.2.2 6)), (1, .int x1), (2, .int x2)] := hl
  unfold p_Hea_hasField at h
  refine lv_iload_n hx hb d_Hea_hasField_0 rfl (lv_at hl 2 rfl) ?_
  refine lv_if_lt (tgt := 17) hx hb d_Hea_hasField_1 (by decide) (fun c1 => ?_) (fun c1 => ?_)
  · have h := h.1 c1
    refine lv_iconst (v := 0) hx hb d_Hea_hasField_17 (by decide) ?_
    exact x_zret C hlocks hr hI ⟨rfl, h⟩ d_Hea_hasField_18
  · have h := h.2 c1
    refine lv_iload_n hx hb d_Hea_hasField_4 rfl (lv_at hl 2 rfl) ?_
    refine lv_aload_n hx hb d_Hea_hasField_5 rfl (lv_at hl 0 rfl) ?_
    refine lv_iload_n hx hb d_Hea_hasField_6 rfl (lv_at hl 1 rfl) ?_
    refine x_calli C hI hl.1 (d := 6) (As := [.int x1]) (rest := [.int x2]) (by decide) (c_Hea_fieldsOf h) (xE6 V _) rfl yw_Hea_fieldsOf ml_Hea_34 rfl rfl ⟨Nat.le_of_ble_eq_true rfl, Nat.le_of_ble_eq_true rfl⟩ rfl rfl (Nat.le_of_ble_eq_true rfl) d_Hea_hasField_7 ⟨Nat.zero_le _, Nat.zero_le _⟩ (fun r3 σ2 H locs h hI => ?_)
    refine lv_icmp_ge (tgt := 17) hx hb d_Hea_hasField_10 (by decide) (fun c4 => ?_) (fun c4 => ?_)
    · have h := h.1 c4
      refine lv_iconst (v := 0) hx hb d_Hea_hasField_17 (by decide) ?_
      exact x_zret C hlocks hr hI ⟨rfl, h⟩ d_Hea_hasField_18
    · have h := h.2 c4
      refine lv_iconst (v := 1) hx hb d_Hea_hasField_13 (by decide) ?_
      refine lv_goto (tgt := 18) hx hb d_Hea_hasField_14 (by decide) ?_
      exact x_zret C hlocks hr hI ⟨rfl, h⟩ d_Hea_hasField_18
def y_Hea_found : MethodName := ⟨"RegionPool$Heap", "found", "(IIII)V"⟩
abbrev cd_Hea_found : ByteArray := prog_3_method_9_code
theorem ml_Hea_37 : Cond.methodLink R_Hea 37 y_Val_assign ∈ xG := xG_mem 370 (by decide +kernel) (by decide +kernel)
def y_Hea_clearFields : MethodName := ⟨"RegionPool$Heap", "clearFields", "(I)V"⟩
abbrev cd_Hea_clearFields : ByteArray := prog_3_method_10_code
theorem yw_Val_setNil : xY y_Val_setNil cd_Val_setNil 2 none 1 := ⟨xG_mem 338 (by decide +kernel) (by decide +kernel), xG_mem 339 (by decide +kernel) (by decide +kernel), xG_mem 56 (by decide +kernel) (by decide +kernel), xG_mem 340 (by decide +kernel) (by decide +kernel), by decide, by decide, by decide +kernel⟩
theorem ml_Hea_45 : Cond.methodLink R_Hea 45 y_Val_setNil ∈ xG := xG_mem 626 (by decide +kernel) (by decide +kernel)
def b_Hea_clearFields_L8 (K8 : Int32 → Int32 → Int32 → xS → Prop) (Q : xS → Prop) (x1 x2 x3 : Int32) (σ : xS) : Prop :=
  ((x2 ≤ x3 → Q σ) ∧ (¬ x2 ≤ x3 → p_Val_setNil_19 ((x1 + 1) + x3) σ (fun σ4 => (∀ z5 : Int32, z5 = x3 + 1 → K8 x1 x2 z5 σ4))))
def p_Hea_clearFields_L8 (Q : xS → Prop) (n : Nat) : Int32 → Int32 → Int32 → xS → Prop := Nat.rec (motive := fun _ => Int32 → Int32 → Int32 → xS → Prop) (fun _ _ _ _ => False) (fun _ K x1 x2 x3 σ => b_Hea_clearFields_L8 K Q x1 x2 x3 σ) n
def p_Hea_clearFields (x1 : Int32) (σ : xS) (Q : xS → Prop) : Prop :=
  p_Hea_fieldsOf x1 σ (fun r2 σ1 => (∃ n, p_Hea_clearFields_L8 Q n x1 r2 0 σ1))
abbrev rm_Hea_clearFields : Room := { frames := 2, cells := 0, slots := 0, locals := 44 }
theorem d_Hea_clearFields_0 : decode cd_Hea_clearFields 0 = .ok (.aload_n 0, 1) := by decide +kernel
theorem d_Hea_clearFields_1 : decode cd_Hea_clearFields 1 = .ok (.iload_n 1, 1) := by decide +kernel
theorem d_Hea_clearFields_2 : decode cd_Hea_clearFields 2 = .ok (.invokevirtual 34, 3) := by decide +kernel
theorem d_Hea_clearFields_5 : decode cd_Hea_clearFields 5 = .ok (.istore_n 2, 1) := by decide +kernel
theorem d_Hea_clearFields_6 : decode cd_Hea_clearFields 6 = .ok (.iconst 0, 1) := by decide +kernel
theorem d_Hea_clearFields_7 : decode cd_Hea_clearFields 7 = .ok (.istore_n 3, 1) := by decide +kernel
theorem d_Hea_clearFields_8 : decode cd_Hea_clearFields 8 = .ok (.iload_n 3, 1) := by decide +kernel
theorem d_Hea_clearFields_9 : decode cd_Hea_clearFields 9 = .ok (.iload_n 2, 1) := by decide +kernel
theorem d_Hea_clearFields_10 : decode cd_Hea_clearFields 10 = .ok (.if_icmp .ge 21, 3) := by decide +kernel
theorem d_Hea_clearFields_13 : decode cd_Hea_clearFields 13 = .ok (.aload_n 0, 1) := by decide +kernel
theorem d_Hea_clearFields_14 : decode cd_Hea_clearFields 14 = .ok (.getfield 20, 3) := by decide +kernel
theorem d_Hea_clearFields_17 : decode cd_Hea_clearFields 17 = .ok (.iload_n 1, 1) := by decide +kernel
theorem d_Hea_clearFields_18 : decode cd_Hea_clearFields 18 = .ok (.iconst 1, 1) := by decide +kernel
theorem d_Hea_clearFields_19 : decode cd_Hea_clearFields 19 = .ok (.iadd, 1) := by decide +kernel
theorem d_Hea_clearFields_20 : decode cd_Hea_clearFields 20 = .ok (.iload_n 3, 1) := by decide +kernel
theorem d_Hea_clearFields_21 : decode cd_Hea_clearFields 21 = .ok (.iadd, 1) := by decide +kernel
theorem d_Hea_clearFields_22 : decode cd_Hea_clearFields 22 = .ok (.invokevirtual 45, 3) := by decide +kernel
theorem d_Hea_clearFields_25 : decode cd_Hea_clearFields 25 = .ok (.iinc 3 1, 3) := by decide +kernel
theorem d_Hea_clearFields_28 : decode cd_Hea_clearFields 28 = .ok (.goto (-20), 3) := by decide +kernel
theorem d_Hea_clearFields_31 : decode cd_Hea_clearFields 31 = .ok (.return_, 1) := by decide +kernel
set_option maxRecDepth 100000 in
set_option maxHeartbeats 4000000 in
theorem s_Hea_clearFields_L8 {p : Program} {l : Launch} {e : Env} {s : State} {m : MethodId} {args : Array Value} {below : List Frame} {meth : Method} {c : Code} {V : xV} (C : xC p s m args c cd_Hea_clearFields 4 R_Hea V) (hlocks : meth.locks = false) (hr : meth.sig.returnType = none) {Q : xS → Prop} {K8 : Int32 → Int32 → Int32 → xS → Prop} (hK8 : ∀ (x1 : Int32) (x2 : Int32) (x3 : Int32) (σ : xS) (H : Heap) (locs : List Loc) (ls : Array Slot), K8 x1 x2 x3 σ → xI V s.heap σ H locs → lv_has ls 4 [(0, .ref (V.2.2 6)), (1, .int x1), (2, .int x2), (3, .int x3)] → W p l e rm_Hea_clearFields s m args below meth c H locs 0 0 (xZv below V args s Q) (F0 m 8 ls [])) {x1 x2 x3 : Int32} {σ : xS} {H : Heap} {locs : List Loc} {ls : Array Slot} (h : b_Hea_clearFields_L8 K8 Q x1 x2 x3 σ) (hI : xI V s.heap σ H locs) (hl : lv_has ls 4 [(0, .ref (V.2.2 6)), (1, .int x1), (2, .int x2), (3, .int x3)]) : W p l e rm_Hea_clearFields s m args below meth c H locs 0 0 (xZv below V args s Q) (F0 m 8 ls []) := by
  have hx := C.1
  have hb := C.2.1
  unfold b_Hea_clearFields_L8 at h
  refine lv_iload_n hx hb d_Hea_clearFields_8 rfl (lv_at hl 3 rfl) ?_
  refine lv_iload_n hx hb d_Hea_clearFields_9 rfl (lv_at hl 2 rfl) ?_
  refine lv_icmp_ge (tgt := 31) hx hb d_Hea_clearFields_10 (by decide) (fun c3 => ?_) (fun c3 => ?_)
  · have h := h.1 c3
    exact x_vret C hlocks hr hI h d_Hea_clearFields_31
  · have h := h.2 c3
    refine lv_aload_n hx hb d_Hea_clearFields_13 rfl (lv_at hl 0 rfl) ?_
    refine x_get C hI (d := 6) (by decide) (xE6 V _) fd_Hea_20 rfl d_Hea_clearFields_14 ?_
    refine lv_iload_n hx hb d_Hea_clearFields_17 rfl (lv_at hl 1 rfl) ?_
    refine lv_iconst (v := 1) hx hb d_Hea_clearFields_18 (by decide) ?_
    refine lv_iadd hx hb d_Hea_clearFields_19 ?_
    refine lv_iload_n hx hb d_Hea_clearFields_20 rfl (lv_at hl 3 rfl) ?_
    refine lv_iadd hx hb d_Hea_clearFields_21 ?_
    refine x_callv C hI hl.1 (d := 19) (As := [.int ((x1 + 1) + x3)]) (rest := []) (by decide) (c_Val_setNil_19 h) (xE19 V _) rfl yw_Val_setNil ml_Hea_45 rfl rfl ⟨Nat.le_of_ble_eq_true rfl, Nat.le_of_ble_eq_true rfl⟩ rfl rfl (Nat.le_of_ble_eq_true rfl) d_Hea_clearFields_22 ⟨Nat.zero_le _, Nat.zero_le _⟩ (fun σ4 H locs h hI => ?_)
    obtain ⟨z5, ez5⟩ : ∃ y : Int32, y = x3 + 1 := ⟨_, rfl⟩
    have h := h z5 ez5
    refine lv_iinc (v := z5) (lv' := [(3, .int z5), (0, .ref (V.2.2 6)), (1, .int x1), (2, .int x2)]) hx hb d_Hea_clearFields_25 hl (k := 3) rfl (by rw [ez5]; rfl) (by decide) rfl (fun ls hl => ?_)
    refine lv_goto (tgt := 8) hx hb d_Hea_clearFields_28 (by decide) ?_
    exact hK8 _ _ _ _ _ _ _ h hI (lv_sub hl [1, 2, 3, 0] rfl)
theorem w_Hea_clearFields_L8 {p : Program} {l : Launch} {e : Env} {s : State} {m : MethodId} {args : Array Value} {below : List Frame} {meth : Method} {c : Code} {V : xV} (C : xC p s m args c cd_Hea_clearFields 4 R_Hea V) (hlocks : meth.locks = false) (hr : meth.sig.returnType = none) {Q : xS → Prop} : ∀ (n : Nat) (x1 : Int32) (x2 : Int32) (x3 : Int32) (σ : xS) (H : Heap) (locs : List Loc) (ls : Array Slot), p_Hea_clearFields_L8 Q n x1 x2 x3 σ → xI V s.heap σ H locs → lv_has ls 4 [(0, .ref (V.2.2 6)), (1, .int x1), (2, .int x2), (3, .int x3)] → W p l e rm_Hea_clearFields s m args below meth c H locs 0 0 (xZv below V args s Q) (F0 m 8 ls []) := by
  intro n
  induction n with
  | zero =>
    intro x1 x2 x3 σ H locs ls h
    exact False.elim h
  | succ n ih =>
    intro x1 x2 x3 σ H locs ls h hI hl
    exact s_Hea_clearFields_L8 C hlocks hr (K8 := p_Hea_clearFields_L8 Q n) (fun x1 x2 x3 σ H locs ls h hI hl => ih x1 x2 x3 σ H locs ls h hI hl) h hI hl
set_option maxRecDepth 100000 in
set_option maxHeartbeats 4000000 in
theorem c_Hea_clearFields {l : Launch} {V : xV} {σ : xS} {x1 : Int32} {Q : xS → Prop} (h : p_Hea_clearFields x1 σ Q) : xMv l y_Hea_clearFields (.code y_Hea_clearFields cd_Hea_clearFields 4 none :: xG) rm_Hea_clearFields V [.ref (V.2.2 6), .int x1] σ Q := by
  refine x_beginv (by decide) (Nat.le_of_ble_eq_true rfl) (fun p e s m below meth c ls C hlocks hr hI hl => ?_)
  have C : xC p s m _ c cd_Hea_clearFields 4 R_Hea V := C
  have hx := C.1
  have hb := C.2.1
  have hl : lv_has ls 4 [(0, .ref (V.2.2 6)), (1, .int x1)] := hl
  unfold p_Hea_clearFields at h
  refine lv_aload_n hx hb d_Hea_clearFields_0 rfl (lv_at hl 0 rfl) ?_
  refine lv_iload_n hx hb d_Hea_clearFields_1 rfl (lv_at hl 1 rfl) ?_
  refine x_calli C hI hl.1 (d := 6) (As := [.int x1]) (rest := []) (by decide) (c_Hea_fieldsOf h) (xE6 V _) rfl yw_Hea_fieldsOf ml_Hea_34 rfl rfl ⟨Nat.le_of_ble_eq_true rfl, Nat.le_of_ble_eq_true rfl⟩ rfl rfl (Nat.le_of_ble_eq_true rfl) d_Hea_clearFields_2 ⟨Nat.zero_le _, Nat.zero_le _⟩ (fun r2 σ1 H locs h hI => ?_)
  refine lv_istore_n (lv' := [(2, .int r2), (0, .ref (V.2.2 6)), (1, .int x1)]) hx hb d_Hea_clearFields_5 rfl hl (by decide) rfl (fun ls hl => ?_)
  refine lv_iconst (v := 0) hx hb d_Hea_clearFields_6 (by decide) ?_
  refine lv_istore_n (lv' := [(3, .int 0), (2, .int r2), (0, .ref (V.2.2 6)), (1, .int x1)]) hx hb d_Hea_clearFields_7 rfl hl (by decide) rfl (fun ls hl => ?_)
  obtain ⟨n, h⟩ := h
  exact w_Hea_clearFields_L8 C hlocks hr n _ _ _ _ _ _ _ h hI (lv_sub hl [2, 3, 1, 0] rfl)
theorem yw_Hea_clearFields : xY y_Hea_clearFields cd_Hea_clearFields 4 none 1 := ⟨xG_mem 623 (by decide +kernel) (by decide +kernel), xG_mem 624 (by decide +kernel) (by decide +kernel), xG_mem 57 (by decide +kernel) (by decide +kernel), xG_mem 625 (by decide +kernel) (by decide +kernel), by decide, by decide, by decide +kernel⟩
theorem ml_Hea_41 : Cond.methodLink R_Hea 41 y_Hea_clearFields ∈ xG := xG_mem 766 (by decide +kernel) (by decide +kernel)
def p_Hea_found (x1 x2 x3 x4 : Int32) (σ : xS) (Q : xS → Prop) : Prop :=
  (∀ z1 : Int32, z1 = ((((x2 <<< (10 &&& 31)) ||| x3) <<< (4 &&& 31)) ||| x4) → p_Val_assign_19 x1 3 z1 σ (fun σ2 => p_Hea_clearFields x1 σ2 (fun σ3 => Q σ3)))
abbrev rm_Hea_found : Room := { frames := 3, cells := 0, slots := 0, locals := 67 }
theorem d_Hea_found_0 : decode cd_Hea_found 0 = .ok (.iload_n 2, 1) := by decide +kernel
theorem d_Hea_found_1 : decode cd_Hea_found 1 = .ok (.bipush 10, 2) := by decide +kernel
theorem d_Hea_found_3 : decode cd_Hea_found 3 = .ok (.ishl, 1) := by decide +kernel
theorem d_Hea_found_4 : decode cd_Hea_found 4 = .ok (.iload_n 3, 1) := by decide +kernel
theorem d_Hea_found_5 : decode cd_Hea_found 5 = .ok (.ior, 1) := by decide +kernel
theorem d_Hea_found_6 : decode cd_Hea_found 6 = .ok (.iconst 4, 1) := by decide +kernel
theorem d_Hea_found_7 : decode cd_Hea_found 7 = .ok (.ishl, 1) := by decide +kernel
theorem d_Hea_found_8 : decode cd_Hea_found 8 = .ok (.iload 4, 2) := by decide +kernel
theorem d_Hea_found_10 : decode cd_Hea_found 10 = .ok (.ior, 1) := by decide +kernel
theorem d_Hea_found_11 : decode cd_Hea_found 11 = .ok (.istore 5, 2) := by decide +kernel
theorem d_Hea_found_13 : decode cd_Hea_found 13 = .ok (.aload_n 0, 1) := by decide +kernel
theorem d_Hea_found_14 : decode cd_Hea_found 14 = .ok (.getfield 20, 3) := by decide +kernel
theorem d_Hea_found_17 : decode cd_Hea_found 17 = .ok (.iload_n 1, 1) := by decide +kernel
theorem d_Hea_found_18 : decode cd_Hea_found 18 = .ok (.iconst 3, 1) := by decide +kernel
theorem d_Hea_found_19 : decode cd_Hea_found 19 = .ok (.iload 5, 2) := by decide +kernel
theorem d_Hea_found_21 : decode cd_Hea_found 21 = .ok (.invokevirtual 37, 3) := by decide +kernel
theorem d_Hea_found_24 : decode cd_Hea_found 24 = .ok (.aload_n 0, 1) := by decide +kernel
theorem d_Hea_found_25 : decode cd_Hea_found 25 = .ok (.iload_n 1, 1) := by decide +kernel
theorem d_Hea_found_26 : decode cd_Hea_found 26 = .ok (.invokevirtual 41, 3) := by decide +kernel
theorem d_Hea_found_29 : decode cd_Hea_found 29 = .ok (.return_, 1) := by decide +kernel
set_option maxRecDepth 100000 in
set_option maxHeartbeats 4000000 in
theorem c_Hea_found {l : Launch} {V : xV} {σ : xS} {x1 x2 x3 x4 : Int32} {Q : xS → Prop} (h : p_Hea_found x1 x2 x3 x4 σ Q) : xMv l y_Hea_found (.code y_Hea_found cd_Hea_found 6 none :: xG) rm_Hea_found V [.ref (V.2.2 6), .int x1, .int x2, .int x3, .int x4] σ Q := by
  refine x_beginv (by decide) (Nat.le_of_ble_eq_true rfl) (fun p e s m below meth c ls C hlocks hr hI hl => ?_)
  have C : xC p s m _ c cd_Hea_found 6 R_Hea V := C
  have hx := C.1
  have hb := C.2.1
  have hl : lv_has ls 6 [(0, .ref (V.2.2 6)), (1, .int x1), (2, .int x2), (3, .int x3), (4, .int x4)] := hl
  unfold p_Hea_found at h
  refine lv_iload_n hx hb d_Hea_found_0 rfl (lv_at hl 2 rfl) ?_
  refine lv_bipush (v := 10) hx hb d_Hea_found_1 (by decide) ?_
  refine lv_ishl hx hb d_Hea_found_3 ?_
  refine lv_iload_n hx hb d_Hea_found_4 rfl (lv_at hl 3 rfl) ?_
  refine lv_ior hx hb d_Hea_found_5 ?_
  refine lv_iconst (v := 4) hx hb d_Hea_found_6 (by decide) ?_
  refine lv_ishl hx hb d_Hea_found_7 ?_
  refine lv_iload hx hb d_Hea_found_8 (lv_at hl 4 rfl) ?_
  refine lv_ior hx hb d_Hea_found_10 ?_
  refine lv_topi (fun z1 ez1 => ?_)
  have h := h z1 ez1
  refine lv_istore (lv' := [(5, .int z1), (0, .ref (V.2.2 6)), (1, .int x1), (2, .int x2), (3, .int x3), (4, .int x4)]) hx hb d_Hea_found_11 hl (by decide) rfl (fun ls hl => ?_)
  refine lv_aload_n hx hb d_Hea_found_13 rfl (lv_at hl 1 rfl) ?_
  refine x_get C hI (d := 6) (by decide) (xE6 V _) fd_Hea_20 rfl d_Hea_found_14 ?_
  refine lv_iload_n hx hb d_Hea_found_17 rfl (lv_at hl 2 rfl) ?_
  refine lv_iconst (v := 3) hx hb d_Hea_found_18 (by decide) ?_
  refine lv_iload hx hb d_Hea_found_19 (lv_at hl 0 rfl) ?_
  refine x_callv C hI hl.1 (d := 19) (As := [.int x1, .int 3, .int z1]) (rest := []) (by decide) (c_Val_assign_19 h) (xE19 V _) rfl yw_Val_assign ml_Hea_37 rfl rfl ⟨Nat.le_of_ble_eq_true rfl, Nat.le_of_ble_eq_true rfl⟩ rfl rfl (Nat.le_of_ble_eq_true rfl) d_Hea_found_21 ⟨Nat.zero_le _, Nat.zero_le _⟩ (fun σ2 H locs h hI => ?_)
  refine lv_aload_n hx hb d_Hea_found_24 rfl (lv_at hl 1 rfl) ?_
  refine lv_iload_n hx hb d_Hea_found_25 rfl (lv_at hl 2 rfl) ?_
  refine x_callv C hI hl.1 (d := 6) (As := [.int x1]) (rest := []) (by decide) (c_Hea_clearFields h) (xE6 V _) rfl yw_Hea_clearFields ml_Hea_41 rfl rfl ⟨Nat.le_of_ble_eq_true rfl, Nat.le_of_ble_eq_true rfl⟩ rfl rfl (Nat.le_of_ble_eq_true rfl) d_Hea_found_26 ⟨Nat.zero_le _, Nat.zero_le _⟩ (fun σ3 H locs h hI => ?_)
  exact x_vret C hlocks hr hI h d_Hea_found_29
def y_Hea_erase : MethodName := ⟨"RegionPool$Heap", "erase", "(I)V"⟩
abbrev cd_Hea_erase : ByteArray := prog_3_method_11_code
theorem yw_Hea_sizeOf : xY y_Hea_sizeOf cd_Hea_sizeOf 2 (some .int) 1 := ⟨xG_mem 363 (by decide +kernel) (by decide +kernel), xG_mem 364 (by decide +kernel) (by decide +kernel), xG_mem 57 (by decide +kernel) (by decide +kernel), xG_mem 365 (by decide +kernel) (by decide +kernel), by decide, by decide, by decide +kernel⟩
theorem ml_Hea_48 : Cond.methodLink R_Hea 48 y_Hea_sizeOf ∈ xG := xG_mem 362 (by decide +kernel) (by decide +kernel)
def b_Hea_erase_L8 (K8 : Int32 → Int32 → Int32 → xS → Prop) (Q : xS → Prop) (x1 x2 x3 : Int32) (σ : xS) : Prop :=
  ((x2 ≤ x3 → Q σ) ∧ (¬ x2 ≤ x3 → p_Val_assign_19 (x1 + x3) 4 0 σ (fun σ4 => (∀ z5 : Int32, z5 = x3 + 1 → K8 x1 x2 z5 σ4))))
def p_Hea_erase_L8 (Q : xS → Prop) (n : Nat) : Int32 → Int32 → Int32 → xS → Prop := Nat.rec (motive := fun _ => Int32 → Int32 → Int32 → xS → Prop) (fun _ _ _ _ => False) (fun _ K x1 x2 x3 σ => b_Hea_erase_L8 K Q x1 x2 x3 σ) n
def p_Hea_erase (x1 : Int32) (σ : xS) (Q : xS → Prop) : Prop :=
  p_Hea_sizeOf x1 σ (fun r2 σ1 => (∃ n, p_Hea_erase_L8 Q n x1 r2 0 σ1))
abbrev rm_Hea_erase : Room := { frames := 2, cells := 0, slots := 0, locals := 42 }
theorem d_Hea_erase_0 : decode cd_Hea_erase 0 = .ok (.aload_n 0, 1) := by decide +kernel
theorem d_Hea_erase_1 : decode cd_Hea_erase 1 = .ok (.iload_n 1, 1) := by decide +kernel
theorem d_Hea_erase_2 : decode cd_Hea_erase 2 = .ok (.invokevirtual 48, 3) := by decide +kernel
theorem d_Hea_erase_5 : decode cd_Hea_erase 5 = .ok (.istore_n 2, 1) := by decide +kernel
theorem d_Hea_erase_6 : decode cd_Hea_erase 6 = .ok (.iconst 0, 1) := by decide +kernel
theorem d_Hea_erase_7 : decode cd_Hea_erase 7 = .ok (.istore_n 3, 1) := by decide +kernel
theorem d_Hea_erase_8 : decode cd_Hea_erase 8 = .ok (.iload_n 3, 1) := by decide +kernel
theorem d_Hea_erase_9 : decode cd_Hea_erase 9 = .ok (.iload_n 2, 1) := by decide +kernel
theorem d_Hea_erase_10 : decode cd_Hea_erase 10 = .ok (.if_icmp .ge 21, 3) := by decide +kernel
theorem d_Hea_erase_13 : decode cd_Hea_erase 13 = .ok (.aload_n 0, 1) := by decide +kernel
theorem d_Hea_erase_14 : decode cd_Hea_erase 14 = .ok (.getfield 20, 3) := by decide +kernel
theorem d_Hea_erase_17 : decode cd_Hea_erase 17 = .ok (.iload_n 1, 1) := by decide +kernel
theorem d_Hea_erase_18 : decode cd_Hea_erase 18 = .ok (.iload_n 3, 1) := by decide +kernel
theorem d_Hea_erase_19 : decode cd_Hea_erase 19 = .ok (.iadd, 1) := by decide +kernel
theorem d_Hea_erase_20 : decode cd_Hea_erase 20 = .ok (.iconst 4, 1) := by decide +kernel
theorem d_Hea_erase_21 : decode cd_Hea_erase 21 = .ok (.iconst 0, 1) := by decide +kernel
theorem d_Hea_erase_22 : decode cd_Hea_erase 22 = .ok (.invokevirtual 37, 3) := by decide +kernel
theorem d_Hea_erase_25 : decode cd_Hea_erase 25 = .ok (.iinc 3 1, 3) := by decide +kernel
theorem d_Hea_erase_28 : decode cd_Hea_erase 28 = .ok (.goto (-20), 3) := by decide +kernel
theorem d_Hea_erase_31 : decode cd_Hea_erase 31 = .ok (.return_, 1) := by decide +kernel
set_option maxRecDepth 100000 in
set_option maxHeartbeats 4000000 in
theorem s_Hea_erase_L8 {p : Program} {l : Launch} {e : Env} {s : State} {m : MethodId} {args : Array Value} {below : List Frame} {meth : Method} {c : Code} {V : xV} (C : xC p s m args c cd_Hea_erase 4 R_Hea V) (hlocks : meth.locks = false) (hr : meth.sig.returnType = none) {Q : xS → Prop} {K8 : Int32 → Int32 → Int32 → xS → Prop} (hK8 : ∀ (x1 : Int32) (x2 : Int32) (x3 : Int32) (σ : xS) (H : Heap) (locs : List Loc) (ls : Array Slot), K8 x1 x2 x3 σ → xI V s.heap σ H locs → lv_has ls 4 [(0, .ref (V.2.2 6)), (1, .int x1), (2, .int x2), (3, .int x3)] → W p l e rm_Hea_erase s m args below meth c H locs 0 0 (xZv below V args s Q) (F0 m 8 ls [])) {x1 x2 x3 : Int32} {σ : xS} {H : Heap} {locs : List Loc} {ls : Array Slot} (h : b_Hea_erase_L8 K8 Q x1 x2 x3 σ) (hI : xI V s.heap σ H locs) (hl : lv_has ls 4 [(0, .ref (V.2.2 6)), (1, .int x1), (2, .int x2), (3, .int x3)]) : W p l e rm_Hea_erase s m args below meth c H locs 0 0 (xZv below V args s Q) (F0 m 8 ls []) := by
  have hx := C.1
  have hb := C.2.1
  unfold b_Hea_erase_L8 at h
  refine lv_iload_n hx hb d_Hea_erase_8 rfl (lv_at hl 3 rfl) ?_
  refine lv_iload_n hx hb d_Hea_erase_9 rfl (lv_at hl 2 rfl) ?_
  refine lv_icmp_ge (tgt := 31) hx hb d_Hea_erase_10 (by decide) (fun c3 => ?_) (fun c3 => ?_)
  · have h := h.1 c3
    exact x_vret C hlocks hr hI h d_Hea_erase_31
  · have h := h.2 c3
    refine lv_aload_n hx hb d_Hea_erase_13 rfl (lv_at hl 0 rfl) ?_
    refine x_get C hI (d := 6) (by decide) (xE6 V _) fd_Hea_20 rfl d_Hea_erase_14 ?_
    refine lv_iload_n hx hb d_Hea_erase_17 rfl (lv_at hl 1 rfl) ?_
    refine lv_iload_n hx hb d_Hea_erase_18 rfl (lv_at hl 3 rfl) ?_
    refine lv_iadd hx hb d_Hea_erase_19 ?_
    refine lv_iconst (v := 4) hx hb d_Hea_erase_20 (by decide) ?_
    refine lv_iconst (v := 0) hx hb d_Hea_erase_21 (by decide) ?_
    refine x_callv C hI hl.1 (d := 19) (As := [.int (x1 + x3), .int 4, .int 0]) (rest := []) (by decide) (c_Val_assign_19 h) (xE19 V _) rfl yw_Val_assign ml_Hea_37 rfl rfl ⟨Nat.le_of_ble_eq_true rfl, Nat.le_of_ble_eq_true rfl⟩ rfl rfl (Nat.le_of_ble_eq_true rfl) d_Hea_erase_22 ⟨Nat.zero_le _, Nat.zero_le _⟩ (fun σ4 H locs h hI => ?_)
    obtain ⟨z5, ez5⟩ : ∃ y : Int32, y = x3 + 1 := ⟨_, rfl⟩
    have h := h z5 ez5
    refine lv_iinc (v := z5) (lv' := [(3, .int z5), (0, .ref (V.2.2 6)), (1, .int x1), (2, .int x2)]) hx hb d_Hea_erase_25 hl (k := 3) rfl (by rw [ez5]; rfl) (by decide) rfl (fun ls hl => ?_)
    refine lv_goto (tgt := 8) hx hb d_Hea_erase_28 (by decide) ?_
    exact hK8 _ _ _ _ _ _ _ h hI (lv_sub hl [1, 2, 3, 0] rfl)
theorem w_Hea_erase_L8 {p : Program} {l : Launch} {e : Env} {s : State} {m : MethodId} {args : Array Value} {below : List Frame} {meth : Method} {c : Code} {V : xV} (C : xC p s m args c cd_Hea_erase 4 R_Hea V) (hlocks : meth.locks = false) (hr : meth.sig.returnType = none) {Q : xS → Prop} : ∀ (n : Nat) (x1 : Int32) (x2 : Int32) (x3 : Int32) (σ : xS) (H : Heap) (locs : List Loc) (ls : Array Slot), p_Hea_erase_L8 Q n x1 x2 x3 σ → xI V s.heap σ H locs → lv_has ls 4 [(0, .ref (V.2.2 6)), (1, .int x1), (2, .int x2), (3, .int x3)] → W p l e rm_Hea_erase s m args below meth c H locs 0 0 (xZv below V args s Q) (F0 m 8 ls []) := by
  intro n
  induction n with
  | zero =>
    intro x1 x2 x3 σ H locs ls h
    exact False.elim h
  | succ n ih =>
    intro x1 x2 x3 σ H locs ls h hI hl
    exact s_Hea_erase_L8 C hlocks hr (K8 := p_Hea_erase_L8 Q n) (fun x1 x2 x3 σ H locs ls h hI hl => ih x1 x2 x3 σ H locs ls h hI hl) h hI hl
set_option maxRecDepth 100000 in
set_option maxHeartbeats 4000000 in
theorem c_Hea_erase {l : Launch} {V : xV} {σ : xS} {x1 : Int32} {Q : xS → Prop} (h : p_Hea_erase x1 σ Q) : xMv l y_Hea_erase (.code y_Hea_erase cd_Hea_erase 4 none :: xG) rm_Hea_erase V [.ref (V.2.2 6), .int x1] σ Q := by
  refine x_beginv (by decide) (Nat.le_of_ble_eq_true rfl) (fun p e s m below meth c ls C hlocks hr hI hl => ?_)
  have C : xC p s m _ c cd_Hea_erase 4 R_Hea V := C
  have hx := C.1
  have hb := C.2.1
  have hl : lv_has ls 4 [(0, .ref (V.2.2 6)), (1, .int x1)] := hl
  unfold p_Hea_erase at h
  refine lv_aload_n hx hb d_Hea_erase_0 rfl (lv_at hl 0 rfl) ?_
  refine lv_iload_n hx hb d_Hea_erase_1 rfl (lv_at hl 1 rfl) ?_
  refine x_calli C hI hl.1 (d := 6) (As := [.int x1]) (rest := []) (by decide) (c_Hea_sizeOf h) (xE6 V _) rfl yw_Hea_sizeOf ml_Hea_48 rfl rfl ⟨Nat.le_of_ble_eq_true rfl, Nat.le_of_ble_eq_true rfl⟩ rfl rfl (Nat.le_of_ble_eq_true rfl) d_Hea_erase_2 ⟨Nat.zero_le _, Nat.zero_le _⟩ (fun r2 σ1 H locs h hI => ?_)
  refine lv_istore_n (lv' := [(2, .int r2), (0, .ref (V.2.2 6)), (1, .int x1)]) hx hb d_Hea_erase_5 rfl hl (by decide) rfl (fun ls hl => ?_)
  refine lv_iconst (v := 0) hx hb d_Hea_erase_6 (by decide) ?_
  refine lv_istore_n (lv' := [(3, .int 0), (2, .int r2), (0, .ref (V.2.2 6)), (1, .int x1)]) hx hb d_Hea_erase_7 rfl hl (by decide) rfl (fun ls hl => ?_)
  obtain ⟨n, h⟩ := h
  exact w_Hea_erase_L8 C hlocks hr n _ _ _ _ _ _ _ h hI (lv_sub hl [2, 3, 1, 0] rfl)
def y_Hea_duplicate : MethodName := ⟨"RegionPool$Heap", "duplicate", "(II)V"⟩
abbrev cd_Hea_duplicate : ByteArray := prog_3_method_12_code
theorem yw_Val_take : xY y_Val_take cd_Val_take 4 none 3 := ⟨xG_mem 729 (by decide +kernel) (by decide +kernel), xG_mem 730 (by decide +kernel) (by decide +kernel), xG_mem 56 (by decide +kernel) (by decide +kernel), xG_mem 731 (by decide +kernel) (by decide +kernel), by decide, by decide, by decide +kernel⟩
theorem ml_Hea_51 : Cond.methodLink R_Hea 51 y_Val_take ∈ xG := xG_mem 882 (by decide +kernel) (by decide +kernel)
def b_Hea_duplicate_L9 (K9 : Int32 → Int32 → Int32 → Int32 → xS → Prop) (Q : xS → Prop) (x1 x2 x3 x4 : Int32) (σ : xS) : Prop :=
  ((x3 ≤ x4 → Q σ) ∧ (¬ x3 ≤ x4 → p_Val_take_19_19 (x2 + x4) (x1 + x4) σ (fun σ4 => (∀ z5 : Int32, z5 = x4 + 1 → K9 x1 x2 x3 z5 σ4))))
def p_Hea_duplicate_L9 (Q : xS → Prop) (n : Nat) : Int32 → Int32 → Int32 → Int32 → xS → Prop := Nat.rec (motive := fun _ => Int32 → Int32 → Int32 → Int32 → xS → Prop) (fun _ _ _ _ _ => False) (fun _ K x1 x2 x3 x4 σ => b_Hea_duplicate_L9 K Q x1 x2 x3 x4 σ) n
def p_Hea_duplicate (x1 x2 : Int32) (σ : xS) (Q : xS → Prop) : Prop :=
  p_Hea_sizeOf x1 σ (fun r2 σ1 => (∃ n, p_Hea_duplicate_L9 Q n x1 x2 r2 0 σ1))
abbrev rm_Hea_duplicate : Room := { frames := 2, cells := 0, slots := 0, locals := 46 }
theorem d_Hea_duplicate_0 : decode cd_Hea_duplicate 0 = .ok (.aload_n 0, 1) := by decide +kernel
theorem d_Hea_duplicate_1 : decode cd_Hea_duplicate 1 = .ok (.iload_n 1, 1) := by decide +kernel
theorem d_Hea_duplicate_2 : decode cd_Hea_duplicate 2 = .ok (.invokevirtual 48, 3) := by decide +kernel
theorem d_Hea_duplicate_5 : decode cd_Hea_duplicate 5 = .ok (.istore_n 3, 1) := by decide +kernel
theorem d_Hea_duplicate_6 : decode cd_Hea_duplicate 6 = .ok (.iconst 0, 1) := by decide +kernel
theorem d_Hea_duplicate_7 : decode cd_Hea_duplicate 7 = .ok (.istore 4, 2) := by decide +kernel
theorem d_Hea_duplicate_9 : decode cd_Hea_duplicate 9 = .ok (.iload 4, 2) := by decide +kernel
theorem d_Hea_duplicate_11 : decode cd_Hea_duplicate 11 = .ok (.iload_n 3, 1) := by decide +kernel
theorem d_Hea_duplicate_12 : decode cd_Hea_duplicate 12 = .ok (.if_icmp .ge 28, 3) := by decide +kernel
theorem d_Hea_duplicate_15 : decode cd_Hea_duplicate 15 = .ok (.aload_n 0, 1) := by decide +kernel
theorem d_Hea_duplicate_16 : decode cd_Hea_duplicate 16 = .ok (.getfield 20, 3) := by decide +kernel
theorem d_Hea_duplicate_19 : decode cd_Hea_duplicate 19 = .ok (.iload_n 2, 1) := by decide +kernel
theorem d_Hea_duplicate_20 : decode cd_Hea_duplicate 20 = .ok (.iload 4, 2) := by decide +kernel
theorem d_Hea_duplicate_22 : decode cd_Hea_duplicate 22 = .ok (.iadd, 1) := by decide +kernel
theorem d_Hea_duplicate_23 : decode cd_Hea_duplicate 23 = .ok (.aload_n 0, 1) := by decide +kernel
theorem d_Hea_duplicate_24 : decode cd_Hea_duplicate 24 = .ok (.getfield 20, 3) := by decide +kernel
theorem d_Hea_duplicate_27 : decode cd_Hea_duplicate 27 = .ok (.iload_n 1, 1) := by decide +kernel
theorem d_Hea_duplicate_28 : decode cd_Hea_duplicate 28 = .ok (.iload 4, 2) := by decide +kernel
theorem d_Hea_duplicate_30 : decode cd_Hea_duplicate 30 = .ok (.iadd, 1) := by decide +kernel
theorem d_Hea_duplicate_31 : decode cd_Hea_duplicate 31 = .ok (.invokevirtual 51, 3) := by decide +kernel
theorem d_Hea_duplicate_34 : decode cd_Hea_duplicate 34 = .ok (.iinc 4 1, 3) := by decide +kernel
theorem d_Hea_duplicate_37 : decode cd_Hea_duplicate 37 = .ok (.goto (-28), 3) := by decide +kernel
theorem d_Hea_duplicate_40 : decode cd_Hea_duplicate 40 = .ok (.return_, 1) := by decide +kernel
set_option maxRecDepth 100000 in
set_option maxHeartbeats 4000000 in
theorem s_Hea_duplicate_L9 {p : Program} {l : Launch} {e : Env} {s : State} {m : MethodId} {args : Array Value} {below : List Frame} {meth : Method} {c : Code} {V : xV} (C : xC p s m args c cd_Hea_duplicate 5 R_Hea V) (hlocks : meth.locks = false) (hr : meth.sig.returnType = none) {Q : xS → Prop} {K9 : Int32 → Int32 → Int32 → Int32 → xS → Prop} (hK9 : ∀ (x1 : Int32) (x2 : Int32) (x3 : Int32) (x4 : Int32) (σ : xS) (H : Heap) (locs : List Loc) (ls : Array Slot), K9 x1 x2 x3 x4 σ → xI V s.heap σ H locs → lv_has ls 5 [(0, .ref (V.2.2 6)), (1, .int x1), (2, .int x2), (3, .int x3), (4, .int x4)] → W p l e rm_Hea_duplicate s m args below meth c H locs 0 0 (xZv below V args s Q) (F0 m 9 ls [])) {x1 x2 x3 x4 : Int32} {σ : xS} {H : Heap} {locs : List Loc} {ls : Array Slot} (h : b_Hea_duplicate_L9 K9 Q x1 x2 x3 x4 σ) (hI : xI V s.heap σ H locs) (hl : lv_has ls 5 [(0, .ref (V.2.2 6)), (1, .int x1), (2, .int x2), (3, .int x3), (4, .int x4)]) : W p l e rm_Hea_duplicate s m args below meth c H locs 0 0 (xZv below V args s Q) (F0 m 9 ls []) := by
  have hx := C.1
  have hb := C.2.1
  unfold b_Hea_duplicate_L9 at h
  refine lv_iload hx hb d_Hea_duplicate_9 (lv_at hl 4 rfl) ?_
  refine lv_iload_n hx hb d_Hea_duplicate_11 rfl (lv_at hl 3 rfl) ?_
  refine lv_icmp_ge (tgt := 40) hx hb d_Hea_duplicate_12 (by decide) (fun c3 => ?_) (fun c3 => ?_)
  · have h := h.1 c3
    exact x_vret C hlocks hr hI h d_Hea_duplicate_40
  · have h := h.2 c3
    refine lv_aload_n hx hb d_Hea_duplicate_15 rfl (lv_at hl 0 rfl) ?_
    refine x_get C hI (d := 6) (by decide) (xE6 V _) fd_Hea_20 rfl d_Hea_duplicate_16 ?_
    refine lv_iload_n hx hb d_Hea_duplicate_19 rfl (lv_at hl 2 rfl) ?_
    refine lv_iload hx hb d_Hea_duplicate_20 (lv_at hl 4 rfl) ?_
    refine lv_iadd hx hb d_Hea_duplicate_22 ?_
    refine lv_aload_n hx hb d_Hea_duplicate_23 rfl (lv_at hl 0 rfl) ?_
    refine x_get C hI (d := 6) (by decide) (xE6 V _) fd_Hea_20 rfl d_Hea_duplicate_24 ?_
    refine lv_iload_n hx hb d_Hea_duplicate_27 rfl (lv_at hl 1 rfl) ?_
    refine lv_iload hx hb d_Hea_duplicate_28 (lv_at hl 4 rfl) ?_
    refine lv_iadd hx hb d_Hea_duplicate_30 ?_
    refine x_callv C hI hl.1 (d := 19) (As := [.int (x2 + x4), .ref (V.2.2 19), .int (x1 + x4)]) (rest := []) (by decide) (c_Val_take_19_19 h) (xE19 V _) rfl yw_Val_take ml_Hea_51 rfl rfl ⟨Nat.le_of_ble_eq_true rfl, Nat.le_of_ble_eq_true rfl⟩ rfl rfl (Nat.le_of_ble_eq_true rfl) d_Hea_duplicate_31 ⟨Nat.zero_le _, Nat.zero_le _⟩ (fun σ4 H locs h hI => ?_)
    obtain ⟨z5, ez5⟩ : ∃ y : Int32, y = x4 + 1 := ⟨_, rfl⟩
    have h := h z5 ez5
    refine lv_iinc (v := z5) (lv' := [(4, .int z5), (0, .ref (V.2.2 6)), (1, .int x1), (2, .int x2), (3, .int x3)]) hx hb d_Hea_duplicate_34 hl (k := 4) rfl (by rw [ez5]; rfl) (by decide) rfl (fun ls hl => ?_)
    refine lv_goto (tgt := 9) hx hb d_Hea_duplicate_37 (by decide) ?_
    exact hK9 _ _ _ _ _ _ _ _ h hI (lv_sub hl [1, 2, 3, 4, 0] rfl)
theorem w_Hea_duplicate_L9 {p : Program} {l : Launch} {e : Env} {s : State} {m : MethodId} {args : Array Value} {below : List Frame} {meth : Method} {c : Code} {V : xV} (C : xC p s m args c cd_Hea_duplicate 5 R_Hea V) (hlocks : meth.locks = false) (hr : meth.sig.returnType = none) {Q : xS → Prop} : ∀ (n : Nat) (x1 : Int32) (x2 : Int32) (x3 : Int32) (x4 : Int32) (σ : xS) (H : Heap) (locs : List Loc) (ls : Array Slot), p_Hea_duplicate_L9 Q n x1 x2 x3 x4 σ → xI V s.heap σ H locs → lv_has ls 5 [(0, .ref (V.2.2 6)), (1, .int x1), (2, .int x2), (3, .int x3), (4, .int x4)] → W p l e rm_Hea_duplicate s m args below meth c H locs 0 0 (xZv below V args s Q) (F0 m 9 ls []) := by
  intro n
  induction n with
  | zero =>
    intro x1 x2 x3 x4 σ H locs ls h
    exact False.elim h
  | succ n ih =>
    intro x1 x2 x3 x4 σ H locs ls h hI hl
    exact s_Hea_duplicate_L9 C hlocks hr (K9 := p_Hea_duplicate_L9 Q n) (fun x1 x2 x3 x4 σ H locs ls h hI hl => ih x1 x2 x3 x4 σ H locs ls h hI hl) h hI hl
set_option maxRecDepth 100000 in
set_option maxHeartbeats 4000000 in
theorem c_Hea_duplicate {l : Launch} {V : xV} {σ : xS} {x1 x2 : Int32} {Q : xS → Prop} (h : p_Hea_duplicate x1 x2 σ Q) : xMv l y_Hea_duplicate (.code y_Hea_duplicate cd_Hea_duplicate 5 none :: xG) rm_Hea_duplicate V [.ref (V.2.2 6), .int x1, .int x2] σ Q := by
  refine x_beginv (by decide) (Nat.le_of_ble_eq_true rfl) (fun p e s m below meth c ls C hlocks hr hI hl => ?_)
  have C : xC p s m _ c cd_Hea_duplicate 5 R_Hea V := C
  have hx := C.1
  have hb := C.2.1
  have hl : lv_has ls 5 [(0, .ref (V.2.2 6)), (1, .int x1), (2, .int x2)] := hl
  unfold p_Hea_duplicate at h
  refine lv_aload_n hx hb d_Hea_duplicate_0 rfl (lv_at hl 0 rfl) ?_
  refine lv_iload_n hx hb d_Hea_duplicate_1 rfl (lv_at hl 1 rfl) ?_
  refine x_calli C hI hl.1 (d := 6) (As := [.int x1]) (rest := []) (by decide) (c_Hea_sizeOf h) (xE6 V _) rfl yw_Hea_sizeOf ml_Hea_48 rfl rfl ⟨Nat.le_of_ble_eq_true rfl, Nat.le_of_ble_eq_true rfl⟩ rfl rfl (Nat.le_of_ble_eq_true rfl) d_Hea_duplicate_2 ⟨Nat.zero_le _, Nat.zero_le _⟩ (fun r2 σ1 H locs h hI => ?_)
  refine lv_istore_n (lv' := [(3, .int r2), (0, .ref (V.2.2 6)), (1, .int x1), (2, .int x2)]) hx hb d_Hea_duplicate_5 rfl hl (by decide) rfl (fun ls hl => ?_)
  refine lv_iconst (v := 0) hx hb d_Hea_duplicate_6 (by decide) ?_
  refine lv_istore (lv' := [(4, .int 0), (3, .int r2), (0, .ref (V.2.2 6)), (1, .int x1), (2, .int x2)]) hx hb d_Hea_duplicate_7 hl (by decide) rfl (fun ls hl => ?_)
  obtain ⟨n, h⟩ := h
  exact w_Hea_duplicate_L9 C hlocks hr n _ _ _ _ _ _ _ _ h hI (lv_sub hl [2, 3, 4, 1, 0] rfl)
def y_Hea_carry : MethodName := ⟨"RegionPool$Heap", "carry", "(II)V"⟩
abbrev cd_Hea_carry : ByteArray := prog_3_method_13_code
theorem yw_Val_contentOf : xY y_Val_contentOf cd_Val_contentOf 2 (some .int) 1 := ⟨xG_mem 330 (by decide +kernel) (by decide +kernel), xG_mem 331 (by decide +kernel) (by decide +kernel), xG_mem 56 (by decide +kernel) (by decide +kernel), xG_mem 332 (by decide +kernel) (by decide +kernel), by decide, by decide, by decide +kernel⟩
theorem ml_Hea_55 : Cond.methodLink R_Hea 55 y_Val_contentOf ∈ xG := xG_mem 660 (by decide +kernel) (by decide +kernel)
def b_Hea_carry_L9 (K9 : Int32 → Int32 → Int32 → Int32 → xS → Prop) (Q : xS → Prop) (x1 x2 x3 x4 : Int32) (σ : xS) : Prop :=
  ((x3 ≤ x4 → Q σ) ∧ (¬ x3 ≤ x4 → p_Val_sortOf_19 (x1 + x4) σ (fun r5 σ4 => p_Val_contentOf_19 (x1 + x4) σ4 (fun r7 σ6 => p_Val_assign_19 (x1 + x4) 4 0 σ6 (fun σ8 => p_Val_assign_19 (x2 + x4) r5 r7 σ8 (fun σ9 => (∀ z10 : Int32, z10 = x4 + 1 → K9 x1 x2 x3 z10 σ9)))))))
def p_Hea_carry_L9 (Q : xS → Prop) (n : Nat) : Int32 → Int32 → Int32 → Int32 → xS → Prop := Nat.rec (motive := fun _ => Int32 → Int32 → Int32 → Int32 → xS → Prop) (fun _ _ _ _ _ => False) (fun _ K x1 x2 x3 x4 σ => b_Hea_carry_L9 K Q x1 x2 x3 x4 σ) n
def p_Hea_carry (x1 x2 : Int32) (σ : xS) (Q : xS → Prop) : Prop :=
  p_Hea_sizeOf x1 σ (fun r2 σ1 => (∃ n, p_Hea_carry_L9 Q n x1 x2 r2 0 σ1))
abbrev rm_Hea_carry : Room := { frames := 2, cells := 0, slots := 0, locals := 42 }
theorem d_Hea_carry_0 : decode cd_Hea_carry 0 = .ok (.aload_n 0, 1) := by decide +kernel
theorem d_Hea_carry_1 : decode cd_Hea_carry 1 = .ok (.iload_n 1, 1) := by decide +kernel
theorem d_Hea_carry_2 : decode cd_Hea_carry 2 = .ok (.invokevirtual 48, 3) := by decide +kernel
theorem d_Hea_carry_5 : decode cd_Hea_carry 5 = .ok (.istore_n 3, 1) := by decide +kernel
theorem d_Hea_carry_6 : decode cd_Hea_carry 6 = .ok (.iconst 0, 1) := by decide +kernel
theorem d_Hea_carry_7 : decode cd_Hea_carry 7 = .ok (.istore 4, 2) := by decide +kernel
theorem d_Hea_carry_9 : decode cd_Hea_carry 9 = .ok (.iload 4, 2) := by decide +kernel
theorem d_Hea_carry_11 : decode cd_Hea_carry 11 = .ok (.iload_n 3, 1) := by decide +kernel
theorem d_Hea_carry_12 : decode cd_Hea_carry 12 = .ok (.if_icmp .ge 63, 3) := by decide +kernel
theorem d_Hea_carry_15 : decode cd_Hea_carry 15 = .ok (.aload_n 0, 1) := by decide +kernel
theorem d_Hea_carry_16 : decode cd_Hea_carry 16 = .ok (.getfield 20, 3) := by decide +kernel
theorem d_Hea_carry_19 : decode cd_Hea_carry 19 = .ok (.iload_n 1, 1) := by decide +kernel
theorem d_Hea_carry_20 : decode cd_Hea_carry 20 = .ok (.iload 4, 2) := by decide +kernel
theorem d_Hea_carry_22 : decode cd_Hea_carry 22 = .ok (.iadd, 1) := by decide +kernel
theorem d_Hea_carry_23 : decode cd_Hea_carry 23 = .ok (.invokevirtual 26, 3) := by decide +kernel
theorem d_Hea_carry_26 : decode cd_Hea_carry 26 = .ok (.istore 5, 2) := by decide +kernel
theorem d_Hea_carry_28 : decode cd_Hea_carry 28 = .ok (.aload_n 0, 1) := by decide +kernel
theorem d_Hea_carry_29 : decode cd_Hea_carry 29 = .ok (.getfield 20, 3) := by decide +kernel
theorem d_Hea_carry_32 : decode cd_Hea_carry 32 = .ok (.iload_n 1, 1) := by decide +kernel
theorem d_Hea_carry_33 : decode cd_Hea_carry 33 = .ok (.iload 4, 2) := by decide +kernel
theorem d_Hea_carry_35 : decode cd_Hea_carry 35 = .ok (.iadd, 1) := by decide +kernel
theorem d_Hea_carry_36 : decode cd_Hea_carry 36 = .ok (.invokevirtual 55, 3) := by decide +kernel
theorem d_Hea_carry_39 : decode cd_Hea_carry 39 = .ok (.istore 6, 2) := by decide +kernel
theorem d_Hea_carry_41 : decode cd_Hea_carry 41 = .ok (.aload_n 0, 1) := by decide +kernel
theorem d_Hea_carry_42 : decode cd_Hea_carry 42 = .ok (.getfield 20, 3) := by decide +kernel
theorem d_Hea_carry_45 : decode cd_Hea_carry 45 = .ok (.iload_n 1, 1) := by decide +kernel
theorem d_Hea_carry_46 : decode cd_Hea_carry 46 = .ok (.iload 4, 2) := by decide +kernel
theorem d_Hea_carry_48 : decode cd_Hea_carry 48 = .ok (.iadd, 1) := by decide +kernel
theorem d_Hea_carry_49 : decode cd_Hea_carry 49 = .ok (.iconst 4, 1) := by decide +kernel
theorem d_Hea_carry_50 : decode cd_Hea_carry 50 = .ok (.iconst 0, 1) := by decide +kernel
theorem d_Hea_carry_51 : decode cd_Hea_carry 51 = .ok (.invokevirtual 37, 3) := by decide +kernel
theorem d_Hea_carry_54 : decode cd_Hea_carry 54 = .ok (.aload_n 0, 1) := by decide +kernel
theorem d_Hea_carry_55 : decode cd_Hea_carry 55 = .ok (.getfield 20, 3) := by decide +kernel
theorem d_Hea_carry_58 : decode cd_Hea_carry 58 = .ok (.iload_n 2, 1) := by decide +kernel
theorem d_Hea_carry_59 : decode cd_Hea_carry 59 = .ok (.iload 4, 2) := by decide +kernel
theorem d_Hea_carry_61 : decode cd_Hea_carry 61 = .ok (.iadd, 1) := by decide +kernel
theorem d_Hea_carry_62 : decode cd_Hea_carry 62 = .ok (.iload 5, 2) := by decide +kernel
theorem d_Hea_carry_64 : decode cd_Hea_carry 64 = .ok (.iload 6, 2) := by decide +kernel
theorem d_Hea_carry_66 : decode cd_Hea_carry 66 = .ok (.invokevirtual 37, 3) := by decide +kernel
theorem d_Hea_carry_69 : decode cd_Hea_carry 69 = .ok (.iinc 4 1, 3) := by decide +kernel
theorem d_Hea_carry_72 : decode cd_Hea_carry 72 = .ok (.goto (-63), 3) := by decide +kernel
theorem d_Hea_carry_75 : decode cd_Hea_carry 75 = .ok (.return_, 1) := by decide +kernel
set_option maxRecDepth 100000 in
set_option maxHeartbeats 4000000 in
theorem s_Hea_carry_L9 {p : Program} {l : Launch} {e : Env} {s : State} {m : MethodId} {args : Array Value} {below : List Frame} {meth : Method} {c : Code} {V : xV} (C : xC p s m args c cd_Hea_carry 7 R_Hea V) (hlocks : meth.locks = false) (hr : meth.sig.returnType = none) {Q : xS → Prop} {K9 : Int32 → Int32 → Int32 → Int32 → xS → Prop} (hK9 : ∀ (x1 : Int32) (x2 : Int32) (x3 : Int32) (x4 : Int32) (σ : xS) (H : Heap) (locs : List Loc) (ls : Array Slot), K9 x1 x2 x3 x4 σ → xI V s.heap σ H locs → lv_has ls 7 [(0, .ref (V.2.2 6)), (1, .int x1), (2, .int x2), (3, .int x3), (4, .int x4)] → W p l e rm_Hea_carry s m args below meth c H locs 0 0 (xZv below V args s Q) (F0 m 9 ls [])) {x1 x2 x3 x4 : Int32} {σ : xS} {H : Heap} {locs : List Loc} {ls : Array Slot} (h : b_Hea_carry_L9 K9 Q x1 x2 x3 x4 σ) (hI : xI V s.heap σ H locs) (hl : lv_has ls 7 [(0, .ref (V.2.2 6)), (1, .int x1), (2, .int x2), (3, .int x3), (4, .int x4)]) : W p l e rm_Hea_carry s m args below meth c H locs 0 0 (xZv below V args s Q) (F0 m 9 ls []) := by
  have hx := C.1
  have hb := C.2.1
  unfold b_Hea_carry_L9 at h
  refine lv_iload hx hb d_Hea_carry_9 (lv_at hl 4 rfl) ?_
  refine lv_iload_n hx hb d_Hea_carry_11 rfl (lv_at hl 3 rfl) ?_
  refine lv_icmp_ge (tgt := 75) hx hb d_Hea_carry_12 (by decide) (fun c3 => ?_) (fun c3 => ?_)
  · have h := h.1 c3
    exact x_vret C hlocks hr hI h d_Hea_carry_75
  · have h := h.2 c3
    refine lv_aload_n hx hb d_Hea_carry_15 rfl (lv_at hl 0 rfl) ?_
    refine x_get C hI (d := 6) (by decide) (xE6 V _) fd_Hea_20 rfl d_Hea_carry_16 ?_
    refine lv_iload_n hx hb d_Hea_carry_19 rfl (lv_at hl 1 rfl) ?_
    refine lv_iload hx hb d_Hea_carry_20 (lv_at hl 4 rfl) ?_
    refine lv_iadd hx hb d_Hea_carry_22 ?_
    refine x_calli C hI hl.1 (d := 19) (As := [.int (x1 + x4)]) (rest := []) (by decide) (c_Val_sortOf_19 h) (xE19 V _) rfl yw_Val_sortOf ml_Hea_26 rfl rfl ⟨Nat.le_of_ble_eq_true rfl, Nat.le_of_ble_eq_true rfl⟩ rfl rfl (Nat.le_of_ble_eq_true rfl) d_Hea_carry_23 ⟨Nat.zero_le _, Nat.zero_le _⟩ (fun r5 σ4 H locs h hI => ?_)
    refine lv_istore (lv' := [(5, .int r5), (0, .ref (V.2.2 6)), (1, .int x1), (2, .int x2), (3, .int x3), (4, .int x4)]) hx hb d_Hea_carry_26 hl (by decide) rfl (fun ls hl => ?_)
    refine lv_aload_n hx hb d_Hea_carry_28 rfl (lv_at hl 1 rfl) ?_
    refine x_get C hI (d := 6) (by decide) (xE6 V _) fd_Hea_20 rfl d_Hea_carry_29 ?_
    refine lv_iload_n hx hb d_Hea_carry_32 rfl (lv_at hl 2 rfl) ?_
    refine lv_iload hx hb d_Hea_carry_33 (lv_at hl 5 rfl) ?_
    refine lv_iadd hx hb d_Hea_carry_35 ?_
    refine x_calli C hI hl.1 (d := 19) (As := [.int (x1 + x4)]) (rest := []) (by decide) (c_Val_contentOf_19 h) (xE19 V _) rfl yw_Val_contentOf ml_Hea_55 rfl rfl ⟨Nat.le_of_ble_eq_true rfl, Nat.le_of_ble_eq_true rfl⟩ rfl rfl (Nat.le_of_ble_eq_true rfl) d_Hea_carry_36 ⟨Nat.zero_le _, Nat.zero_le _⟩ (fun r7 σ6 H locs h hI => ?_)
    refine lv_istore (lv' := [(6, .int r7), (5, .int r5), (0, .ref (V.2.2 6)), (1, .int x1), (2, .int x2), (3, .int x3), (4, .int x4)]) hx hb d_Hea_carry_39 hl (by decide) rfl (fun ls hl => ?_)
    refine lv_aload_n hx hb d_Hea_carry_41 rfl (lv_at hl 2 rfl) ?_
    refine x_get C hI (d := 6) (by decide) (xE6 V _) fd_Hea_20 rfl d_Hea_carry_42 ?_
    refine lv_iload_n hx hb d_Hea_carry_45 rfl (lv_at hl 3 rfl) ?_
    refine lv_iload hx hb d_Hea_carry_46 (lv_at hl 6 rfl) ?_
    refine lv_iadd hx hb d_Hea_carry_48 ?_
    refine lv_iconst (v := 4) hx hb d_Hea_carry_49 (by decide) ?_
    refine lv_iconst (v := 0) hx hb d_Hea_carry_50 (by decide) ?_
    refine x_callv C hI hl.1 (d := 19) (As := [.int (x1 + x4), .int 4, .int 0]) (rest := []) (by decide) (c_Val_assign_19 h) (xE19 V _) rfl yw_Val_assign ml_Hea_37 rfl rfl ⟨Nat.le_of_ble_eq_true rfl, Nat.le_of_ble_eq_true rfl⟩ rfl rfl (Nat.le_of_ble_eq_true rfl) d_Hea_carry_51 ⟨Nat.zero_le _, Nat.zero_le _⟩ (fun σ8 H locs h hI => ?_)
    refine lv_aload_n hx hb d_Hea_carry_54 rfl (lv_at hl 2 rfl) ?_
    refine x_get C hI (d := 6) (by decide) (xE6 V _) fd_Hea_20 rfl d_Hea_carry_55 ?_
    refine lv_iload_n hx hb d_Hea_carry_58 rfl (lv_at hl 4 rfl) ?_
    refine lv_iload hx hb d_Hea_carry_59 (lv_at hl 6 rfl) ?_
    refine lv_iadd hx hb d_Hea_carry_61 ?_
    refine lv_iload hx hb d_Hea_carry_62 (lv_at hl 1 rfl) ?_
    refine lv_iload hx hb d_Hea_carry_64 (lv_at hl 0 rfl) ?_
    refine x_callv C hI hl.1 (d := 19) (As := [.int (x2 + x4), .int r5, .int r7]) (rest := []) (by decide) (c_Val_assign_19 h) (xE19 V _) rfl yw_Val_assign ml_Hea_37 rfl rfl ⟨Nat.le_of_ble_eq_true rfl, Nat.le_of_ble_eq_true rfl⟩ rfl rfl (Nat.le_of_ble_eq_true rfl) d_Hea_carry_66 ⟨Nat.zero_le _, Nat.zero_le _⟩ (fun σ9 H locs h hI => ?_)
    obtain ⟨z10, ez10⟩ : ∃ y : Int32, y = x4 + 1 := ⟨_, rfl⟩
    have h := h z10 ez10
    refine lv_iinc (v := z10) (lv' := [(4, .int z10), (6, .int r7), (5, .int r5), (0, .ref (V.2.2 6)), (1, .int x1), (2, .int x2), (3, .int x3)]) hx hb d_Hea_carry_69 hl (k := 6) rfl (by rw [ez10]; rfl) (by decide) rfl (fun ls hl => ?_)
    refine lv_goto (tgt := 9) hx hb d_Hea_carry_72 (by decide) ?_
    exact hK9 _ _ _ _ _ _ _ _ h hI (lv_sub hl [3, 4, 5, 6, 0] rfl)
theorem w_Hea_carry_L9 {p : Program} {l : Launch} {e : Env} {s : State} {m : MethodId} {args : Array Value} {below : List Frame} {meth : Method} {c : Code} {V : xV} (C : xC p s m args c cd_Hea_carry 7 R_Hea V) (hlocks : meth.locks = false) (hr : meth.sig.returnType = none) {Q : xS → Prop} : ∀ (n : Nat) (x1 : Int32) (x2 : Int32) (x3 : Int32) (x4 : Int32) (σ : xS) (H : Heap) (locs : List Loc) (ls : Array Slot), p_Hea_carry_L9 Q n x1 x2 x3 x4 σ → xI V s.heap σ H locs → lv_has ls 7 [(0, .ref (V.2.2 6)), (1, .int x1), (2, .int x2), (3, .int x3), (4, .int x4)] → W p l e rm_Hea_carry s m args below meth c H locs 0 0 (xZv below V args s Q) (F0 m 9 ls []) := by
  intro n
  induction n with
  | zero =>
    intro x1 x2 x3 x4 σ H locs ls h
    exact False.elim h
  | succ n ih =>
    intro x1 x2 x3 x4 σ H locs ls h hI hl
    exact s_Hea_carry_L9 C hlocks hr (K9 := p_Hea_carry_L9 Q n) (fun x1 x2 x3 x4 σ H locs ls h hI hl => ih x1 x2 x3 x4 σ H locs ls h hI hl) h hI hl
set_option maxRecDepth 100000 in
set_option maxHeartbeats 4000000 in
theorem c_Hea_carry {l : Launch} {V : xV} {σ : xS} {x1 x2 : Int32} {Q : xS → Prop} (h : p_Hea_carry x1 x2 σ Q) : xMv l y_Hea_carry (.code y_Hea_carry cd_Hea_carry 7 none :: xG) rm_Hea_carry V [.ref (V.2.2 6), .int x1, .int x2] σ Q := by
  refine x_beginv (by decide) (Nat.le_of_ble_eq_true rfl) (fun p e s m below meth c ls C hlocks hr hI hl => ?_)
  have C : xC p s m _ c cd_Hea_carry 7 R_Hea V := C
  have hx := C.1
  have hb := C.2.1
  have hl : lv_has ls 7 [(0, .ref (V.2.2 6)), (1, .int x1), (2, .int x2)] := hl
  unfold p_Hea_carry at h
  refine lv_aload_n hx hb d_Hea_carry_0 rfl (lv_at hl 0 rfl) ?_
  refine lv_iload_n hx hb d_Hea_carry_1 rfl (lv_at hl 1 rfl) ?_
  refine x_calli C hI hl.1 (d := 6) (As := [.int x1]) (rest := []) (by decide) (c_Hea_sizeOf h) (xE6 V _) rfl yw_Hea_sizeOf ml_Hea_48 rfl rfl ⟨Nat.le_of_ble_eq_true rfl, Nat.le_of_ble_eq_true rfl⟩ rfl rfl (Nat.le_of_ble_eq_true rfl) d_Hea_carry_2 ⟨Nat.zero_le _, Nat.zero_le _⟩ (fun r2 σ1 H locs h hI => ?_)
  refine lv_istore_n (lv' := [(3, .int r2), (0, .ref (V.2.2 6)), (1, .int x1), (2, .int x2)]) hx hb d_Hea_carry_5 rfl hl (by decide) rfl (fun ls hl => ?_)
  refine lv_iconst (v := 0) hx hb d_Hea_carry_6 (by decide) ?_
  refine lv_istore (lv' := [(4, .int 0), (3, .int r2), (0, .ref (V.2.2 6)), (1, .int x1), (2, .int x2)]) hx hb d_Hea_carry_7 hl (by decide) rfl (fun ls hl => ?_)
  obtain ⟨n, h⟩ := h
  exact w_Hea_carry_L9 C hlocks hr n _ _ _ _ _ _ _ _ h hI (lv_sub hl [2, 3, 4, 1, 0] rfl)
def y_Hea_objectsOnPage : MethodName := ⟨"RegionPool$Heap", "objectsOnPage", "(I)I"⟩
abbrev cd_Hea_objectsOnPage : ByteArray := prog_3_method_14_code
theorem yw_Hea_isObject : xY y_Hea_isObject cd_Hea_isObject 2 (some .boolean) 1 := ⟨xG_mem 351 (by decide +kernel) (by decide +kernel), xG_mem 352 (by decide +kernel) (by decide +kernel), xG_mem 57 (by decide +kernel) (by decide +kernel), xG_mem 353 (by decide +kernel) (by decide +kernel), by decide, by decide, by decide +kernel⟩
theorem ml_Hea_58 : Cond.methodLink R_Hea 58 y_Hea_isObject ∈ xG := xG_mem 404 (by decide +kernel) (by decide +kernel)
def b_Hea_objectsOnPage_L10 (K10 : Int32 → Int32 → Int32 → xS → Prop) (Q : Int32 → xS → Prop) (x2 x3 x4 : Int32) (σ : xS) : Prop :=
  ((16 ≤ x4 → Q x3 σ) ∧ (¬ 16 ≤ x4 → p_Hea_isObject (x2 + x4) σ (fun r4 σ3 => ((r4 = 0 → (∀ z6 : Int32, z6 = (x3 + 0) → (∀ z7 : Int32, z7 = x4 + 1 → K10 x2 z6 z7 σ3))) ∧ (¬ r4 = 0 → (∀ z8 : Int32, z8 = (x3 + 1) → (∀ z9 : Int32, z9 = x4 + 1 → K10 x2 z8 z9 σ3)))))))
def p_Hea_objectsOnPage_L10 (Q : Int32 → xS → Prop) (n : Nat) : Int32 → Int32 → Int32 → xS → Prop := Nat.rec (motive := fun _ => Int32 → Int32 → Int32 → xS → Prop) (fun _ _ _ _ => False) (fun _ K x2 x3 x4 σ => b_Hea_objectsOnPage_L10 K Q x2 x3 x4 σ) n
def p_Hea_objectsOnPage (x1 : Int32) (σ : xS) (Q : Int32 → xS → Prop) : Prop :=
  (∀ z1 : Int32, z1 = (x1 * 16) → (∃ n, p_Hea_objectsOnPage_L10 Q n z1 0 0 σ))
abbrev rm_Hea_objectsOnPage : Room := { frames := 2, cells := 0, slots := 0, locals := 42 }
theorem d_Hea_objectsOnPage_0 : decode cd_Hea_objectsOnPage 0 = .ok (.iload_n 1, 1) := by decide +kernel
theorem d_Hea_objectsOnPage_1 : decode cd_Hea_objectsOnPage 1 = .ok (.bipush 16, 2) := by decide +kernel
theorem d_Hea_objectsOnPage_3 : decode cd_Hea_objectsOnPage 3 = .ok (.imul, 1) := by decide +kernel
theorem d_Hea_objectsOnPage_4 : decode cd_Hea_objectsOnPage 4 = .ok (.istore_n 2, 1) := by decide +kernel
theorem d_Hea_objectsOnPage_5 : decode cd_Hea_objectsOnPage 5 = .ok (.iconst 0, 1) := by decide +kernel
theorem d_Hea_objectsOnPage_6 : decode cd_Hea_objectsOnPage 6 = .ok (.istore_n 3, 1) := by decide +kernel
theorem d_Hea_objectsOnPage_7 : decode cd_Hea_objectsOnPage 7 = .ok (.iconst 0, 1) := by decide +kernel
theorem d_Hea_objectsOnPage_8 : decode cd_Hea_objectsOnPage 8 = .ok (.istore 4, 2) := by decide +kernel
theorem d_Hea_objectsOnPage_10 : decode cd_Hea_objectsOnPage 10 = .ok (.iload 4, 2) := by decide +kernel
theorem d_Hea_objectsOnPage_12 : decode cd_Hea_objectsOnPage 12 = .ok (.bipush 16, 2) := by decide +kernel
theorem d_Hea_objectsOnPage_14 : decode cd_Hea_objectsOnPage 14 = .ok (.if_icmp .ge 28, 3) := by decide +kernel
theorem d_Hea_objectsOnPage_17 : decode cd_Hea_objectsOnPage 17 = .ok (.iload_n 3, 1) := by decide +kernel
theorem d_Hea_objectsOnPage_18 : decode cd_Hea_objectsOnPage 18 = .ok (.aload_n 0, 1) := by decide +kernel
theorem d_Hea_objectsOnPage_19 : decode cd_Hea_objectsOnPage 19 = .ok (.iload_n 2, 1) := by decide +kernel
theorem d_Hea_objectsOnPage_20 : decode cd_Hea_objectsOnPage 20 = .ok (.iload 4, 2) := by decide +kernel
theorem d_Hea_objectsOnPage_22 : decode cd_Hea_objectsOnPage 22 = .ok (.iadd, 1) := by decide +kernel
theorem d_Hea_objectsOnPage_23 : decode cd_Hea_objectsOnPage 23 = .ok (.invokevirtual 58, 3) := by decide +kernel
theorem d_Hea_objectsOnPage_26 : decode cd_Hea_objectsOnPage 26 = .ok (.ifCond .eq 7, 3) := by decide +kernel
theorem d_Hea_objectsOnPage_29 : decode cd_Hea_objectsOnPage 29 = .ok (.iconst 1, 1) := by decide +kernel
theorem d_Hea_objectsOnPage_30 : decode cd_Hea_objectsOnPage 30 = .ok (.goto 4, 3) := by decide +kernel
theorem d_Hea_objectsOnPage_33 : decode cd_Hea_objectsOnPage 33 = .ok (.iconst 0, 1) := by decide +kernel
theorem d_Hea_objectsOnPage_34 : decode cd_Hea_objectsOnPage 34 = .ok (.iadd, 1) := by decide +kernel
theorem d_Hea_objectsOnPage_35 : decode cd_Hea_objectsOnPage 35 = .ok (.istore_n 3, 1) := by decide +kernel
theorem d_Hea_objectsOnPage_36 : decode cd_Hea_objectsOnPage 36 = .ok (.iinc 4 1, 3) := by decide +kernel
theorem d_Hea_objectsOnPage_39 : decode cd_Hea_objectsOnPage 39 = .ok (.goto (-29), 3) := by decide +kernel
theorem d_Hea_objectsOnPage_42 : decode cd_Hea_objectsOnPage 42 = .ok (.iload_n 3, 1) := by decide +kernel
theorem d_Hea_objectsOnPage_43 : decode cd_Hea_objectsOnPage 43 = .ok (.ireturn, 1) := by decide +kernel
set_option maxRecDepth 100000 in
set_option maxHeartbeats 4000000 in
theorem s_Hea_objectsOnPage_L10 {p : Program} {l : Launch} {e : Env} {s : State} {m : MethodId} {args : Array Value} {below : List Frame} {meth : Method} {c : Code} {V : xV} (C : xC p s m args c cd_Hea_objectsOnPage 5 R_Hea V) (hlocks : meth.locks = false) (hr : meth.sig.returnType = (some .int)) {Q : Int32 → xS → Prop} {K10 : Int32 → Int32 → Int32 → xS → Prop} (hK10 : ∀ (x2 : Int32) (x3 : Int32) (x4 : Int32) (σ : xS) (H : Heap) (locs : List Loc) (ls : Array Slot), K10 x2 x3 x4 σ → xI V s.heap σ H locs → lv_has ls 5 [(0, .ref (V.2.2 6)), (2, .int x2), (3, .int x3), (4, .int x4)] → W p l e rm_Hea_objectsOnPage s m args below meth c H locs 0 0 (xZi below V args s Q) (F0 m 10 ls [])) {x2 x3 x4 : Int32} {σ : xS} {H : Heap} {locs : List Loc} {ls : Array Slot} (h : b_Hea_objectsOnPage_L10 K10 Q x2 x3 x4 σ) (hI : xI V s.heap σ H locs) (hl : lv_has ls 5 [(0, .ref (V.2.2 6)), (2, .int x2), (3, .int x3), (4, .int x4)]) : W p l e rm_Hea_objectsOnPage s m args below meth c H locs 0 0 (xZi below V args s Q) (F0 m 10 ls []) := by
  have hx := C.1
  have hb := C.2.1
  unfold b_Hea_objectsOnPage_L10 at h
  refine lv_iload hx hb d_Hea_objectsOnPage_10 (lv_at hl 3 rfl) ?_
  refine lv_bipush (v := 16) hx hb d_Hea_objectsOnPage_12 (by decide) ?_
  refine lv_icmp_ge (tgt := 42) hx hb d_Hea_objectsOnPage_14 (by decide) (fun c2 => ?_) (fun c2 => ?_)
  · have h := h.1 c2
    refine lv_iload_n hx hb d_Hea_objectsOnPage_42 rfl (lv_at hl 2 rfl) ?_
    exact x_iret C hlocks hr hI h d_Hea_objectsOnPage_43
  · have h := h.2 c2
    refine lv_iload_n hx hb d_Hea_objectsOnPage_17 rfl (lv_at hl 2 rfl) ?_
    refine lv_aload_n hx hb d_Hea_objectsOnPage_18 rfl (lv_at hl 0 rfl) ?_
    refine lv_iload_n hx hb d_Hea_objectsOnPage_19 rfl (lv_at hl 1 rfl) ?_
    refine lv_iload hx hb d_Hea_objectsOnPage_20 (lv_at hl 3 rfl) ?_
    refine lv_iadd hx hb d_Hea_objectsOnPage_22 ?_
    refine x_calli C hI hl.1 (d := 6) (As := [.int (x2 + x4)]) (rest := [.int x3]) (by decide) (c_Hea_isObject h) (xE6 V _) rfl yw_Hea_isObject ml_Hea_58 rfl rfl ⟨Nat.le_of_ble_eq_true rfl, Nat.le_of_ble_eq_true rfl⟩ rfl rfl (Nat.le_of_ble_eq_true rfl) d_Hea_objectsOnPage_23 ⟨Nat.zero_le _, Nat.zero_le _⟩ (fun r4 σ3 H locs h hI => ?_)
    refine lv_if_eq (tgt := 33) hx hb d_Hea_objectsOnPage_26 (by decide) (fun c5 => ?_) (fun c5 => ?_)
    · have h := h.1 c5
      refine lv_iconst (v := 0) hx hb d_Hea_objectsOnPage_33 (by decide) ?_
      refine lv_iadd hx hb d_Hea_objectsOnPage_34 ?_
      refine lv_topi (fun z6 ez6 => ?_)
      have h := h z6 ez6
      refine lv_istore_n (lv' := [(3, .int z6), (0, .ref (V.2.2 6)), (2, .int x2), (4, .int x4)]) hx hb d_Hea_objectsOnPage_35 rfl hl (by decide) rfl (fun ls hl => ?_)
      obtain ⟨z7, ez7⟩ : ∃ y : Int32, y = x4 + 1 := ⟨_, rfl⟩
      have h := h z7 ez7
      refine lv_iinc (v := z7) (lv' := [(4, .int z7), (3, .int z6), (0, .ref (V.2.2 6)), (2, .int x2)]) hx hb d_Hea_objectsOnPage_36 hl (k := 3) rfl (by rw [ez7]; rfl) (by decide) rfl (fun ls hl => ?_)
      refine lv_goto (tgt := 10) hx hb d_Hea_objectsOnPage_39 (by decide) ?_
      exact hK10 _ _ _ _ _ _ _ h hI (lv_sub hl [2, 3, 1, 0] rfl)
    · have h := h.2 c5
      refine lv_iconst (v := 1) hx hb d_Hea_objectsOnPage_29 (by decide) ?_
      refine lv_goto (tgt := 34) hx hb d_Hea_objectsOnPage_30 (by decide) ?_
      refine lv_iadd hx hb d_Hea_objectsOnPage_34 ?_
      refine lv_topi (fun z8 ez8 => ?_)
      have h := h z8 ez8
      refine lv_istore_n (lv' := [(3, .int z8), (0, .ref (V.2.2 6)), (2, .int x2), (4, .int x4)]) hx hb d_Hea_objectsOnPage_35 rfl hl (by decide) rfl (fun ls hl => ?_)
      obtain ⟨z9, ez9⟩ : ∃ y : Int32, y = x4 + 1 := ⟨_, rfl⟩
      have h := h z9 ez9
      refine lv_iinc (v := z9) (lv' := [(4, .int z9), (3, .int z8), (0, .ref (V.2.2 6)), (2, .int x2)]) hx hb d_Hea_objectsOnPage_36 hl (k := 3) rfl (by rw [ez9]; rfl) (by decide) rfl (fun ls hl => ?_)
      refine lv_goto (tgt := 10) hx hb d_Hea_objectsOnPage_39 (by decide) ?_
      exact hK10 _ _ _ _ _ _ _ h hI (lv_sub hl [2, 3, 1, 0] rfl)
theorem w_Hea_objectsOnPage_L10 {p : Program} {l : Launch} {e : Env} {s : State} {m : MethodId} {args : Array Value} {below : List Frame} {meth : Method} {c : Code} {V : xV} (C : xC p s m args c cd_Hea_objectsOnPage 5 R_Hea V) (hlocks : meth.locks = false) (hr : meth.sig.returnType = (some .int)) {Q : Int32 → xS → Prop} : ∀ (n : Nat) (x2 : Int32) (x3 : Int32) (x4 : Int32) (σ : xS) (H : Heap) (locs : List Loc) (ls : Array Slot), p_Hea_objectsOnPage_L10 Q n x2 x3 x4 σ → xI V s.heap σ H locs → lv_has ls 5 [(0, .ref (V.2.2 6)), (2, .int x2), (3, .int x3), (4, .int x4)] → W p l e rm_Hea_objectsOnPage s m args below meth c H locs 0 0 (xZi below V args s Q) (F0 m 10 ls []) := by
  intro n
  induction n with
  | zero =>
    intro x2 x3 x4 σ H locs ls h
    exact False.elim h
  | succ n ih =>
    intro x2 x3 x4 σ H locs ls h hI hl
    exact s_Hea_objectsOnPage_L10 C hlocks hr (K10 := p_Hea_objectsOnPage_L10 Q n) (fun x2 x3 x4 σ H locs ls h hI hl => ih x2 x3 x4 σ H locs ls h hI hl) h hI hl
set_option maxRecDepth 100000 in
set_option maxHeartbeats 4000000 in
theorem c_Hea_objectsOnPage {l : Launch} {V : xV} {σ : xS} {x1 : Int32} {Q : Int32 → xS → Prop} (h : p_Hea_objectsOnPage x1 σ Q) : xMi l y_Hea_objectsOnPage (.code y_Hea_objectsOnPage cd_Hea_objectsOnPage 5 (some .int) :: xG) rm_Hea_objectsOnPage V [.ref (V.2.2 6), .int x1] σ Q := by
  refine x_begini (by decide) (Nat.le_of_ble_eq_true rfl) (fun p e s m below meth c ls C hlocks hr hI hl => ?_)
  have C : xC p s m _ c cd_Hea_objectsOnPage 5 R_Hea V := C
  have hx := C.1
  have hb := C.2.1
  have hl : lv_has ls 5 [(0, .ref (V.2.2 6)), (1, .int x1)] := hl
  unfold p_Hea_objectsOnPage at h
  refine lv_iload_n hx hb d_Hea_objectsOnPage_0 rfl (lv_at hl 1 rfl) ?_
  refine lv_bipush (v := 16) hx hb d_Hea_objectsOnPage_1 (by decide) ?_
  refine lv_imul hx hb d_Hea_objectsOnPage_3 ?_
  refine lv_topi (fun z1 ez1 => ?_)
  have h := h z1 ez1
  refine lv_istore_n (lv' := [(2, .int z1), (0, .ref (V.2.2 6)), (1, .int x1)]) hx hb d_Hea_objectsOnPage_4 rfl hl (by decide) rfl (fun ls hl => ?_)
  refine lv_iconst (v := 0) hx hb d_Hea_objectsOnPage_5 (by decide) ?_
  refine lv_istore_n (lv' := [(3, .int 0), (2, .int z1), (0, .ref (V.2.2 6)), (1, .int x1)]) hx hb d_Hea_objectsOnPage_6 rfl hl (by decide) rfl (fun ls hl => ?_)
  refine lv_iconst (v := 0) hx hb d_Hea_objectsOnPage_7 (by decide) ?_
  refine lv_istore (lv' := [(4, .int 0), (3, .int 0), (2, .int z1), (0, .ref (V.2.2 6)), (1, .int x1)]) hx hb d_Hea_objectsOnPage_8 hl (by decide) rfl (fun ls hl => ?_)
  obtain ⟨n, h⟩ := h
  exact w_Hea_objectsOnPage_L10 C hlocks hr n _ _ _ _ _ _ _ h hI (lv_sub hl [3, 2, 1, 0] rfl)
def y_Hea_placesTakenOnPage : MethodName := ⟨"RegionPool$Heap", "placesTakenOnPage", "(I)I"⟩
abbrev cd_Hea_placesTakenOnPage : ByteArray := prog_3_method_15_code
def b_Hea_placesTakenOnPage_L10 (K10 : Int32 → Int32 → Int32 → xS → Prop) (Q : Int32 → xS → Prop) (x2 x3 x4 : Int32) (σ : xS) : Prop :=
  ((16 ≤ x4 → Q x3 σ) ∧ (¬ 16 ≤ x4 → p_Val_sortOf_19 (x2 + x4) σ (fun r4 σ3 => ((¬ r4 = 4 → (∀ z6 : Int32, z6 = (x3 + 1) → (∀ z7 : Int32, z7 = x4 + 1 → K10 x2 z6 z7 σ3))) ∧ (r4 = 4 → (∀ z8 : Int32, z8 = (x3 + 0) → (∀ z9 : Int32, z9 = x4 + 1 → K10 x2 z8 z9 σ3)))))))
def p_Hea_placesTakenOnPage_L10 (Q : Int32 → xS → Prop) (n : Nat) : Int32 → Int32 → Int32 → xS → Prop := Nat.rec (motive := fun _ => Int32 → Int32 → Int32 → xS → Prop) (fun _ _ _ _ => False) (fun _ K x2 x3 x4 σ => b_Hea_placesTakenOnPage_L10 K Q x2 x3 x4 σ) n
def p_Hea_placesTakenOnPage (x1 : Int32) (σ : xS) (Q : Int32 → xS → Prop) : Prop :=
  (∀ z1 : Int32, z1 = (x1 * 16) → (∃ n, p_Hea_placesTakenOnPage_L10 Q n z1 0 0 σ))
abbrev rm_Hea_placesTakenOnPage : Room := { frames := 1, cells := 0, slots := 0, locals := 21 }
theorem d_Hea_placesTakenOnPage_0 : decode cd_Hea_placesTakenOnPage 0 = .ok (.iload_n 1, 1) := by decide +kernel
theorem d_Hea_placesTakenOnPage_1 : decode cd_Hea_placesTakenOnPage 1 = .ok (.bipush 16, 2) := by decide +kernel
theorem d_Hea_placesTakenOnPage_3 : decode cd_Hea_placesTakenOnPage 3 = .ok (.imul, 1) := by decide +kernel
theorem d_Hea_placesTakenOnPage_4 : decode cd_Hea_placesTakenOnPage 4 = .ok (.istore_n 2, 1) := by decide +kernel
theorem d_Hea_placesTakenOnPage_5 : decode cd_Hea_placesTakenOnPage 5 = .ok (.iconst 0, 1) := by decide +kernel
theorem d_Hea_placesTakenOnPage_6 : decode cd_Hea_placesTakenOnPage 6 = .ok (.istore_n 3, 1) := by decide +kernel
theorem d_Hea_placesTakenOnPage_7 : decode cd_Hea_placesTakenOnPage 7 = .ok (.iconst 0, 1) := by decide +kernel
theorem d_Hea_placesTakenOnPage_8 : decode cd_Hea_placesTakenOnPage 8 = .ok (.istore 4, 2) := by decide +kernel
theorem d_Hea_placesTakenOnPage_10 : decode cd_Hea_placesTakenOnPage 10 = .ok (.iload 4, 2) := by decide +kernel
theorem d_Hea_placesTakenOnPage_12 : decode cd_Hea_placesTakenOnPage 12 = .ok (.bipush 16, 2) := by decide +kernel
theorem d_Hea_placesTakenOnPage_14 : decode cd_Hea_placesTakenOnPage 14 = .ok (.if_icmp .ge 32, 3) := by decide +kernel
theorem d_Hea_placesTakenOnPage_17 : decode cd_Hea_placesTakenOnPage 17 = .ok (.iload_n 3, 1) := by decide +kernel
theorem d_Hea_placesTakenOnPage_18 : decode cd_Hea_placesTakenOnPage 18 = .ok (.aload_n 0, 1) := by decide +kernel
theorem d_Hea_placesTakenOnPage_19 : decode cd_Hea_placesTakenOnPage 19 = .ok (.getfield 20, 3) := by decide +kernel
theorem d_Hea_placesTakenOnPage_22 : decode cd_Hea_placesTakenOnPage 22 = .ok (.iload_n 2, 1) := by decide +kernel
theorem d_Hea_placesTakenOnPage_23 : decode cd_Hea_placesTakenOnPage 23 = .ok (.iload 4, 2) := by decide +kernel
theorem d_Hea_placesTakenOnPage_25 : decode cd_Hea_placesTakenOnPage 25 = .ok (.iadd, 1) := by decide +kernel
theorem d_Hea_placesTakenOnPage_26 : decode cd_Hea_placesTakenOnPage 26 = .ok (.invokevirtual 26, 3) := by decide +kernel
theorem d_Hea_placesTakenOnPage_29 : decode cd_Hea_placesTakenOnPage 29 = .ok (.iconst 4, 1) := by decide +kernel
theorem d_Hea_placesTakenOnPage_30 : decode cd_Hea_placesTakenOnPage 30 = .ok (.if_icmp .ne 7, 3) := by decide +kernel
theorem d_Hea_placesTakenOnPage_33 : decode cd_Hea_placesTakenOnPage 33 = .ok (.iconst 0, 1) := by decide +kernel
theorem d_Hea_placesTakenOnPage_34 : decode cd_Hea_placesTakenOnPage 34 = .ok (.goto 4, 3) := by decide +kernel
theorem d_Hea_placesTakenOnPage_37 : decode cd_Hea_placesTakenOnPage 37 = .ok (.iconst 1, 1) := by decide +kernel
theorem d_Hea_placesTakenOnPage_38 : decode cd_Hea_placesTakenOnPage 38 = .ok (.iadd, 1) := by decide +kernel
theorem d_Hea_placesTakenOnPage_39 : decode cd_Hea_placesTakenOnPage 39 = .ok (.istore_n 3, 1) := by decide +kernel
theorem d_Hea_placesTakenOnPage_40 : decode cd_Hea_placesTakenOnPage 40 = .ok (.iinc 4 1, 3) := by decide +kernel
theorem d_Hea_placesTakenOnPage_43 : decode cd_Hea_placesTakenOnPage 43 = .ok (.goto (-33), 3) := by decide +kernel
theorem d_Hea_placesTakenOnPage_46 : decode cd_Hea_placesTakenOnPage 46 = .ok (.iload_n 3, 1) := by decide +kernel
theorem d_Hea_placesTakenOnPage_47 : decode cd_Hea_placesTakenOnPage 47 = .ok (.ireturn, 1) := by decide +kernel
set_option maxRecDepth 100000 in
set_option maxHeartbeats 4000000 in
theorem s_Hea_placesTakenOnPage_L10 {p : Program} {l : Launch} {e : Env} {s : State} {m : MethodId} {args : Array Value} {below : List Frame} {meth : Method} {c : Code} {V : xV} (C : xC p s m args c cd_Hea_placesTakenOnPage 5 R_Hea V) (hlocks : meth.locks = false) (hr : meth.sig.returnType = (some .int)) {Q : Int32 → xS → Prop} {K10 : Int32 → Int32 → Int32 → xS → Prop} (hK10 : ∀ (x2 : Int32) (x3 : Int32) (x4 : Int32) (σ : xS) (H : Heap) (locs : List Loc) (ls : Array Slot), K10 x2 x3 x4 σ → xI V s.heap σ H locs → lv_has ls 5 [(0, .ref (V.2.2 6)), (2, .int x2), (3, .int x3), (4, .int x4)] → W p l e rm_Hea_placesTakenOnPage s m args below meth c H locs 0 0 (xZi below V args s Q) (F0 m 10 ls [])) {x2 x3 x4 : Int32} {σ : xS} {H : Heap} {locs : List Loc} {ls : Array Slot} (h : b_Hea_placesTakenOnPage_L10 K10 Q x2 x3 x4 σ) (hI : xI V s.heap σ H locs) (hl : lv_has ls 5 [(0, .ref (V.2.2 6)), (2, .int x2), (3, .int x3), (4, .int x4)]) : W p l e rm_Hea_placesTakenOnPage s m args below meth c H locs 0 0 (xZi below V args s Q) (F0 m 10 ls []) := by
  have hx := C.1
  have hb := C.2.1
  unfold b_Hea_placesTakenOnPage_L10 at h
  refine lv_iload hx hb d_Hea_placesTakenOnPage_10 (lv_at hl 3 rfl) ?_
  refine lv_bipush (v := 16) hx hb d_Hea_placesTakenOnPage_12 (by decide) ?_
  refine lv_icmp_ge (tgt := 46) hx hb d_Hea_placesTakenOnPage_14 (by decide) (fun c2 => ?_) (fun c2 => ?_)
  · have h := h.1 c2
    refine lv_iload_n hx hb d_Hea_placesTakenOnPage_46 rfl (lv_at hl 2 rfl) ?_
    exact x_iret C hlocks hr hI h d_Hea_placesTakenOnPage_47
  · have h := h.2 c2
    refine lv_iload_n hx hb d_Hea_placesTakenOnPage_17 rfl (lv_at hl 2 rfl) ?_
    refine lv_aload_n hx hb d_Hea_placesTakenOnPage_18 rfl (lv_at hl 0 rfl) ?_
    refine x_get C hI (d := 6) (by decide) (xE6 V _) fd_Hea_20 rfl d_Hea_placesTakenOnPage_19 ?_
    refine lv_iload_n hx hb d_Hea_placesTakenOnPage_22 rfl (lv_at hl 1 rfl) ?_
    refine lv_iload hx hb d_Hea_placesTakenOnPage_23 (lv_at hl 3 rfl) ?_
    refine lv_iadd hx hb d_Hea_placesTakenOnPage_25 ?_
    refine x_calli C hI hl.1 (d := 19) (As := [.int (x2 + x4)]) (rest := [.int x3]) (by decide) (c_Val_sortOf_19 h) (xE19 V _) rfl yw_Val_sortOf ml_Hea_26 rfl rfl ⟨Nat.le_of_ble_eq_true rfl, Nat.le_of_ble_eq_true rfl⟩ rfl rfl (Nat.le_of_ble_eq_true rfl) d_Hea_placesTakenOnPage_26 ⟨Nat.zero_le _, Nat.zero_le _⟩ (fun r4 σ3 H locs h hI => ?_)
    refine lv_iconst (v := 4) hx hb d_Hea_placesTakenOnPage_29 (by decide) ?_
    refine lv_icmp_ne (tgt := 37) hx hb d_Hea_placesTakenOnPage_30 (by decide) (fun c5 => ?_) (fun c5 => ?_)
    · have h := h.1 c5
      refine lv_iconst (v := 1) hx hb d_Hea_placesTakenOnPage_37 (by decide) ?_
      refine lv_iadd hx hb d_Hea_placesTakenOnPage_38 ?_
      refine lv_topi (fun z6 ez6 => ?_)
      have h := h z6 ez6
      refine lv_istore_n (lv' := [(3, .int z6), (0, .ref (V.2.2 6)), (2, .int x2), (4, .int x4)]) hx hb d_Hea_placesTakenOnPage_39 rfl hl (by decide) rfl (fun ls hl => ?_)
      obtain ⟨z7, ez7⟩ : ∃ y : Int32, y = x4 + 1 := ⟨_, rfl⟩
      have h := h z7 ez7
      refine lv_iinc (v := z7) (lv' := [(4, .int z7), (3, .int z6), (0, .ref (V.2.2 6)), (2, .int x2)]) hx hb d_Hea_placesTakenOnPage_40 hl (k := 3) rfl (by rw [ez7]; rfl) (by decide) rfl (fun ls hl => ?_)
      refine lv_goto (tgt := 10) hx hb d_Hea_placesTakenOnPage_43 (by decide) ?_
      exact hK10 _ _ _ _ _ _ _ h hI (lv_sub hl [2, 3, 1, 0] rfl)
    · have h := h.2 c5
      refine lv_iconst (v := 0) hx hb d_Hea_placesTakenOnPage_33 (by decide) ?_
      refine lv_goto (tgt := 38) hx hb d_Hea_placesTakenOnPage_34 (by decide) ?_
      refine lv_iadd hx hb d_Hea_placesTakenOnPage_38 ?_
      refine lv_topi (fun z8 ez8 => ?_)
      have h := h z8 ez8
      refine lv_istore_n (lv' := [(3, .int z8), (0, .ref (V.2.2 6)), (2, .int x2), (4, .int x4)]) hx hb d_Hea_placesTakenOnPage_39 rfl hl (by decide) rfl (fun ls hl => ?_)
      obtain ⟨z9, ez9⟩ : ∃ y : Int32, y = x4 + 1 := ⟨_, rfl⟩
      have h := h z9 ez9
      refine lv_iinc (v := z9) (lv' := [(4, .int z9), (3, .int z8), (0, .ref (V.2.2 6)), (2, .int x2)]) hx hb d_Hea_placesTakenOnPage_40 hl (k := 3) rfl (by rw [ez9]; rfl) (by decide) rfl (fun ls hl => ?_)
      refine lv_goto (tgt := 10) hx hb d_Hea_placesTakenOnPage_43 (by decide) ?_
      exact hK10 _ _ _ _ _ _ _ h hI (lv_sub hl [2, 3, 1, 0] rfl)
theorem w_Hea_placesTakenOnPage_L10 {p : Program} {l : Launch} {e : Env} {s : State} {m : MethodId} {args : Array Value} {below : List Frame} {meth : Method} {c : Code} {V : xV} (C : xC p s m args c cd_Hea_placesTakenOnPage 5 R_Hea V) (hlocks : meth.locks = false) (hr : meth.sig.returnType = (some .int)) {Q : Int32 → xS → Prop} : ∀ (n : Nat) (x2 : Int32) (x3 : Int32) (x4 : Int32) (σ : xS) (H : Heap) (locs : List Loc) (ls : Array Slot), p_Hea_placesTakenOnPage_L10 Q n x2 x3 x4 σ → xI V s.heap σ H locs → lv_has ls 5 [(0, .ref (V.2.2 6)), (2, .int x2), (3, .int x3), (4, .int x4)] → W p l e rm_Hea_placesTakenOnPage s m args below meth c H locs 0 0 (xZi below V args s Q) (F0 m 10 ls []) := by
  intro n
  induction n with
  | zero =>
    intro x2 x3 x4 σ H locs ls h
    exact False.elim h
  | succ n ih =>
    intro x2 x3 x4 σ H locs ls h hI hl
    exact s_Hea_placesTakenOnPage_L10 C hlocks hr (K10 := p_Hea_placesTakenOnPage_L10 Q n) (fun x2 x3 x4 σ H locs ls h hI hl => ih x2 x3 x4 σ H locs ls h hI hl) h hI hl
set_option maxRecDepth 100000 in
set_option maxHeartbeats 4000000 in
theorem c_Hea_placesTakenOnPage {l : Launch} {V : xV} {σ : xS} {x1 : Int32} {Q : Int32 → xS → Prop} (h : p_Hea_placesTakenOnPage x1 σ Q) : xMi l y_Hea_placesTakenOnPage (.code y_Hea_placesTakenOnPage cd_Hea_placesTakenOnPage 5 (some .int) :: xG) rm_Hea_placesTakenOnPage V [.ref (V.2.2 6), .int x1] σ Q := by
  refine x_begini (by decide) (Nat.le_of_ble_eq_true rfl) (fun p e s m below meth c ls C hlocks hr hI hl => ?_)
  have C : xC p s m _ c cd_Hea_placesTakenOnPage 5 R_Hea V := C
  have hx := C.1
  have hb := C.2.1
  have hl : lv_has ls 5 [(0, .ref (V.2.2 6)), (1, .int x1)] := hl
  unfold p_Hea_placesTakenOnPage at h
  refine lv_iload_n hx hb d_Hea_placesTakenOnPage_0 rfl (lv_at hl 1 rfl) ?_
  refine lv_bipush (v := 16) hx hb d_Hea_placesTakenOnPage_1 (by decide) ?_
  refine lv_imul hx hb d_Hea_placesTakenOnPage_3 ?_
  refine lv_topi (fun z1 ez1 => ?_)
  have h := h z1 ez1
  refine lv_istore_n (lv' := [(2, .int z1), (0, .ref (V.2.2 6)), (1, .int x1)]) hx hb d_Hea_placesTakenOnPage_4 rfl hl (by decide) rfl (fun ls hl => ?_)
  refine lv_iconst (v := 0) hx hb d_Hea_placesTakenOnPage_5 (by decide) ?_
  refine lv_istore_n (lv' := [(3, .int 0), (2, .int z1), (0, .ref (V.2.2 6)), (1, .int x1)]) hx hb d_Hea_placesTakenOnPage_6 rfl hl (by decide) rfl (fun ls hl => ?_)
  refine lv_iconst (v := 0) hx hb d_Hea_placesTakenOnPage_7 (by decide) ?_
  refine lv_istore (lv' := [(4, .int 0), (3, .int 0), (2, .int z1), (0, .ref (V.2.2 6)), (1, .int x1)]) hx hb d_Hea_placesTakenOnPage_8 hl (by decide) rfl (fun ls hl => ?_)
  obtain ⟨n, h⟩ := h
  exact w_Hea_placesTakenOnPage_L10 C hlocks hr n _ _ _ _ _ _ _ h hI (lv_sub hl [3, 2, 1, 0] rfl)
