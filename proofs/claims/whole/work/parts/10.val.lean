def y_Val_sortOf : MethodName := ⟨"RegionPool$Values", "sortOf", "(I)I"⟩
abbrev cd_Val_sortOf : ByteArray := prog_10_method_2_code
theorem fd_Val_9 : xFd R_Val 9 5 0 := ⟨R_Val, T_Val, 2, rfl, in_Val, by decide, xG_mem 92 (by decide +kernel) (by decide +kernel)⟩
def p_Val_sortOf_5 (x1 : Int32) (σ : xS) (Q : Int32 → xS → Prop) : Prop :=
  (vp_in x1 16 ∧ Q (σ 17 x1.toNatClampNeg) σ)
abbrev rm_Val_sortOf_5 : Room := { frames := 0, cells := 0, slots := 0, locals := 0 }
theorem d_Val_sortOf_0 : decode cd_Val_sortOf 0 = .ok (.aload_n 0, 1) := by decide +kernel
theorem d_Val_sortOf_1 : decode cd_Val_sortOf 1 = .ok (.getfield 9, 3) := by decide +kernel
theorem d_Val_sortOf_4 : decode cd_Val_sortOf 4 = .ok (.iload_n 1, 1) := by decide +kernel
theorem d_Val_sortOf_5 : decode cd_Val_sortOf 5 = .ok (.iaload, 1) := by decide +kernel
theorem d_Val_sortOf_6 : decode cd_Val_sortOf 6 = .ok (.ireturn, 1) := by decide +kernel
set_option maxRecDepth 100000 in
set_option maxHeartbeats 4000000 in
theorem c_Val_sortOf_5 {l : Launch} {V : xV} {σ : xS} {x1 : Int32} {Q : Int32 → xS → Prop} (h : p_Val_sortOf_5 x1 σ Q) : xMi l y_Val_sortOf (.code y_Val_sortOf cd_Val_sortOf 2 (some .int) :: xG) rm_Val_sortOf_5 V [.ref (V.2.2 5), .int x1] σ Q := by
  refine x_begini (by decide) (Nat.le_of_ble_eq_true rfl) (fun p e s m below meth c ls C hlocks hr hI hl => ?_)
  have C : xC p s m _ c cd_Val_sortOf 2 R_Val V := C
  have hx := C.1
  have hb := C.2.1
  have hl : lv_has ls 2 [(0, .ref (V.2.2 5)), (1, .int x1)] := hl
  unfold p_Val_sortOf_5 at h
  refine lv_aload_n hx hb d_Val_sortOf_0 rfl (lv_at hl 0 rfl) ?_
  refine x_get C hI (d := 5) (by decide) (xE5 V _) fd_Val_9 rfl d_Val_sortOf_1 ?_
  refine lv_iload_n hx hb d_Val_sortOf_4 rfl (lv_at hl 1 rfl) ?_
  obtain ⟨i1, h⟩ := h
  refine x_iald C hI (d := 17) (by decide) (xE17 V) i1 d_Val_sortOf_5 ?_
  exact x_iret C hlocks hr hI h d_Val_sortOf_6
def y_Val_contentOf : MethodName := ⟨"RegionPool$Values", "contentOf", "(I)I"⟩
abbrev cd_Val_contentOf : ByteArray := prog_10_method_3_code
theorem fd_Val_15 : xFd R_Val 15 5 1 := ⟨R_Val, T_Val, 2, rfl, in_Val, by decide, xG_mem 93 (by decide +kernel) (by decide +kernel)⟩
def p_Val_contentOf_5 (x1 : Int32) (σ : xS) (Q : Int32 → xS → Prop) : Prop :=
  (vp_in x1 16 ∧ Q (σ 18 x1.toNatClampNeg) σ)
abbrev rm_Val_contentOf_5 : Room := { frames := 0, cells := 0, slots := 0, locals := 0 }
theorem d_Val_contentOf_0 : decode cd_Val_contentOf 0 = .ok (.aload_n 0, 1) := by decide +kernel
theorem d_Val_contentOf_1 : decode cd_Val_contentOf 1 = .ok (.getfield 15, 3) := by decide +kernel
theorem d_Val_contentOf_4 : decode cd_Val_contentOf 4 = .ok (.iload_n 1, 1) := by decide +kernel
theorem d_Val_contentOf_5 : decode cd_Val_contentOf 5 = .ok (.iaload, 1) := by decide +kernel
theorem d_Val_contentOf_6 : decode cd_Val_contentOf 6 = .ok (.ireturn, 1) := by decide +kernel
set_option maxRecDepth 100000 in
set_option maxHeartbeats 4000000 in
theorem c_Val_contentOf_5 {l : Launch} {V : xV} {σ : xS} {x1 : Int32} {Q : Int32 → xS → Prop} (h : p_Val_contentOf_5 x1 σ Q) : xMi l y_Val_contentOf (.code y_Val_contentOf cd_Val_contentOf 2 (some .int) :: xG) rm_Val_contentOf_5 V [.ref (V.2.2 5), .int x1] σ Q := by
  refine x_begini (by decide) (Nat.le_of_ble_eq_true rfl) (fun p e s m below meth c ls C hlocks hr hI hl => ?_)
  have C : xC p s m _ c cd_Val_contentOf 2 R_Val V := C
  have hx := C.1
  have hb := C.2.1
  have hl : lv_has ls 2 [(0, .ref (V.2.2 5)), (1, .int x1)] := hl
  unfold p_Val_contentOf_5 at h
  refine lv_aload_n hx hb d_Val_contentOf_0 rfl (lv_at hl 0 rfl) ?_
  refine x_get C hI (d := 5) (by decide) (xE5 V _) fd_Val_15 rfl d_Val_contentOf_1 ?_
  refine lv_iload_n hx hb d_Val_contentOf_4 rfl (lv_at hl 1 rfl) ?_
  obtain ⟨i1, h⟩ := h
  refine x_iald C hI (d := 18) (by decide) (xE18 V) i1 d_Val_contentOf_5 ?_
  exact x_iret C hlocks hr hI h d_Val_contentOf_6
def y_Val_isReference : MethodName := ⟨"RegionPool$Values", "isReference", "(I)Z"⟩
abbrev cd_Val_isReference : ByteArray := prog_10_method_4_code
def p_Val_isReference_5 (x1 : Int32) (σ : xS) (Q : Int32 → xS → Prop) : Prop :=
  (vp_in x1 16 ∧ ((¬ (σ 17 x1.toNatClampNeg) = 2 → Q 0 σ) ∧ ((σ 17 x1.toNatClampNeg) = 2 → Q 1 σ)))
abbrev rm_Val_isReference_5 : Room := { frames := 0, cells := 0, slots := 0, locals := 0 }
theorem d_Val_isReference_0 : decode cd_Val_isReference 0 = .ok (.aload_n 0, 1) := by decide +kernel
theorem d_Val_isReference_1 : decode cd_Val_isReference 1 = .ok (.getfield 9, 3) := by decide +kernel
theorem d_Val_isReference_4 : decode cd_Val_isReference 4 = .ok (.iload_n 1, 1) := by decide +kernel
theorem d_Val_isReference_5 : decode cd_Val_isReference 5 = .ok (.iaload, 1) := by decide +kernel
theorem d_Val_isReference_6 : decode cd_Val_isReference 6 = .ok (.iconst 2, 1) := by decide +kernel
theorem d_Val_isReference_7 : decode cd_Val_isReference 7 = .ok (.if_icmp .ne 7, 3) := by decide +kernel
theorem d_Val_isReference_10 : decode cd_Val_isReference 10 = .ok (.iconst 1, 1) := by decide +kernel
theorem d_Val_isReference_11 : decode cd_Val_isReference 11 = .ok (.goto 4, 3) := by decide +kernel
theorem d_Val_isReference_14 : decode cd_Val_isReference 14 = .ok (.iconst 0, 1) := by decide +kernel
theorem d_Val_isReference_15 : decode cd_Val_isReference 15 = .ok (.ireturn, 1) := by decide +kernel
set_option maxRecDepth 100000 in
set_option maxHeartbeats 4000000 in
theorem c_Val_isReference_5 {l : Launch} {V : xV} {σ : xS} {x1 : Int32} {Q : Int32 → xS → Prop} (h : p_Val_isReference_5 x1 σ Q) : xMi l y_Val_isReference (.code y_Val_isReference cd_Val_isReference 2 (some .boolean) :: xG) rm_Val_isReference_5 V [.ref (V.2.2 5), .int x1] σ Q := by
  refine x_begini (by decide) (Nat.le_of_ble_eq_true rfl) (fun p e s m below meth c ls C hlocks hr hI hl => ?_)
  have C : xC p s m _ c cd_Val_isReference 2 R_Val V := C
  have hx := C.1
  have hb := C.2.1
  have hl : lv_has ls 2 [(0, .ref (V.2.2 5)), (1, .int x1)] := hl
  unfold p_Val_isReference_5 at h
  refine lv_aload_n hx hb d_Val_isReference_0 rfl (lv_at hl 0 rfl) ?_
  refine x_get C hI (d := 5) (by decide) (xE5 V _) fd_Val_9 rfl d_Val_isReference_1 ?_
  refine lv_iload_n hx hb d_Val_isReference_4 rfl (lv_at hl 1 rfl) ?_
  obtain ⟨i1, h⟩ := h
  refine x_iald C hI (d := 17) (by decide) (xE17 V) i1 d_Val_isReference_5 ?_
  refine lv_iconst (v := 2) hx hb d_Val_isReference_6 (by decide) ?_
  refine lv_icmp_ne (tgt := 14) hx hb d_Val_isReference_7 (by decide) (fun c2 => ?_) (fun c2 => ?_)
  · have h := h.1 c2
    refine lv_iconst (v := 0) hx hb d_Val_isReference_14 (by decide) ?_
    exact x_zret C hlocks hr hI ⟨rfl, h⟩ d_Val_isReference_15
  · have h := h.2 c2
    refine lv_iconst (v := 1) hx hb d_Val_isReference_10 (by decide) ?_
    refine lv_goto (tgt := 15) hx hb d_Val_isReference_11 (by decide) ?_
    exact x_zret C hlocks hr hI ⟨rfl, h⟩ d_Val_isReference_15
def y_Val_assign : MethodName := ⟨"RegionPool$Values", "assign", "(III)V"⟩
abbrev cd_Val_assign : ByteArray := prog_10_method_5_code
def p_Val_assign_5 (x1 x2 x3 : Int32) (σ : xS) (Q : xS → Prop) : Prop :=
  (vp_in x1 16 ∧ (vp_in x1 16 ∧ Q (xu (xu σ 17 x1.toNatClampNeg x2) 18 x1.toNatClampNeg x3)))
abbrev rm_Val_assign_5 : Room := { frames := 0, cells := 0, slots := 0, locals := 0 }
theorem d_Val_assign_0 : decode cd_Val_assign 0 = .ok (.aload_n 0, 1) := by decide +kernel
theorem d_Val_assign_1 : decode cd_Val_assign 1 = .ok (.getfield 9, 3) := by decide +kernel
theorem d_Val_assign_4 : decode cd_Val_assign 4 = .ok (.iload_n 1, 1) := by decide +kernel
theorem d_Val_assign_5 : decode cd_Val_assign 5 = .ok (.iload_n 2, 1) := by decide +kernel
theorem d_Val_assign_6 : decode cd_Val_assign 6 = .ok (.iastore, 1) := by decide +kernel
theorem d_Val_assign_7 : decode cd_Val_assign 7 = .ok (.aload_n 0, 1) := by decide +kernel
theorem d_Val_assign_8 : decode cd_Val_assign 8 = .ok (.getfield 15, 3) := by decide +kernel
theorem d_Val_assign_11 : decode cd_Val_assign 11 = .ok (.iload_n 1, 1) := by decide +kernel
theorem d_Val_assign_12 : decode cd_Val_assign 12 = .ok (.iload_n 3, 1) := by decide +kernel
theorem d_Val_assign_13 : decode cd_Val_assign 13 = .ok (.iastore, 1) := by decide +kernel
theorem d_Val_assign_14 : decode cd_Val_assign 14 = .ok (.return_, 1) := by decide +kernel
set_option maxRecDepth 100000 in
set_option maxHeartbeats 4000000 in
theorem c_Val_assign_5 {l : Launch} {V : xV} {σ : xS} {x1 x2 x3 : Int32} {Q : xS → Prop} (h : p_Val_assign_5 x1 x2 x3 σ Q) : xMv l y_Val_assign (.code y_Val_assign cd_Val_assign 4 none :: xG) rm_Val_assign_5 V [.ref (V.2.2 5), .int x1, .int x2, .int x3] σ Q := by
  refine x_beginv (by decide) (Nat.le_of_ble_eq_true rfl) (fun p e s m below meth c ls C hlocks hr hI hl => ?_)
  have C : xC p s m _ c cd_Val_assign 4 R_Val V := C
  have hx := C.1
  have hb := C.2.1
  have hl : lv_has ls 4 [(0, .ref (V.2.2 5)), (1, .int x1), (2, .int x2), (3, .int x3)] := hl
  unfold p_Val_assign_5 at h
  refine lv_aload_n hx hb d_Val_assign_0 rfl (lv_at hl 0 rfl) ?_
  refine x_get C hI (d := 5) (by decide) (xE5 V _) fd_Val_9 rfl d_Val_assign_1 ?_
  refine lv_iload_n hx hb d_Val_assign_4 rfl (lv_at hl 1 rfl) ?_
  refine lv_iload_n hx hb d_Val_assign_5 rfl (lv_at hl 2 rfl) ?_
  obtain ⟨i1, h⟩ := h
  refine x_iast C hI (d := 17) (by decide) (xE17 V) i1 d_Val_assign_6 (fun H locs hI => ?_)
  refine lv_aload_n hx hb d_Val_assign_7 rfl (lv_at hl 0 rfl) ?_
  refine x_get C hI (d := 5) (by decide) (xE5 V _) fd_Val_15 rfl d_Val_assign_8 ?_
  refine lv_iload_n hx hb d_Val_assign_11 rfl (lv_at hl 1 rfl) ?_
  refine lv_iload_n hx hb d_Val_assign_12 rfl (lv_at hl 3 rfl) ?_
  obtain ⟨i2, h⟩ := h
  refine x_iast C hI (d := 18) (by decide) (xE18 V) i2 d_Val_assign_13 (fun H locs hI => ?_)
  exact x_vret C hlocks hr hI h d_Val_assign_14
def y_Val_setNil : MethodName := ⟨"RegionPool$Values", "setNil", "(I)V"⟩
abbrev cd_Val_setNil : ByteArray := prog_10_method_6_code
theorem yw_Val_assign : xY y_Val_assign cd_Val_assign 4 none 3 := ⟨xG_mem 342 (by decide +kernel) (by decide +kernel), xG_mem 343 (by decide +kernel) (by decide +kernel), xG_mem 56 (by decide +kernel) (by decide +kernel), xG_mem 344 (by decide +kernel) (by decide +kernel), by decide, by decide, by decide +kernel⟩
theorem ml_Val_18 : Cond.methodLink R_Val 18 y_Val_assign ∈ xG := xG_mem 341 (by decide +kernel) (by decide +kernel)
def p_Val_setNil_5 (x1 : Int32) (σ : xS) (Q : xS → Prop) : Prop :=
  p_Val_assign_5 x1 0 0 σ (fun σ1 => Q σ1)
abbrev rm_Val_setNil_5 : Room := { frames := 1, cells := 0, slots := 0, locals := 23 }
theorem d_Val_setNil_0 : decode cd_Val_setNil 0 = .ok (.aload_n 0, 1) := by decide +kernel
theorem d_Val_setNil_1 : decode cd_Val_setNil 1 = .ok (.iload_n 1, 1) := by decide +kernel
theorem d_Val_setNil_2 : decode cd_Val_setNil 2 = .ok (.iconst 0, 1) := by decide +kernel
theorem d_Val_setNil_3 : decode cd_Val_setNil 3 = .ok (.iconst 0, 1) := by decide +kernel
theorem d_Val_setNil_4 : decode cd_Val_setNil 4 = .ok (.invokevirtual 18, 3) := by decide +kernel
theorem d_Val_setNil_7 : decode cd_Val_setNil 7 = .ok (.return_, 1) := by decide +kernel
set_option maxRecDepth 100000 in
set_option maxHeartbeats 4000000 in
theorem c_Val_setNil_5 {l : Launch} {V : xV} {σ : xS} {x1 : Int32} {Q : xS → Prop} (h : p_Val_setNil_5 x1 σ Q) : xMv l y_Val_setNil (.code y_Val_setNil cd_Val_setNil 2 none :: xG) rm_Val_setNil_5 V [.ref (V.2.2 5), .int x1] σ Q := by
  refine x_beginv (by decide) (Nat.le_of_ble_eq_true rfl) (fun p e s m below meth c ls C hlocks hr hI hl => ?_)
  have C : xC p s m _ c cd_Val_setNil 2 R_Val V := C
  have hx := C.1
  have hb := C.2.1
  have hl : lv_has ls 2 [(0, .ref (V.2.2 5)), (1, .int x1)] := hl
  unfold p_Val_setNil_5 at h
  refine lv_aload_n hx hb d_Val_setNil_0 rfl (lv_at hl 0 rfl) ?_
  refine lv_iload_n hx hb d_Val_setNil_1 rfl (lv_at hl 1 rfl) ?_
  refine lv_iconst (v := 0) hx hb d_Val_setNil_2 (by decide) ?_
  refine lv_iconst (v := 0) hx hb d_Val_setNil_3 (by decide) ?_
  refine x_callv C hI hl.1 (d := 5) (As := [.int x1, .int 0, .int 0]) (rest := []) (by decide) (c_Val_assign_5 h) (xE5 V _) rfl yw_Val_assign ml_Val_18 rfl rfl ⟨Nat.le_of_ble_eq_true rfl, Nat.le_of_ble_eq_true rfl⟩ rfl rfl (Nat.le_of_ble_eq_true rfl) d_Val_setNil_4 ⟨Nat.zero_le _, Nat.zero_le _⟩ (fun σ1 H locs h hI => ?_)
  exact x_vret C hlocks hr hI h d_Val_setNil_7
def p_Val_sortOf_19 (x1 : Int32) (σ : xS) (Q : Int32 → xS → Prop) : Prop :=
  (vp_in x1 640 ∧ Q (σ 28 x1.toNatClampNeg) σ)
abbrev rm_Val_sortOf_19 : Room := { frames := 0, cells := 0, slots := 0, locals := 0 }
set_option maxRecDepth 100000 in
set_option maxHeartbeats 4000000 in
theorem c_Val_sortOf_19 {l : Launch} {V : xV} {σ : xS} {x1 : Int32} {Q : Int32 → xS → Prop} (h : p_Val_sortOf_19 x1 σ Q) : xMi l y_Val_sortOf (.code y_Val_sortOf cd_Val_sortOf 2 (some .int) :: xG) rm_Val_sortOf_19 V [.ref (V.2.2 19), .int x1] σ Q := by
  refine x_begini (by decide) (Nat.le_of_ble_eq_true rfl) (fun p e s m below meth c ls C hlocks hr hI hl => ?_)
  have C : xC p s m _ c cd_Val_sortOf 2 R_Val V := C
  have hx := C.1
  have hb := C.2.1
  have hl : lv_has ls 2 [(0, .ref (V.2.2 19)), (1, .int x1)] := hl
  unfold p_Val_sortOf_19 at h
  refine lv_aload_n hx hb d_Val_sortOf_0 rfl (lv_at hl 0 rfl) ?_
  refine x_get C hI (d := 19) (by decide) (xE19 V _) fd_Val_9 rfl d_Val_sortOf_1 ?_
  refine lv_iload_n hx hb d_Val_sortOf_4 rfl (lv_at hl 1 rfl) ?_
  obtain ⟨i1, h⟩ := h
  refine x_iald C hI (d := 28) (by decide) (xE28 V) i1 d_Val_sortOf_5 ?_
  exact x_iret C hlocks hr hI h d_Val_sortOf_6
def p_Val_contentOf_19 (x1 : Int32) (σ : xS) (Q : Int32 → xS → Prop) : Prop :=
  (vp_in x1 640 ∧ Q (σ 29 x1.toNatClampNeg) σ)
abbrev rm_Val_contentOf_19 : Room := { frames := 0, cells := 0, slots := 0, locals := 0 }
set_option maxRecDepth 100000 in
set_option maxHeartbeats 4000000 in
theorem c_Val_contentOf_19 {l : Launch} {V : xV} {σ : xS} {x1 : Int32} {Q : Int32 → xS → Prop} (h : p_Val_contentOf_19 x1 σ Q) : xMi l y_Val_contentOf (.code y_Val_contentOf cd_Val_contentOf 2 (some .int) :: xG) rm_Val_contentOf_19 V [.ref (V.2.2 19), .int x1] σ Q := by
  refine x_begini (by decide) (Nat.le_of_ble_eq_true rfl) (fun p e s m below meth c ls C hlocks hr hI hl => ?_)
  have C : xC p s m _ c cd_Val_contentOf 2 R_Val V := C
  have hx := C.1
  have hb := C.2.1
  have hl : lv_has ls 2 [(0, .ref (V.2.2 19)), (1, .int x1)] := hl
  unfold p_Val_contentOf_19 at h
  refine lv_aload_n hx hb d_Val_contentOf_0 rfl (lv_at hl 0 rfl) ?_
  refine x_get C hI (d := 19) (by decide) (xE19 V _) fd_Val_15 rfl d_Val_contentOf_1 ?_
  refine lv_iload_n hx hb d_Val_contentOf_4 rfl (lv_at hl 1 rfl) ?_
  obtain ⟨i1, h⟩ := h
  refine x_iald C hI (d := 29) (by decide) (xE29 V) i1 d_Val_contentOf_5 ?_
  exact x_iret C hlocks hr hI h d_Val_contentOf_6
def p_Val_isReference_19 (x1 : Int32) (σ : xS) (Q : Int32 → xS → Prop) : Prop :=
  (vp_in x1 640 ∧ ((¬ (σ 28 x1.toNatClampNeg) = 2 → Q 0 σ) ∧ ((σ 28 x1.toNatClampNeg) = 2 → Q 1 σ)))
abbrev rm_Val_isReference_19 : Room := { frames := 0, cells := 0, slots := 0, locals := 0 }
set_option maxRecDepth 100000 in
set_option maxHeartbeats 4000000 in
theorem c_Val_isReference_19 {l : Launch} {V : xV} {σ : xS} {x1 : Int32} {Q : Int32 → xS → Prop} (h : p_Val_isReference_19 x1 σ Q) : xMi l y_Val_isReference (.code y_Val_isReference cd_Val_isReference 2 (some .boolean) :: xG) rm_Val_isReference_19 V [.ref (V.2.2 19), .int x1] σ Q := by
  refine x_begini (by decide) (Nat.le_of_ble_eq_true rfl) (fun p e s m below meth c ls C hlocks hr hI hl => ?_)
  have C : xC p s m _ c cd_Val_isReference 2 R_Val V := C
  have hx := C.1
  have hb := C.2.1
  have hl : lv_has ls 2 [(0, .ref (V.2.2 19)), (1, .int x1)] := hl
  unfold p_Val_isReference_19 at h
  refine lv_aload_n hx hb d_Val_isReference_0 rfl (lv_at hl 0 rfl) ?_
  refine x_get C hI (d := 19) (by decide) (xE19 V _) fd_Val_9 rfl d_Val_isReference_1 ?_
  refine lv_iload_n hx hb d_Val_isReference_4 rfl (lv_at hl 1 rfl) ?_
  obtain ⟨i1, h⟩ := h
  refine x_iald C hI (d := 28) (by decide) (xE28 V) i1 d_Val_isReference_5 ?_
  refine lv_iconst (v := 2) hx hb d_Val_isReference_6 (by decide) ?_
  refine lv_icmp_ne (tgt := 14) hx hb d_Val_isReference_7 (by decide) (fun c2 => ?_) (fun c2 => ?_)
  · have h := h.1 c2
    refine lv_iconst (v := 0) hx hb d_Val_isReference_14 (by decide) ?_
    exact x_zret C hlocks hr hI ⟨rfl, h⟩ d_Val_isReference_15
  · have h := h.2 c2
    refine lv_iconst (v := 1) hx hb d_Val_isReference_10 (by decide) ?_
    refine lv_goto (tgt := 15) hx hb d_Val_isReference_11 (by decide) ?_
    exact x_zret C hlocks hr hI ⟨rfl, h⟩ d_Val_isReference_15
def p_Val_assign_19 (x1 x2 x3 : Int32) (σ : xS) (Q : xS → Prop) : Prop :=
  (vp_in x1 640 ∧ (vp_in x1 640 ∧ Q (xu (xu σ 28 x1.toNatClampNeg x2) 29 x1.toNatClampNeg x3)))
abbrev rm_Val_assign_19 : Room := { frames := 0, cells := 0, slots := 0, locals := 0 }
set_option maxRecDepth 100000 in
set_option maxHeartbeats 4000000 in
theorem c_Val_assign_19 {l : Launch} {V : xV} {σ : xS} {x1 x2 x3 : Int32} {Q : xS → Prop} (h : p_Val_assign_19 x1 x2 x3 σ Q) : xMv l y_Val_assign (.code y_Val_assign cd_Val_assign 4 none :: xG) rm_Val_assign_19 V [.ref (V.2.2 19), .int x1, .int x2, .int x3] σ Q := by
  refine x_beginv (by decide) (Nat.le_of_ble_eq_true rfl) (fun p e s m below meth c ls C hlocks hr hI hl => ?_)
  have C : xC p s m _ c cd_Val_assign 4 R_Val V := C
  have hx := C.1
  have hb := C.2.1
  have hl : lv_has ls 4 [(0, .ref (V.2.2 19)), (1, .int x1), (2, .int x2), (3, .int x3)] := hl
  unfold p_Val_assign_19 at h
  refine lv_aload_n hx hb d_Val_assign_0 rfl (lv_at hl 0 rfl) ?_
  refine x_get C hI (d := 19) (by decide) (xE19 V _) fd_Val_9 rfl d_Val_assign_1 ?_
  refine lv_iload_n hx hb d_Val_assign_4 rfl (lv_at hl 1 rfl) ?_
  refine lv_iload_n hx hb d_Val_assign_5 rfl (lv_at hl 2 rfl) ?_
  obtain ⟨i1, h⟩ := h
  refine x_iast C hI (d := 28) (by decide) (xE28 V) i1 d_Val_assign_6 (fun H locs hI => ?_)
  refine lv_aload_n hx hb d_Val_assign_7 rfl (lv_at hl 0 rfl) ?_
  refine x_get C hI (d := 19) (by decide) (xE19 V _) fd_Val_15 rfl d_Val_assign_8 ?_
  refine lv_iload_n hx hb d_Val_assign_11 rfl (lv_at hl 1 rfl) ?_
  refine lv_iload_n hx hb d_Val_assign_12 rfl (lv_at hl 3 rfl) ?_
  obtain ⟨i2, h⟩ := h
  refine x_iast C hI (d := 29) (by decide) (xE29 V) i2 d_Val_assign_13 (fun H locs hI => ?_)
  exact x_vret C hlocks hr hI h d_Val_assign_14
def p_Val_setNil_19 (x1 : Int32) (σ : xS) (Q : xS → Prop) : Prop :=
  p_Val_assign_19 x1 0 0 σ (fun σ1 => Q σ1)
abbrev rm_Val_setNil_19 : Room := { frames := 1, cells := 0, slots := 0, locals := 23 }
set_option maxRecDepth 100000 in
set_option maxHeartbeats 4000000 in
theorem c_Val_setNil_19 {l : Launch} {V : xV} {σ : xS} {x1 : Int32} {Q : xS → Prop} (h : p_Val_setNil_19 x1 σ Q) : xMv l y_Val_setNil (.code y_Val_setNil cd_Val_setNil 2 none :: xG) rm_Val_setNil_19 V [.ref (V.2.2 19), .int x1] σ Q := by
  refine x_beginv (by decide) (Nat.le_of_ble_eq_true rfl) (fun p e s m below meth c ls C hlocks hr hI hl => ?_)
  have C : xC p s m _ c cd_Val_setNil 2 R_Val V := C
  have hx := C.1
  have hb := C.2.1
  have hl : lv_has ls 2 [(0, .ref (V.2.2 19)), (1, .int x1)] := hl
  unfold p_Val_setNil_19 at h
  refine lv_aload_n hx hb d_Val_setNil_0 rfl (lv_at hl 0 rfl) ?_
  refine lv_iload_n hx hb d_Val_setNil_1 rfl (lv_at hl 1 rfl) ?_
  refine lv_iconst (v := 0) hx hb d_Val_setNil_2 (by decide) ?_
  refine lv_iconst (v := 0) hx hb d_Val_setNil_3 (by decide) ?_
  refine x_callv C hI hl.1 (d := 19) (As := [.int x1, .int 0, .int 0]) (rest := []) (by decide) (c_Val_assign_19 h) (xE19 V _) rfl yw_Val_assign ml_Val_18 rfl rfl ⟨Nat.le_of_ble_eq_true rfl, Nat.le_of_ble_eq_true rfl⟩ rfl rfl (Nat.le_of_ble_eq_true rfl) d_Val_setNil_4 ⟨Nat.zero_le _, Nat.zero_le _⟩ (fun σ1 H locs h hI => ?_)
  exact x_vret C hlocks hr hI h d_Val_setNil_7
def y_Val_setNumber : MethodName := ⟨"RegionPool$Values", "setNumber", "(II)V"⟩
abbrev cd_Val_setNumber : ByteArray := prog_10_method_7_code
def p_Val_setNumber_5 (x1 x2 : Int32) (σ : xS) (Q : xS → Prop) : Prop :=
  p_Val_assign_5 x1 1 x2 σ (fun σ1 => Q σ1)
abbrev rm_Val_setNumber_5 : Room := { frames := 1, cells := 0, slots := 0, locals := 23 }
theorem d_Val_setNumber_0 : decode cd_Val_setNumber 0 = .ok (.aload_n 0, 1) := by decide +kernel
theorem d_Val_setNumber_1 : decode cd_Val_setNumber 1 = .ok (.iload_n 1, 1) := by decide +kernel
theorem d_Val_setNumber_2 : decode cd_Val_setNumber 2 = .ok (.iconst 1, 1) := by decide +kernel
theorem d_Val_setNumber_3 : decode cd_Val_setNumber 3 = .ok (.iload_n 2, 1) := by decide +kernel
theorem d_Val_setNumber_4 : decode cd_Val_setNumber 4 = .ok (.invokevirtual 18, 3) := by decide +kernel
theorem d_Val_setNumber_7 : decode cd_Val_setNumber 7 = .ok (.return_, 1) := by decide +kernel
set_option maxRecDepth 100000 in
set_option maxHeartbeats 4000000 in
theorem c_Val_setNumber_5 {l : Launch} {V : xV} {σ : xS} {x1 x2 : Int32} {Q : xS → Prop} (h : p_Val_setNumber_5 x1 x2 σ Q) : xMv l y_Val_setNumber (.code y_Val_setNumber cd_Val_setNumber 3 none :: xG) rm_Val_setNumber_5 V [.ref (V.2.2 5), .int x1, .int x2] σ Q := by
  refine x_beginv (by decide) (Nat.le_of_ble_eq_true rfl) (fun p e s m below meth c ls C hlocks hr hI hl => ?_)
  have C : xC p s m _ c cd_Val_setNumber 3 R_Val V := C
  have hx := C.1
  have hb := C.2.1
  have hl : lv_has ls 3 [(0, .ref (V.2.2 5)), (1, .int x1), (2, .int x2)] := hl
  unfold p_Val_setNumber_5 at h
  refine lv_aload_n hx hb d_Val_setNumber_0 rfl (lv_at hl 0 rfl) ?_
  refine lv_iload_n hx hb d_Val_setNumber_1 rfl (lv_at hl 1 rfl) ?_
  refine lv_iconst (v := 1) hx hb d_Val_setNumber_2 (by decide) ?_
  refine lv_iload_n hx hb d_Val_setNumber_3 rfl (lv_at hl 2 rfl) ?_
  refine x_callv C hI hl.1 (d := 5) (As := [.int x1, .int 1, .int x2]) (rest := []) (by decide) (c_Val_assign_5 h) (xE5 V _) rfl yw_Val_assign ml_Val_18 rfl rfl ⟨Nat.le_of_ble_eq_true rfl, Nat.le_of_ble_eq_true rfl⟩ rfl rfl (Nat.le_of_ble_eq_true rfl) d_Val_setNumber_4 ⟨Nat.zero_le _, Nat.zero_le _⟩ (fun σ1 H locs h hI => ?_)
  exact x_vret C hlocks hr hI h d_Val_setNumber_7
def y_Val_setReference : MethodName := ⟨"RegionPool$Values", "setReference", "(II)V"⟩
abbrev cd_Val_setReference : ByteArray := prog_10_method_8_code
def p_Val_setReference_5 (x1 x2 : Int32) (σ : xS) (Q : xS → Prop) : Prop :=
  p_Val_assign_5 x1 2 x2 σ (fun σ1 => Q σ1)
abbrev rm_Val_setReference_5 : Room := { frames := 1, cells := 0, slots := 0, locals := 23 }
theorem d_Val_setReference_0 : decode cd_Val_setReference 0 = .ok (.aload_n 0, 1) := by decide +kernel
theorem d_Val_setReference_1 : decode cd_Val_setReference 1 = .ok (.iload_n 1, 1) := by decide +kernel
theorem d_Val_setReference_2 : decode cd_Val_setReference 2 = .ok (.iconst 2, 1) := by decide +kernel
theorem d_Val_setReference_3 : decode cd_Val_setReference 3 = .ok (.iload_n 2, 1) := by decide +kernel
theorem d_Val_setReference_4 : decode cd_Val_setReference 4 = .ok (.invokevirtual 18, 3) := by decide +kernel
theorem d_Val_setReference_7 : decode cd_Val_setReference 7 = .ok (.return_, 1) := by decide +kernel
set_option maxRecDepth 100000 in
set_option maxHeartbeats 4000000 in
theorem c_Val_setReference_5 {l : Launch} {V : xV} {σ : xS} {x1 x2 : Int32} {Q : xS → Prop} (h : p_Val_setReference_5 x1 x2 σ Q) : xMv l y_Val_setReference (.code y_Val_setReference cd_Val_setReference 3 none :: xG) rm_Val_setReference_5 V [.ref (V.2.2 5), .int x1, .int x2] σ Q := by
  refine x_beginv (by decide) (Nat.le_of_ble_eq_true rfl) (fun p e s m below meth c ls C hlocks hr hI hl => ?_)
  have C : xC p s m _ c cd_Val_setReference 3 R_Val V := C
  have hx := C.1
  have hb := C.2.1
  have hl : lv_has ls 3 [(0, .ref (V.2.2 5)), (1, .int x1), (2, .int x2)] := hl
  unfold p_Val_setReference_5 at h
  refine lv_aload_n hx hb d_Val_setReference_0 rfl (lv_at hl 0 rfl) ?_
  refine lv_iload_n hx hb d_Val_setReference_1 rfl (lv_at hl 1 rfl) ?_
  refine lv_iconst (v := 2) hx hb d_Val_setReference_2 (by decide) ?_
  refine lv_iload_n hx hb d_Val_setReference_3 rfl (lv_at hl 2 rfl) ?_
  refine x_callv C hI hl.1 (d := 5) (As := [.int x1, .int 2, .int x2]) (rest := []) (by decide) (c_Val_assign_5 h) (xE5 V _) rfl yw_Val_assign ml_Val_18 rfl rfl ⟨Nat.le_of_ble_eq_true rfl, Nat.le_of_ble_eq_true rfl⟩ rfl rfl (Nat.le_of_ble_eq_true rfl) d_Val_setReference_4 ⟨Nat.zero_le _, Nat.zero_le _⟩ (fun σ1 H locs h hI => ?_)
  exact x_vret C hlocks hr hI h d_Val_setReference_7
def p_Val_setReference_19 (x1 x2 : Int32) (σ : xS) (Q : xS → Prop) : Prop :=
  p_Val_assign_19 x1 2 x2 σ (fun σ1 => Q σ1)
abbrev rm_Val_setReference_19 : Room := { frames := 1, cells := 0, slots := 0, locals := 23 }
set_option maxRecDepth 100000 in
set_option maxHeartbeats 4000000 in
theorem c_Val_setReference_19 {l : Launch} {V : xV} {σ : xS} {x1 x2 : Int32} {Q : xS → Prop} (h : p_Val_setReference_19 x1 x2 σ Q) : xMv l y_Val_setReference (.code y_Val_setReference cd_Val_setReference 3 none :: xG) rm_Val_setReference_19 V [.ref (V.2.2 19), .int x1, .int x2] σ Q := by
  refine x_beginv (by decide) (Nat.le_of_ble_eq_true rfl) (fun p e s m below meth c ls C hlocks hr hI hl => ?_)
  have C : xC p s m _ c cd_Val_setReference 3 R_Val V := C
  have hx := C.1
  have hb := C.2.1
  have hl : lv_has ls 3 [(0, .ref (V.2.2 19)), (1, .int x1), (2, .int x2)] := hl
  unfold p_Val_setReference_19 at h
  refine lv_aload_n hx hb d_Val_setReference_0 rfl (lv_at hl 0 rfl) ?_
  refine lv_iload_n hx hb d_Val_setReference_1 rfl (lv_at hl 1 rfl) ?_
  refine lv_iconst (v := 2) hx hb d_Val_setReference_2 (by decide) ?_
  refine lv_iload_n hx hb d_Val_setReference_3 rfl (lv_at hl 2 rfl) ?_
  refine x_callv C hI hl.1 (d := 19) (As := [.int x1, .int 2, .int x2]) (rest := []) (by decide) (c_Val_assign_19 h) (xE19 V _) rfl yw_Val_assign ml_Val_18 rfl rfl ⟨Nat.le_of_ble_eq_true rfl, Nat.le_of_ble_eq_true rfl⟩ rfl rfl (Nat.le_of_ble_eq_true rfl) d_Val_setReference_4 ⟨Nat.zero_le _, Nat.zero_le _⟩ (fun σ1 H locs h hI => ?_)
  exact x_vret C hlocks hr hI h d_Val_setReference_7
def y_Val_take : MethodName := ⟨"RegionPool$Values", "take", "(ILRegionPool$Values;I)V"⟩
abbrev cd_Val_take : ByteArray := prog_10_method_9_code
def p_Val_take_5_5 (x1 x3 : Int32) (σ : xS) (Q : xS → Prop) : Prop :=
  (vp_in x3 16 ∧ (vp_in x3 16 ∧ p_Val_assign_5 x1 (σ 17 x3.toNatClampNeg) (σ 18 x3.toNatClampNeg) σ (fun σ3 => Q σ3)))
abbrev rm_Val_take_5_5 : Room := { frames := 1, cells := 0, slots := 0, locals := 23 }
theorem d_Val_take_0 : decode cd_Val_take 0 = .ok (.aload_n 0, 1) := by decide +kernel
theorem d_Val_take_1 : decode cd_Val_take 1 = .ok (.iload_n 1, 1) := by decide +kernel
theorem d_Val_take_2 : decode cd_Val_take 2 = .ok (.aload_n 2, 1) := by decide +kernel
theorem d_Val_take_3 : decode cd_Val_take 3 = .ok (.getfield 9, 3) := by decide +kernel
theorem d_Val_take_6 : decode cd_Val_take 6 = .ok (.iload_n 3, 1) := by decide +kernel
theorem d_Val_take_7 : decode cd_Val_take 7 = .ok (.iaload, 1) := by decide +kernel
theorem d_Val_take_8 : decode cd_Val_take 8 = .ok (.aload_n 2, 1) := by decide +kernel
theorem d_Val_take_9 : decode cd_Val_take 9 = .ok (.getfield 15, 3) := by decide +kernel
theorem d_Val_take_12 : decode cd_Val_take 12 = .ok (.iload_n 3, 1) := by decide +kernel
theorem d_Val_take_13 : decode cd_Val_take 13 = .ok (.iaload, 1) := by decide +kernel
theorem d_Val_take_14 : decode cd_Val_take 14 = .ok (.invokevirtual 18, 3) := by decide +kernel
theorem d_Val_take_17 : decode cd_Val_take 17 = .ok (.return_, 1) := by decide +kernel
set_option maxRecDepth 100000 in
set_option maxHeartbeats 4000000 in
theorem c_Val_take_5_5 {l : Launch} {V : xV} {σ : xS} {x1 x3 : Int32} {Q : xS → Prop} (h : p_Val_take_5_5 x1 x3 σ Q) : xMv l y_Val_take (.code y_Val_take cd_Val_take 4 none :: xG) rm_Val_take_5_5 V [.ref (V.2.2 5), .int x1, .ref (V.2.2 5), .int x3] σ Q := by
  refine x_beginv (by decide) (Nat.le_of_ble_eq_true rfl) (fun p e s m below meth c ls C hlocks hr hI hl => ?_)
  have C : xC p s m _ c cd_Val_take 4 R_Val V := C
  have hx := C.1
  have hb := C.2.1
  have hl : lv_has ls 4 [(0, .ref (V.2.2 5)), (1, .int x1), (2, .ref (V.2.2 5)), (3, .int x3)] := hl
  unfold p_Val_take_5_5 at h
  refine lv_aload_n hx hb d_Val_take_0 rfl (lv_at hl 0 rfl) ?_
  refine lv_iload_n hx hb d_Val_take_1 rfl (lv_at hl 1 rfl) ?_
  refine lv_aload_n hx hb d_Val_take_2 rfl (lv_at hl 2 rfl) ?_
  refine x_get C hI (d := 5) (by decide) (xE5 V _) fd_Val_9 rfl d_Val_take_3 ?_
  refine lv_iload_n hx hb d_Val_take_6 rfl (lv_at hl 3 rfl) ?_
  obtain ⟨i1, h⟩ := h
  refine x_iald C hI (d := 17) (by decide) (xE17 V) i1 d_Val_take_7 ?_
  refine lv_aload_n hx hb d_Val_take_8 rfl (lv_at hl 2 rfl) ?_
  refine x_get C hI (d := 5) (by decide) (xE5 V _) fd_Val_15 rfl d_Val_take_9 ?_
  refine lv_iload_n hx hb d_Val_take_12 rfl (lv_at hl 3 rfl) ?_
  obtain ⟨i2, h⟩ := h
  refine x_iald C hI (d := 18) (by decide) (xE18 V) i2 d_Val_take_13 ?_
  refine x_callv C hI hl.1 (d := 5) (As := [.int x1, .int (σ 17 x3.toNatClampNeg), .int (σ 18 x3.toNatClampNeg)]) (rest := []) (by decide) (c_Val_assign_5 h) (xE5 V _) rfl yw_Val_assign ml_Val_18 rfl rfl ⟨Nat.le_of_ble_eq_true rfl, Nat.le_of_ble_eq_true rfl⟩ rfl rfl (Nat.le_of_ble_eq_true rfl) d_Val_take_14 ⟨Nat.zero_le _, Nat.zero_le _⟩ (fun σ3 H locs h hI => ?_)
  exact x_vret C hlocks hr hI h d_Val_take_17
def p_Val_take_5_19 (x1 x3 : Int32) (σ : xS) (Q : xS → Prop) : Prop :=
  (vp_in x3 640 ∧ (vp_in x3 640 ∧ p_Val_assign_5 x1 (σ 28 x3.toNatClampNeg) (σ 29 x3.toNatClampNeg) σ (fun σ3 => Q σ3)))
abbrev rm_Val_take_5_19 : Room := { frames := 1, cells := 0, slots := 0, locals := 23 }
set_option maxRecDepth 100000 in
set_option maxHeartbeats 4000000 in
theorem c_Val_take_5_19 {l : Launch} {V : xV} {σ : xS} {x1 x3 : Int32} {Q : xS → Prop} (h : p_Val_take_5_19 x1 x3 σ Q) : xMv l y_Val_take (.code y_Val_take cd_Val_take 4 none :: xG) rm_Val_take_5_19 V [.ref (V.2.2 5), .int x1, .ref (V.2.2 19), .int x3] σ Q := by
  refine x_beginv (by decide) (Nat.le_of_ble_eq_true rfl) (fun p e s m below meth c ls C hlocks hr hI hl => ?_)
  have C : xC p s m _ c cd_Val_take 4 R_Val V := C
  have hx := C.1
  have hb := C.2.1
  have hl : lv_has ls 4 [(0, .ref (V.2.2 5)), (1, .int x1), (2, .ref (V.2.2 19)), (3, .int x3)] := hl
  unfold p_Val_take_5_19 at h
  refine lv_aload_n hx hb d_Val_take_0 rfl (lv_at hl 0 rfl) ?_
  refine lv_iload_n hx hb d_Val_take_1 rfl (lv_at hl 1 rfl) ?_
  refine lv_aload_n hx hb d_Val_take_2 rfl (lv_at hl 2 rfl) ?_
  refine x_get C hI (d := 19) (by decide) (xE19 V _) fd_Val_9 rfl d_Val_take_3 ?_
  refine lv_iload_n hx hb d_Val_take_6 rfl (lv_at hl 3 rfl) ?_
  obtain ⟨i1, h⟩ := h
  refine x_iald C hI (d := 28) (by decide) (xE28 V) i1 d_Val_take_7 ?_
  refine lv_aload_n hx hb d_Val_take_8 rfl (lv_at hl 2 rfl) ?_
  refine x_get C hI (d := 19) (by decide) (xE19 V _) fd_Val_15 rfl d_Val_take_9 ?_
  refine lv_iload_n hx hb d_Val_take_12 rfl (lv_at hl 3 rfl) ?_
  obtain ⟨i2, h⟩ := h
  refine x_iald C hI (d := 29) (by decide) (xE29 V) i2 d_Val_take_13 ?_
  refine x_callv C hI hl.1 (d := 5) (As := [.int x1, .int (σ 28 x3.toNatClampNeg), .int (σ 29 x3.toNatClampNeg)]) (rest := []) (by decide) (c_Val_assign_5 h) (xE5 V _) rfl yw_Val_assign ml_Val_18 rfl rfl ⟨Nat.le_of_ble_eq_true rfl, Nat.le_of_ble_eq_true rfl⟩ rfl rfl (Nat.le_of_ble_eq_true rfl) d_Val_take_14 ⟨Nat.zero_le _, Nat.zero_le _⟩ (fun σ3 H locs h hI => ?_)
  exact x_vret C hlocks hr hI h d_Val_take_17
def p_Val_take_19_5 (x1 x3 : Int32) (σ : xS) (Q : xS → Prop) : Prop :=
  (vp_in x3 16 ∧ (vp_in x3 16 ∧ p_Val_assign_19 x1 (σ 17 x3.toNatClampNeg) (σ 18 x3.toNatClampNeg) σ (fun σ3 => Q σ3)))
abbrev rm_Val_take_19_5 : Room := { frames := 1, cells := 0, slots := 0, locals := 23 }
set_option maxRecDepth 100000 in
set_option maxHeartbeats 4000000 in
theorem c_Val_take_19_5 {l : Launch} {V : xV} {σ : xS} {x1 x3 : Int32} {Q : xS → Prop} (h : p_Val_take_19_5 x1 x3 σ Q) : xMv l y_Val_take (.code y_Val_take cd_Val_take 4 none :: xG) rm_Val_take_19_5 V [.ref (V.2.2 19), .int x1, .ref (V.2.2 5), .int x3] σ Q := by
  refine x_beginv (by decide) (Nat.le_of_ble_eq_true rfl) (fun p e s m below meth c ls C hlocks hr hI hl => ?_)
  have C : xC p s m _ c cd_Val_take 4 R_Val V := C
  have hx := C.1
  have hb := C.2.1
  have hl : lv_has ls 4 [(0, .ref (V.2.2 19)), (1, .int x1), (2, .ref (V.2.2 5)), (3, .int x3)] := hl
  unfold p_Val_take_19_5 at h
  refine lv_aload_n hx hb d_Val_take_0 rfl (lv_at hl 0 rfl) ?_
  refine lv_iload_n hx hb d_Val_take_1 rfl (lv_at hl 1 rfl) ?_
  refine lv_aload_n hx hb d_Val_take_2 rfl (lv_at hl 2 rfl) ?_
  refine x_get C hI (d := 5) (by decide) (xE5 V _) fd_Val_9 rfl d_Val_take_3 ?_
  refine lv_iload_n hx hb d_Val_take_6 rfl (lv_at hl 3 rfl) ?_
  obtain ⟨i1, h⟩ := h
  refine x_iald C hI (d := 17) (by decide) (xE17 V) i1 d_Val_take_7 ?_
  refine lv_aload_n hx hb d_Val_take_8 rfl (lv_at hl 2 rfl) ?_
  refine x_get C hI (d := 5) (by decide) (xE5 V _) fd_Val_15 rfl d_Val_take_9 ?_
  refine lv_iload_n hx hb d_Val_take_12 rfl (lv_at hl 3 rfl) ?_
  obtain ⟨i2, h⟩ := h
  refine x_iald C hI (d := 18) (by decide) (xE18 V) i2 d_Val_take_13 ?_
  refine x_callv C hI hl.1 (d := 19) (As := [.int x1, .int (σ 17 x3.toNatClampNeg), .int (σ 18 x3.toNatClampNeg)]) (rest := []) (by decide) (c_Val_assign_19 h) (xE19 V _) rfl yw_Val_assign ml_Val_18 rfl rfl ⟨Nat.le_of_ble_eq_true rfl, Nat.le_of_ble_eq_true rfl⟩ rfl rfl (Nat.le_of_ble_eq_true rfl) d_Val_take_14 ⟨Nat.zero_le _, Nat.zero_le _⟩ (fun σ3 H locs h hI => ?_)
  exact x_vret C hlocks hr hI h d_Val_take_17
def p_Val_take_19_19 (x1 x3 : Int32) (σ : xS) (Q : xS → Prop) : Prop :=
  (vp_in x3 640 ∧ (vp_in x3 640 ∧ p_Val_assign_19 x1 (σ 28 x3.toNatClampNeg) (σ 29 x3.toNatClampNeg) σ (fun σ3 => Q σ3)))
abbrev rm_Val_take_19_19 : Room := { frames := 1, cells := 0, slots := 0, locals := 23 }
set_option maxRecDepth 100000 in
set_option maxHeartbeats 4000000 in
theorem c_Val_take_19_19 {l : Launch} {V : xV} {σ : xS} {x1 x3 : Int32} {Q : xS → Prop} (h : p_Val_take_19_19 x1 x3 σ Q) : xMv l y_Val_take (.code y_Val_take cd_Val_take 4 none :: xG) rm_Val_take_19_19 V [.ref (V.2.2 19), .int x1, .ref (V.2.2 19), .int x3] σ Q := by
  refine x_beginv (by decide) (Nat.le_of_ble_eq_true rfl) (fun p e s m below meth c ls C hlocks hr hI hl => ?_)
  have C : xC p s m _ c cd_Val_take 4 R_Val V := C
  have hx := C.1
  have hb := C.2.1
  have hl : lv_has ls 4 [(0, .ref (V.2.2 19)), (1, .int x1), (2, .ref (V.2.2 19)), (3, .int x3)] := hl
  unfold p_Val_take_19_19 at h
  refine lv_aload_n hx hb d_Val_take_0 rfl (lv_at hl 0 rfl) ?_
  refine lv_iload_n hx hb d_Val_take_1 rfl (lv_at hl 1 rfl) ?_
  refine lv_aload_n hx hb d_Val_take_2 rfl (lv_at hl 2 rfl) ?_
  refine x_get C hI (d := 19) (by decide) (xE19 V _) fd_Val_9 rfl d_Val_take_3 ?_
  refine lv_iload_n hx hb d_Val_take_6 rfl (lv_at hl 3 rfl) ?_
  obtain ⟨i1, h⟩ := h
  refine x_iald C hI (d := 28) (by decide) (xE28 V) i1 d_Val_take_7 ?_
  refine lv_aload_n hx hb d_Val_take_8 rfl (lv_at hl 2 rfl) ?_
  refine x_get C hI (d := 19) (by decide) (xE19 V _) fd_Val_15 rfl d_Val_take_9 ?_
  refine lv_iload_n hx hb d_Val_take_12 rfl (lv_at hl 3 rfl) ?_
  obtain ⟨i2, h⟩ := h
  refine x_iald C hI (d := 29) (by decide) (xE29 V) i2 d_Val_take_13 ?_
  refine x_callv C hI hl.1 (d := 19) (As := [.int x1, .int (σ 28 x3.toNatClampNeg), .int (σ 29 x3.toNatClampNeg)]) (rest := []) (by decide) (c_Val_assign_19 h) (xE19 V _) rfl yw_Val_assign ml_Val_18 rfl rfl ⟨Nat.le_of_ble_eq_true rfl, Nat.le_of_ble_eq_true rfl⟩ rfl rfl (Nat.le_of_ble_eq_true rfl) d_Val_take_14 ⟨Nat.zero_le _, Nat.zero_le _⟩ (fun σ3 H locs h hI => ?_)
  exact x_vret C hlocks hr hI h d_Val_take_17
def y_Val_follow : MethodName := ⟨"RegionPool$Values", "follow", "([I)V"⟩
abbrev cd_Val_follow : ByteArray := prog_10_method_10_code
def b_Val_follow_5_10_L2 (K2 : Int32 → xS → Prop) (Q : xS → Prop) (x2 : Int32) (σ : xS) : Prop :=
  ((16 ≤ x2 → Q σ) ∧ (¬ 16 ≤ x2 → (vp_in x2 16 ∧ ((¬ (σ 17 x2.toNatClampNeg) = 2 → (∀ z4 : Int32, z4 = x2 + 1 → K2 z4 σ)) ∧ ((σ 17 x2.toNatClampNeg) = 2 → (vp_in x2 16 ∧ (vp_in (σ 18 x2.toNatClampNeg) 640 ∧ (vp_in x2 16 ∧ (∀ z8 : Int32, z8 = x2 + 1 → K2 z8 (xu σ 18 x2.toNatClampNeg (σ 10 (σ 18 x2.toNatClampNeg).toNatClampNeg)))))))))))
def p_Val_follow_5_10_L2 (Q : xS → Prop) (n : Nat) : Int32 → xS → Prop := Nat.rec (motive := fun _ => Int32 → xS → Prop) (fun _ _ => False) (fun _ K x2 σ => b_Val_follow_5_10_L2 K Q x2 σ) n
def p_Val_follow_5_10 (σ : xS) (Q : xS → Prop) : Prop :=
  (∃ n, p_Val_follow_5_10_L2 Q n 0 σ)
abbrev rm_Val_follow_5_10 : Room := { frames := 0, cells := 0, slots := 0, locals := 0 }
theorem d_Val_follow_0 : decode cd_Val_follow 0 = .ok (.iconst 0, 1) := by decide +kernel
theorem d_Val_follow_1 : decode cd_Val_follow 1 = .ok (.istore_n 2, 1) := by decide +kernel
theorem d_Val_follow_2 : decode cd_Val_follow 2 = .ok (.iload_n 2, 1) := by decide +kernel
theorem d_Val_follow_3 : decode cd_Val_follow 3 = .ok (.aload_n 0, 1) := by decide +kernel
theorem d_Val_follow_4 : decode cd_Val_follow 4 = .ok (.getfield 9, 3) := by decide +kernel
theorem d_Val_follow_7 : decode cd_Val_follow 7 = .ok (.arraylength, 1) := by decide +kernel
theorem d_Val_follow_8 : decode cd_Val_follow 8 = .ok (.if_icmp .ge 33, 3) := by decide +kernel
theorem d_Val_follow_11 : decode cd_Val_follow 11 = .ok (.aload_n 0, 1) := by decide +kernel
theorem d_Val_follow_12 : decode cd_Val_follow 12 = .ok (.getfield 9, 3) := by decide +kernel
theorem d_Val_follow_15 : decode cd_Val_follow 15 = .ok (.iload_n 2, 1) := by decide +kernel
theorem d_Val_follow_16 : decode cd_Val_follow 16 = .ok (.iaload, 1) := by decide +kernel
theorem d_Val_follow_17 : decode cd_Val_follow 17 = .ok (.iconst 2, 1) := by decide +kernel
theorem d_Val_follow_18 : decode cd_Val_follow 18 = .ok (.if_icmp .ne 17, 3) := by decide +kernel
theorem d_Val_follow_21 : decode cd_Val_follow 21 = .ok (.aload_n 0, 1) := by decide +kernel
theorem d_Val_follow_22 : decode cd_Val_follow 22 = .ok (.getfield 15, 3) := by decide +kernel
theorem d_Val_follow_25 : decode cd_Val_follow 25 = .ok (.iload_n 2, 1) := by decide +kernel
theorem d_Val_follow_26 : decode cd_Val_follow 26 = .ok (.aload_n 1, 1) := by decide +kernel
theorem d_Val_follow_27 : decode cd_Val_follow 27 = .ok (.aload_n 0, 1) := by decide +kernel
theorem d_Val_follow_28 : decode cd_Val_follow 28 = .ok (.getfield 15, 3) := by decide +kernel
theorem d_Val_follow_31 : decode cd_Val_follow 31 = .ok (.iload_n 2, 1) := by decide +kernel
theorem d_Val_follow_32 : decode cd_Val_follow 32 = .ok (.iaload, 1) := by decide +kernel
theorem d_Val_follow_33 : decode cd_Val_follow 33 = .ok (.iaload, 1) := by decide +kernel
theorem d_Val_follow_34 : decode cd_Val_follow 34 = .ok (.iastore, 1) := by decide +kernel
theorem d_Val_follow_35 : decode cd_Val_follow 35 = .ok (.iinc 2 1, 3) := by decide +kernel
theorem d_Val_follow_38 : decode cd_Val_follow 38 = .ok (.goto (-36), 3) := by decide +kernel
theorem d_Val_follow_41 : decode cd_Val_follow 41 = .ok (.return_, 1) := by decide +kernel
set_option maxRecDepth 100000 in
set_option maxHeartbeats 4000000 in
theorem s_Val_follow_5_10_L2 {p : Program} {l : Launch} {e : Env} {s : State} {m : MethodId} {args : Array Value} {below : List Frame} {meth : Method} {c : Code} {V : xV} (C : xC p s m args c cd_Val_follow 3 R_Val V) (hlocks : meth.locks = false) (hr : meth.sig.returnType = none) {Q : xS → Prop} {K2 : Int32 → xS → Prop} (hK2 : ∀ (x2 : Int32) (σ : xS) (H : Heap) (locs : List Loc) (ls : Array Slot), K2 x2 σ → xI V s.heap σ H locs → lv_has ls 3 [(0, .ref (V.2.2 5)), (1, .ref (V.2.2 10)), (2, .int x2)] → W p l e rm_Val_follow_5_10 s m args below meth c H locs 0 0 (xZv below V args s Q) (F0 m 2 ls [])) {x2 : Int32} {σ : xS} {H : Heap} {locs : List Loc} {ls : Array Slot} (h : b_Val_follow_5_10_L2 K2 Q x2 σ) (hI : xI V s.heap σ H locs) (hl : lv_has ls 3 [(0, .ref (V.2.2 5)), (1, .ref (V.2.2 10)), (2, .int x2)]) : W p l e rm_Val_follow_5_10 s m args below meth c H locs 0 0 (xZv below V args s Q) (F0 m 2 ls []) := by
  have hx := C.1
  have hb := C.2.1
  unfold b_Val_follow_5_10_L2 at h
  refine lv_iload_n hx hb d_Val_follow_2 rfl (lv_at hl 2 rfl) ?_
  refine lv_aload_n hx hb d_Val_follow_3 rfl (lv_at hl 0 rfl) ?_
  refine x_get C hI (d := 5) (by decide) (xE5 V _) fd_Val_9 rfl d_Val_follow_4 ?_
  refine x_alen C hI (d := 17) (k := 0) (by decide) rfl (xE17 V _) (v := 16) (by decide) d_Val_follow_7 ?_
  refine lv_icmp_ge (tgt := 41) hx hb d_Val_follow_8 (by decide) (fun c1 => ?_) (fun c1 => ?_)
  · have h := h.1 c1
    exact x_vret C hlocks hr hI h d_Val_follow_41
  · have h := h.2 c1
    refine lv_aload_n hx hb d_Val_follow_11 rfl (lv_at hl 0 rfl) ?_
    refine x_get C hI (d := 5) (by decide) (xE5 V _) fd_Val_9 rfl d_Val_follow_12 ?_
    refine lv_iload_n hx hb d_Val_follow_15 rfl (lv_at hl 2 rfl) ?_
    obtain ⟨i2, h⟩ := h
    refine x_iald C hI (d := 17) (by decide) (xE17 V) i2 d_Val_follow_16 ?_
    refine lv_iconst (v := 2) hx hb d_Val_follow_17 (by decide) ?_
    refine lv_icmp_ne (tgt := 35) hx hb d_Val_follow_18 (by decide) (fun c3 => ?_) (fun c3 => ?_)
    · have h := h.1 c3
      obtain ⟨z4, ez4⟩ : ∃ y : Int32, y = x2 + 1 := ⟨_, rfl⟩
      have h := h z4 ez4
      refine lv_iinc (v := z4) (lv' := [(2, .int z4), (0, .ref (V.2.2 5)), (1, .ref (V.2.2 10))]) hx hb d_Val_follow_35 hl (k := 2) rfl (by rw [ez4]; rfl) (by decide) rfl (fun ls hl => ?_)
      refine lv_goto (tgt := 2) hx hb d_Val_follow_38 (by decide) ?_
      exact hK2 _ _ _ _ _ h hI (lv_sub hl [1, 2, 0] rfl)
    · have h := h.2 c3
      refine lv_aload_n hx hb d_Val_follow_21 rfl (lv_at hl 0 rfl) ?_
      refine x_get C hI (d := 5) (by decide) (xE5 V _) fd_Val_15 rfl d_Val_follow_22 ?_
      refine lv_iload_n hx hb d_Val_follow_25 rfl (lv_at hl 2 rfl) ?_
      refine lv_aload_n hx hb d_Val_follow_26 rfl (lv_at hl 1 rfl) ?_
      refine lv_aload_n hx hb d_Val_follow_27 rfl (lv_at hl 0 rfl) ?_
      refine x_get C hI (d := 5) (by decide) (xE5 V _) fd_Val_15 rfl d_Val_follow_28 ?_
      refine lv_iload_n hx hb d_Val_follow_31 rfl (lv_at hl 2 rfl) ?_
      obtain ⟨i5, h⟩ := h
      refine x_iald C hI (d := 18) (by decide) (xE18 V) i5 d_Val_follow_32 ?_
      obtain ⟨i6, h⟩ := h
      refine x_iald C hI (d := 10) (by decide) (xE10 V) i6 d_Val_follow_33 ?_
      obtain ⟨i7, h⟩ := h
      refine x_iast C hI (d := 18) (by decide) (xE18 V) i7 d_Val_follow_34 (fun H locs hI => ?_)
      obtain ⟨z8, ez8⟩ : ∃ y : Int32, y = x2 + 1 := ⟨_, rfl⟩
      have h := h z8 ez8
      refine lv_iinc (v := z8) (lv' := [(2, .int z8), (0, .ref (V.2.2 5)), (1, .ref (V.2.2 10))]) hx hb d_Val_follow_35 hl (k := 2) rfl (by rw [ez8]; rfl) (by decide) rfl (fun ls hl => ?_)
      refine lv_goto (tgt := 2) hx hb d_Val_follow_38 (by decide) ?_
      exact hK2 _ _ _ _ _ h hI (lv_sub hl [1, 2, 0] rfl)
theorem w_Val_follow_5_10_L2 {p : Program} {l : Launch} {e : Env} {s : State} {m : MethodId} {args : Array Value} {below : List Frame} {meth : Method} {c : Code} {V : xV} (C : xC p s m args c cd_Val_follow 3 R_Val V) (hlocks : meth.locks = false) (hr : meth.sig.returnType = none) {Q : xS → Prop} : ∀ (n : Nat) (x2 : Int32) (σ : xS) (H : Heap) (locs : List Loc) (ls : Array Slot), p_Val_follow_5_10_L2 Q n x2 σ → xI V s.heap σ H locs → lv_has ls 3 [(0, .ref (V.2.2 5)), (1, .ref (V.2.2 10)), (2, .int x2)] → W p l e rm_Val_follow_5_10 s m args below meth c H locs 0 0 (xZv below V args s Q) (F0 m 2 ls []) := by
  intro n
  induction n with
  | zero =>
    intro x2 σ H locs ls h
    exact False.elim h
  | succ n ih =>
    intro x2 σ H locs ls h hI hl
    exact s_Val_follow_5_10_L2 C hlocks hr (K2 := p_Val_follow_5_10_L2 Q n) (fun x2 σ H locs ls h hI hl => ih x2 σ H locs ls h hI hl) h hI hl
set_option maxRecDepth 100000 in
set_option maxHeartbeats 4000000 in
theorem c_Val_follow_5_10 {l : Launch} {V : xV} {σ : xS} {Q : xS → Prop} (h : p_Val_follow_5_10 σ Q) : xMv l y_Val_follow (.code y_Val_follow cd_Val_follow 3 none :: xG) rm_Val_follow_5_10 V [.ref (V.2.2 5), .ref (V.2.2 10)] σ Q := by
  refine x_beginv (by decide) (Nat.le_of_ble_eq_true rfl) (fun p e s m below meth c ls C hlocks hr hI hl => ?_)
  have C : xC p s m _ c cd_Val_follow 3 R_Val V := C
  have hx := C.1
  have hb := C.2.1
  have hl : lv_has ls 3 [(0, .ref (V.2.2 5)), (1, .ref (V.2.2 10))] := hl
  unfold p_Val_follow_5_10 at h
  refine lv_iconst (v := 0) hx hb d_Val_follow_0 (by decide) ?_
  refine lv_istore_n (lv' := [(2, .int 0), (0, .ref (V.2.2 5)), (1, .ref (V.2.2 10))]) hx hb d_Val_follow_1 rfl hl (by decide) rfl (fun ls hl => ?_)
  obtain ⟨n, h⟩ := h
  exact w_Val_follow_5_10_L2 C hlocks hr n _ _ _ _ _ h hI (lv_sub hl [1, 2, 0] rfl)
def b_Val_follow_19_10_L2 (K2 : Int32 → xS → Prop) (Q : xS → Prop) (x2 : Int32) (σ : xS) : Prop :=
  ((640 ≤ x2 → Q σ) ∧ (¬ 640 ≤ x2 → (vp_in x2 640 ∧ ((¬ (σ 28 x2.toNatClampNeg) = 2 → (∀ z4 : Int32, z4 = x2 + 1 → K2 z4 σ)) ∧ ((σ 28 x2.toNatClampNeg) = 2 → (vp_in x2 640 ∧ (vp_in (σ 29 x2.toNatClampNeg) 640 ∧ (vp_in x2 640 ∧ (∀ z8 : Int32, z8 = x2 + 1 → K2 z8 (xu σ 29 x2.toNatClampNeg (σ 10 (σ 29 x2.toNatClampNeg).toNatClampNeg)))))))))))
def p_Val_follow_19_10_L2 (Q : xS → Prop) (n : Nat) : Int32 → xS → Prop := Nat.rec (motive := fun _ => Int32 → xS → Prop) (fun _ _ => False) (fun _ K x2 σ => b_Val_follow_19_10_L2 K Q x2 σ) n
def p_Val_follow_19_10 (σ : xS) (Q : xS → Prop) : Prop :=
  (∃ n, p_Val_follow_19_10_L2 Q n 0 σ)
abbrev rm_Val_follow_19_10 : Room := { frames := 0, cells := 0, slots := 0, locals := 0 }
set_option maxRecDepth 100000 in
set_option maxHeartbeats 4000000 in
theorem s_Val_follow_19_10_L2 {p : Program} {l : Launch} {e : Env} {s : State} {m : MethodId} {args : Array Value} {below : List Frame} {meth : Method} {c : Code} {V : xV} (C : xC p s m args c cd_Val_follow 3 R_Val V) (hlocks : meth.locks = false) (hr : meth.sig.returnType = none) {Q : xS → Prop} {K2 : Int32 → xS → Prop} (hK2 : ∀ (x2 : Int32) (σ : xS) (H : Heap) (locs : List Loc) (ls : Array Slot), K2 x2 σ → xI V s.heap σ H locs → lv_has ls 3 [(0, .ref (V.2.2 19)), (1, .ref (V.2.2 10)), (2, .int x2)] → W p l e rm_Val_follow_19_10 s m args below meth c H locs 0 0 (xZv below V args s Q) (F0 m 2 ls [])) {x2 : Int32} {σ : xS} {H : Heap} {locs : List Loc} {ls : Array Slot} (h : b_Val_follow_19_10_L2 K2 Q x2 σ) (hI : xI V s.heap σ H locs) (hl : lv_has ls 3 [(0, .ref (V.2.2 19)), (1, .ref (V.2.2 10)), (2, .int x2)]) : W p l e rm_Val_follow_19_10 s m args below meth c H locs 0 0 (xZv below V args s Q) (F0 m 2 ls []) := by
  have hx := C.1
  have hb := C.2.1
  unfold b_Val_follow_19_10_L2 at h
  refine lv_iload_n hx hb d_Val_follow_2 rfl (lv_at hl 2 rfl) ?_
  refine lv_aload_n hx hb d_Val_follow_3 rfl (lv_at hl 0 rfl) ?_
  refine x_get C hI (d := 19) (by decide) (xE19 V _) fd_Val_9 rfl d_Val_follow_4 ?_
  refine x_alen C hI (d := 28) (k := 0) (by decide) rfl (xE28 V _) (v := 640) (by decide) d_Val_follow_7 ?_
  refine lv_icmp_ge (tgt := 41) hx hb d_Val_follow_8 (by decide) (fun c1 => ?_) (fun c1 => ?_)
  · have h := h.1 c1
    exact x_vret C hlocks hr hI h d_Val_follow_41
  · have h := h.2 c1
    refine lv_aload_n hx hb d_Val_follow_11 rfl (lv_at hl 0 rfl) ?_
    refine x_get C hI (d := 19) (by decide) (xE19 V _) fd_Val_9 rfl d_Val_follow_12 ?_
    refine lv_iload_n hx hb d_Val_follow_15 rfl (lv_at hl 2 rfl) ?_
    obtain ⟨i2, h⟩ := h
    refine x_iald C hI (d := 28) (by decide) (xE28 V) i2 d_Val_follow_16 ?_
    refine lv_iconst (v := 2) hx hb d_Val_follow_17 (by decide) ?_
    refine lv_icmp_ne (tgt := 35) hx hb d_Val_follow_18 (by decide) (fun c3 => ?_) (fun c3 => ?_)
    · have h := h.1 c3
      obtain ⟨z4, ez4⟩ : ∃ y : Int32, y = x2 + 1 := ⟨_, rfl⟩
      have h := h z4 ez4
      refine lv_iinc (v := z4) (lv' := [(2, .int z4), (0, .ref (V.2.2 19)), (1, .ref (V.2.2 10))]) hx hb d_Val_follow_35 hl (k := 2) rfl (by rw [ez4]; rfl) (by decide) rfl (fun ls hl => ?_)
      refine lv_goto (tgt := 2) hx hb d_Val_follow_38 (by decide) ?_
      exact hK2 _ _ _ _ _ h hI (lv_sub hl [1, 2, 0] rfl)
    · have h := h.2 c3
      refine lv_aload_n hx hb d_Val_follow_21 rfl (lv_at hl 0 rfl) ?_
      refine x_get C hI (d := 19) (by decide) (xE19 V _) fd_Val_15 rfl d_Val_follow_22 ?_
      refine lv_iload_n hx hb d_Val_follow_25 rfl (lv_at hl 2 rfl) ?_
      refine lv_aload_n hx hb d_Val_follow_26 rfl (lv_at hl 1 rfl) ?_
      refine lv_aload_n hx hb d_Val_follow_27 rfl (lv_at hl 0 rfl) ?_
      refine x_get C hI (d := 19) (by decide) (xE19 V _) fd_Val_15 rfl d_Val_follow_28 ?_
      refine lv_iload_n hx hb d_Val_follow_31 rfl (lv_at hl 2 rfl) ?_
      obtain ⟨i5, h⟩ := h
      refine x_iald C hI (d := 29) (by decide) (xE29 V) i5 d_Val_follow_32 ?_
      obtain ⟨i6, h⟩ := h
      refine x_iald C hI (d := 10) (by decide) (xE10 V) i6 d_Val_follow_33 ?_
      obtain ⟨i7, h⟩ := h
      refine x_iast C hI (d := 29) (by decide) (xE29 V) i7 d_Val_follow_34 (fun H locs hI => ?_)
      obtain ⟨z8, ez8⟩ : ∃ y : Int32, y = x2 + 1 := ⟨_, rfl⟩
      have h := h z8 ez8
      refine lv_iinc (v := z8) (lv' := [(2, .int z8), (0, .ref (V.2.2 19)), (1, .ref (V.2.2 10))]) hx hb d_Val_follow_35 hl (k := 2) rfl (by rw [ez8]; rfl) (by decide) rfl (fun ls hl => ?_)
      refine lv_goto (tgt := 2) hx hb d_Val_follow_38 (by decide) ?_
      exact hK2 _ _ _ _ _ h hI (lv_sub hl [1, 2, 0] rfl)
theorem w_Val_follow_19_10_L2 {p : Program} {l : Launch} {e : Env} {s : State} {m : MethodId} {args : Array Value} {below : List Frame} {meth : Method} {c : Code} {V : xV} (C : xC p s m args c cd_Val_follow 3 R_Val V) (hlocks : meth.locks = false) (hr : meth.sig.returnType = none) {Q : xS → Prop} : ∀ (n : Nat) (x2 : Int32) (σ : xS) (H : Heap) (locs : List Loc) (ls : Array Slot), p_Val_follow_19_10_L2 Q n x2 σ → xI V s.heap σ H locs → lv_has ls 3 [(0, .ref (V.2.2 19)), (1, .ref (V.2.2 10)), (2, .int x2)] → W p l e rm_Val_follow_19_10 s m args below meth c H locs 0 0 (xZv below V args s Q) (F0 m 2 ls []) := by
  intro n
  induction n with
  | zero =>
    intro x2 σ H locs ls h
    exact False.elim h
  | succ n ih =>
    intro x2 σ H locs ls h hI hl
    exact s_Val_follow_19_10_L2 C hlocks hr (K2 := p_Val_follow_19_10_L2 Q n) (fun x2 σ H locs ls h hI hl => ih x2 σ H locs ls h hI hl) h hI hl
set_option maxRecDepth 100000 in
set_option maxHeartbeats 4000000 in
theorem c_Val_follow_19_10 {l : Launch} {V : xV} {σ : xS} {Q : xS → Prop} (h : p_Val_follow_19_10 σ Q) : xMv l y_Val_follow (.code y_Val_follow cd_Val_follow 3 none :: xG) rm_Val_follow_19_10 V [.ref (V.2.2 19), .ref (V.2.2 10)] σ Q := by
  refine x_beginv (by decide) (Nat.le_of_ble_eq_true rfl) (fun p e s m below meth c ls C hlocks hr hI hl => ?_)
  have C : xC p s m _ c cd_Val_follow 3 R_Val V := C
  have hx := C.1
  have hb := C.2.1
  have hl : lv_has ls 3 [(0, .ref (V.2.2 19)), (1, .ref (V.2.2 10))] := hl
  unfold p_Val_follow_19_10 at h
  refine lv_iconst (v := 0) hx hb d_Val_follow_0 (by decide) ?_
  refine lv_istore_n (lv' := [(2, .int 0), (0, .ref (V.2.2 19)), (1, .ref (V.2.2 10))]) hx hb d_Val_follow_1 rfl hl (by decide) rfl (fun ls hl => ?_)
  obtain ⟨n, h⟩ := h
  exact w_Val_follow_19_10_L2 C hlocks hr n _ _ _ _ _ h hI (lv_sub hl [1, 2, 0] rfl)
