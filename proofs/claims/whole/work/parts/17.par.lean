def y_Par_amount : MethodName := ⟨"RegionPool$Parts", "amount", "()I"⟩
abbrev cd_Par_amount : ByteArray := prog_8_method_2_code
theorem fd_Par_23 : xFd R_Par 23 3 3 := ⟨R_Par, T_Par, 4, rfl, in_Par, by decide, xG_mem 246 (by decide +kernel) (by decide +kernel)⟩
def p_Par_amount (σ : xS) (Q : Int32 → xS → Prop) : Prop :=
  Q (σ 3 3) σ
abbrev rm_Par_amount : Room := { frames := 0, cells := 0, slots := 0, locals := 0 }
theorem d_Par_amount_0 : decode cd_Par_amount 0 = .ok (.aload_n 0, 1) := by decide +kernel
theorem d_Par_amount_1 : decode cd_Par_amount 1 = .ok (.getfield 23, 3) := by decide +kernel
theorem d_Par_amount_4 : decode cd_Par_amount 4 = .ok (.ireturn, 1) := by decide +kernel
set_option maxRecDepth 100000 in
set_option maxHeartbeats 4000000 in
theorem c_Par_amount {l : Launch} {V : xV} {σ : xS} {Q : Int32 → xS → Prop} (h : p_Par_amount σ Q) : xMi l y_Par_amount (.code y_Par_amount cd_Par_amount 1 (some .int) :: xG) rm_Par_amount V [.ref (V.2.2 3)] σ Q := by
  refine x_begini (by decide) (Nat.le_of_ble_eq_true rfl) (fun p e s m below meth c ls C hlocks hr hI hl => ?_)
  have C : xC p s m _ c cd_Par_amount 1 R_Par V := C
  have hx := C.1
  have hb := C.2.1
  have hl : lv_has ls 1 [(0, .ref (V.2.2 3))] := hl
  unfold p_Par_amount at h
  refine lv_aload_n hx hb d_Par_amount_0 rfl (lv_at hl 0 rfl) ?_
  refine x_get C hI (d := 3) (by decide) (xE3 V _) fd_Par_23 rfl d_Par_amount_1 ?_
  exact x_iret C hlocks hr hI h d_Par_amount_4
def y_Par_find : MethodName := ⟨"RegionPool$Parts", "find", "(II)V"⟩
abbrev cd_Par_find : ByteArray := prog_8_method_3_code
theorem fw_Par_23 : xFw R_Par 23 3 3 := ⟨R_Par, T_Par, 4, t_Par, rfl, in_Par, by decide, xG_mem 246 (by decide +kernel) (by decide +kernel), tk_Par, nm_Par, rfl, by decide +kernel⟩
theorem xP_3_3 (V : xV) (f : Nat → Int32) (x : Int32) : xE V 3 (upd f 3 x) = .inr (3, [.ref (V.2.2 1), .ref (V.2.2 12), .ref (V.2.2 13), .int (f 3)].set 3 (.int x)) := rfl
theorem fd_Par_9 : xFd R_Par 9 3 0 := ⟨R_Par, T_Par, 4, rfl, in_Par, by decide, xG_mem 243 (by decide +kernel) (by decide +kernel)⟩
theorem fd_Par_27 : xFd R_Par 27 1 0 := ⟨R_Mem, T_Mem, 6, rfl, in_Mem, by decide, xG_mem 161 (by decide +kernel) (by decide +kernel)⟩
def y_Par_addIfPart : MethodName := ⟨"RegionPool$Parts", "addIfPart", "(LRegionPool$Values;II)V"⟩
abbrev cd_Par_addIfPart : ByteArray := prog_8_method_8_code
theorem ml_Par_93 : Cond.methodLink R_Par 93 y_Mem_refersBeyond ∈ xG := xG_mem 829 (by decide +kernel) (by decide +kernel)
theorem fd_Par_19 : xFd R_Par 19 3 2 := ⟨R_Par, T_Par, 4, rfl, in_Par, by decide, xG_mem 245 (by decide +kernel) (by decide +kernel)⟩
theorem ml_Par_97 : Cond.methodLink R_Par 97 y_Val_contentOf ∈ xG := xG_mem 830 (by decide +kernel) (by decide +kernel)
theorem fd_Par_15 : xFd R_Par 15 3 1 := ⟨R_Par, T_Par, 4, rfl, in_Par, by decide, xG_mem 244 (by decide +kernel) (by decide +kernel)⟩
def p_Par_addIfPart_3_5 (x2 x3 : Int32) (σ : xS) (Q : xS → Prop) : Prop :=
  p_Mem_refersBeyond_1_5 x2 x3 σ (fun r2 σ1 => ((r2 = 0 → Q σ1) ∧ (¬ r2 = 0 → p_Val_contentOf_5 x2 σ1 (fun r5 σ4 => (vp_in r5 640 ∧ ((¬ (σ4 13 r5.toNatClampNeg) = 0 → Q σ4) ∧ ((σ4 13 r5.toNatClampNeg) = 0 → p_Val_contentOf_5 x2 σ4 (fun r9 σ8 => (vp_in (σ4 3 3) 640 ∧ (vp_in ((xu σ8 12 (σ4 3 3).toNatClampNeg r9) 3 3) 640 ∧ (vp_in ((xu σ8 12 (σ4 3 3).toNatClampNeg r9) 12 ((xu σ8 12 (σ4 3 3).toNatClampNeg r9) 3 3).toNatClampNeg) 640 ∧ Q (xu (xu (xu σ8 12 (σ4 3 3).toNatClampNeg r9) 13 ((xu σ8 12 (σ4 3 3).toNatClampNeg r9) 12 ((xu σ8 12 (σ4 3 3).toNatClampNeg r9) 3 3).toNatClampNeg).toNatClampNeg (vp_nar .boolean 1)) 3 3 (((xu (xu σ8 12 (σ4 3 3).toNatClampNeg r9) 13 ((xu σ8 12 (σ4 3 3).toNatClampNeg r9) 12 ((xu σ8 12 (σ4 3 3).toNatClampNeg r9) 3 3).toNatClampNeg).toNatClampNeg (vp_nar .boolean 1)) 3 3) + 1)))))))))))))
abbrev rm_Par_addIfPart_3_5 : Room := { frames := 2, cells := 0, slots := 0, locals := 44 }
theorem d_Par_addIfPart_0 : decode cd_Par_addIfPart 0 = .ok (.aload_n 0, 1) := by decide +kernel
theorem d_Par_addIfPart_1 : decode cd_Par_addIfPart 1 = .ok (.getfield 9, 3) := by decide +kernel
theorem d_Par_addIfPart_4 : decode cd_Par_addIfPart 4 = .ok (.aload_n 1, 1) := by decide +kernel
theorem d_Par_addIfPart_5 : decode cd_Par_addIfPart 5 = .ok (.iload_n 2, 1) := by decide +kernel
theorem d_Par_addIfPart_6 : decode cd_Par_addIfPart 6 = .ok (.iload_n 3, 1) := by decide +kernel
theorem d_Par_addIfPart_7 : decode cd_Par_addIfPart 7 = .ok (.invokevirtual 93, 3) := by decide +kernel
theorem d_Par_addIfPart_10 : decode cd_Par_addIfPart 10 = .ok (.ifCond .eq 55, 3) := by decide +kernel
theorem d_Par_addIfPart_13 : decode cd_Par_addIfPart 13 = .ok (.aload_n 0, 1) := by decide +kernel
theorem d_Par_addIfPart_14 : decode cd_Par_addIfPart 14 = .ok (.getfield 19, 3) := by decide +kernel
theorem d_Par_addIfPart_17 : decode cd_Par_addIfPart 17 = .ok (.aload_n 1, 1) := by decide +kernel
theorem d_Par_addIfPart_18 : decode cd_Par_addIfPart 18 = .ok (.iload_n 2, 1) := by decide +kernel
theorem d_Par_addIfPart_19 : decode cd_Par_addIfPart 19 = .ok (.invokevirtual 97, 3) := by decide +kernel
theorem d_Par_addIfPart_22 : decode cd_Par_addIfPart 22 = .ok (.baload, 1) := by decide +kernel
theorem d_Par_addIfPart_23 : decode cd_Par_addIfPart 23 = .ok (.ifCond .ne 42, 3) := by decide +kernel
theorem d_Par_addIfPart_26 : decode cd_Par_addIfPart 26 = .ok (.aload_n 0, 1) := by decide +kernel
theorem d_Par_addIfPart_27 : decode cd_Par_addIfPart 27 = .ok (.getfield 15, 3) := by decide +kernel
theorem d_Par_addIfPart_30 : decode cd_Par_addIfPart 30 = .ok (.aload_n 0, 1) := by decide +kernel
theorem d_Par_addIfPart_31 : decode cd_Par_addIfPart 31 = .ok (.getfield 23, 3) := by decide +kernel
theorem d_Par_addIfPart_34 : decode cd_Par_addIfPart 34 = .ok (.aload_n 1, 1) := by decide +kernel
theorem d_Par_addIfPart_35 : decode cd_Par_addIfPart 35 = .ok (.iload_n 2, 1) := by decide +kernel
theorem d_Par_addIfPart_36 : decode cd_Par_addIfPart 36 = .ok (.invokevirtual 97, 3) := by decide +kernel
theorem d_Par_addIfPart_39 : decode cd_Par_addIfPart 39 = .ok (.iastore, 1) := by decide +kernel
theorem d_Par_addIfPart_40 : decode cd_Par_addIfPart 40 = .ok (.aload_n 0, 1) := by decide +kernel
theorem d_Par_addIfPart_41 : decode cd_Par_addIfPart 41 = .ok (.getfield 19, 3) := by decide +kernel
theorem d_Par_addIfPart_44 : decode cd_Par_addIfPart 44 = .ok (.aload_n 0, 1) := by decide +kernel
theorem d_Par_addIfPart_45 : decode cd_Par_addIfPart 45 = .ok (.getfield 15, 3) := by decide +kernel
theorem d_Par_addIfPart_48 : decode cd_Par_addIfPart 48 = .ok (.aload_n 0, 1) := by decide +kernel
theorem d_Par_addIfPart_49 : decode cd_Par_addIfPart 49 = .ok (.getfield 23, 3) := by decide +kernel
theorem d_Par_addIfPart_52 : decode cd_Par_addIfPart 52 = .ok (.iaload, 1) := by decide +kernel
theorem d_Par_addIfPart_53 : decode cd_Par_addIfPart 53 = .ok (.iconst 1, 1) := by decide +kernel
theorem d_Par_addIfPart_54 : decode cd_Par_addIfPart 54 = .ok (.bastore, 1) := by decide +kernel
theorem d_Par_addIfPart_55 : decode cd_Par_addIfPart 55 = .ok (.aload_n 0, 1) := by decide +kernel
theorem d_Par_addIfPart_56 : decode cd_Par_addIfPart 56 = .ok (.dup, 1) := by decide +kernel
theorem d_Par_addIfPart_57 : decode cd_Par_addIfPart 57 = .ok (.getfield 23, 3) := by decide +kernel
theorem d_Par_addIfPart_60 : decode cd_Par_addIfPart 60 = .ok (.iconst 1, 1) := by decide +kernel
theorem d_Par_addIfPart_61 : decode cd_Par_addIfPart 61 = .ok (.iadd, 1) := by decide +kernel
theorem d_Par_addIfPart_62 : decode cd_Par_addIfPart 62 = .ok (.putfield 23, 3) := by decide +kernel
theorem d_Par_addIfPart_65 : decode cd_Par_addIfPart 65 = .ok (.return_, 1) := by decide +kernel
set_option maxRecDepth 100000 in
set_option maxHeartbeats 4000000 in
theorem c_Par_addIfPart_3_5 {l : Launch} {V : xV} {σ : xS} {x2 x3 : Int32} {Q : xS → Prop} (h : p_Par_addIfPart_3_5 x2 x3 σ Q) : xMv l y_Par_addIfPart (.code y_Par_addIfPart cd_Par_addIfPart 4 none :: xG) rm_Par_addIfPart_3_5 V [.ref (V.2.2 3), .ref (V.2.2 5), .int x2, .int x3] σ Q := by
  refine x_beginv (by decide) (Nat.le_of_ble_eq_true rfl) (fun p e s m below meth c ls C hlocks hr hI hl => ?_)
  have C : xC p s m _ c cd_Par_addIfPart 4 R_Par V := C
  have hx := C.1
  have hb := C.2.1
  have hl : lv_has ls 4 [(0, .ref (V.2.2 3)), (1, .ref (V.2.2 5)), (2, .int x2), (3, .int x3)] := hl
  unfold p_Par_addIfPart_3_5 at h
  refine lv_aload_n hx hb d_Par_addIfPart_0 rfl (lv_at hl 0 rfl) ?_
  refine x_get C hI (d := 3) (by decide) (xE3 V _) fd_Par_9 rfl d_Par_addIfPart_1 ?_
  refine lv_aload_n hx hb d_Par_addIfPart_4 rfl (lv_at hl 1 rfl) ?_
  refine lv_iload_n hx hb d_Par_addIfPart_5 rfl (lv_at hl 2 rfl) ?_
  refine lv_iload_n hx hb d_Par_addIfPart_6 rfl (lv_at hl 3 rfl) ?_
  refine x_calli C hI hl.1 (d := 1) (As := [.ref (V.2.2 5), .int x2, .int x3]) (rest := []) (by decide) (c_Mem_refersBeyond_1_5 h) (xE1 V _) rfl yw_Mem_refersBeyond ml_Par_93 rfl rfl ⟨Nat.le_of_ble_eq_true rfl, Nat.le_of_ble_eq_true rfl⟩ rfl rfl (Nat.le_of_ble_eq_true rfl) d_Par_addIfPart_7 ⟨Nat.zero_le _, Nat.zero_le _⟩ (fun r2 σ1 H locs h hI => ?_)
  refine lv_if_eq (tgt := 65) hx hb d_Par_addIfPart_10 (by decide) (fun c3 => ?_) (fun c3 => ?_)
  · have h := h.1 c3
    exact x_vret C hlocks hr hI h d_Par_addIfPart_65
  · have h := h.2 c3
    refine lv_aload_n hx hb d_Par_addIfPart_13 rfl (lv_at hl 0 rfl) ?_
    refine x_get C hI (d := 3) (by decide) (xE3 V _) fd_Par_19 rfl d_Par_addIfPart_14 ?_
    refine lv_aload_n hx hb d_Par_addIfPart_17 rfl (lv_at hl 1 rfl) ?_
    refine lv_iload_n hx hb d_Par_addIfPart_18 rfl (lv_at hl 2 rfl) ?_
    refine x_calli C hI hl.1 (d := 5) (As := [.int x2]) (rest := [.ref (V.2.2 13)]) (by decide) (c_Val_contentOf_5 h) (xE5 V _) rfl yw_Val_contentOf ml_Par_97 rfl rfl ⟨Nat.le_of_ble_eq_true rfl, Nat.le_of_ble_eq_true rfl⟩ rfl rfl (Nat.le_of_ble_eq_true rfl) d_Par_addIfPart_19 ⟨Nat.zero_le _, Nat.zero_le _⟩ (fun r5 σ4 H locs h hI => ?_)
    obtain ⟨i6, h⟩ := h
    refine x_zald C hI (d := 13) (by decide) (xE13 V) i6 d_Par_addIfPart_22 ?_
    refine lv_if_ne (tgt := 65) hx hb d_Par_addIfPart_23 (by decide) (fun c7 => ?_) (fun c7 => ?_)
    · have h := h.1 c7
      exact x_vret C hlocks hr hI h d_Par_addIfPart_65
    · have h := h.2 c7
      refine lv_aload_n hx hb d_Par_addIfPart_26 rfl (lv_at hl 0 rfl) ?_
      refine x_get C hI (d := 3) (by decide) (xE3 V _) fd_Par_15 rfl d_Par_addIfPart_27 ?_
      refine lv_aload_n hx hb d_Par_addIfPart_30 rfl (lv_at hl 0 rfl) ?_
      refine x_get C hI (d := 3) (by decide) (xE3 V _) fd_Par_23 rfl d_Par_addIfPart_31 ?_
      refine lv_aload_n hx hb d_Par_addIfPart_34 rfl (lv_at hl 1 rfl) ?_
      refine lv_iload_n hx hb d_Par_addIfPart_35 rfl (lv_at hl 2 rfl) ?_
      refine x_calli C hI hl.1 (d := 5) (As := [.int x2]) (rest := [.int (σ4 3 3), .ref (V.2.2 12)]) (by decide) (c_Val_contentOf_5 h) (xE5 V _) rfl yw_Val_contentOf ml_Par_97 rfl rfl ⟨Nat.le_of_ble_eq_true rfl, Nat.le_of_ble_eq_true rfl⟩ rfl rfl (Nat.le_of_ble_eq_true rfl) d_Par_addIfPart_36 ⟨Nat.zero_le _, Nat.zero_le _⟩ (fun r9 σ8 H locs h hI => ?_)
      obtain ⟨i10, h⟩ := h
      refine x_iast C hI (d := 12) (by decide) (xE12 V) i10 d_Par_addIfPart_39 (fun H locs hI => ?_)
      refine lv_aload_n hx hb d_Par_addIfPart_40 rfl (lv_at hl 0 rfl) ?_
      refine x_get C hI (d := 3) (by decide) (xE3 V _) fd_Par_19 rfl d_Par_addIfPart_41 ?_
      refine lv_aload_n hx hb d_Par_addIfPart_44 rfl (lv_at hl 0 rfl) ?_
      refine x_get C hI (d := 3) (by decide) (xE3 V _) fd_Par_15 rfl d_Par_addIfPart_45 ?_
      refine lv_aload_n hx hb d_Par_addIfPart_48 rfl (lv_at hl 0 rfl) ?_
      refine x_get C hI (d := 3) (by decide) (xE3 V _) fd_Par_23 rfl d_Par_addIfPart_49 ?_
      obtain ⟨i11, h⟩ := h
      refine x_iald C hI (d := 12) (by decide) (xE12 V) i11 d_Par_addIfPart_52 ?_
      refine lv_iconst (v := 1) hx hb d_Par_addIfPart_53 (by decide) ?_
      obtain ⟨i12, h⟩ := h
      refine x_zast C hI (d := 13) (by decide) (xE13 V) i12 d_Par_addIfPart_54 (fun H locs hI => ?_)
      refine lv_aload_n hx hb d_Par_addIfPart_55 rfl (lv_at hl 0 rfl) ?_
      refine lv_dup hx hb d_Par_addIfPart_56 rfl ?_
      refine x_get C hI (d := 3) (by decide) (xE3 V _) fd_Par_23 rfl d_Par_addIfPart_57 ?_
      refine lv_iconst (v := 1) hx hb d_Par_addIfPart_60 (by decide) ?_
      refine lv_iadd hx hb d_Par_addIfPart_61 ?_
      refine x_put C hI (d := 3) (by decide) (xE3 V _) (xP_3_3 V _ _) fw_Par_23 (Nat.le_of_ble_eq_true rfl) d_Par_addIfPart_62 (fun H locs hI => ?_)
      exact x_vret C hlocks hr hI h d_Par_addIfPart_65
theorem yw_Par_addIfPart : xY y_Par_addIfPart cd_Par_addIfPart 4 none 3 := ⟨xG_mem 827 (by decide +kernel) (by decide +kernel), xG_mem 21 (by decide +kernel) (by decide +kernel), xG_mem 63 (by decide +kernel) (by decide +kernel), xG_mem 828 (by decide +kernel) (by decide +kernel), by decide, by decide, by decide +kernel⟩
theorem ml_Par_33 : Cond.methodLink R_Par 33 y_Par_addIfPart ∈ xG := xG_mem 825 (by decide +kernel) (by decide +kernel)
def y_Par_addFieldsOf : MethodName := ⟨"RegionPool$Parts", "addFieldsOf", "(II)V"⟩
abbrev cd_Par_addFieldsOf : ByteArray := prog_8_method_9_code
theorem fd_Par_55 : xFd R_Par 55 1 1 := ⟨R_Mem, T_Mem, 6, rfl, in_Mem, by decide, xG_mem 167 (by decide +kernel) (by decide +kernel)⟩
theorem ml_Par_102 : Cond.methodLink R_Par 102 y_Hea_fieldsOf ∈ xG := xG_mem 835 (by decide +kernel) (by decide +kernel)
theorem fd_Par_105 : xFd R_Par 105 6 0 := ⟨R_Hea, T_Hea, 1, rfl, in_Hea, by decide, xG_mem 116 (by decide +kernel) (by decide +kernel)⟩
def p_Par_addIfPart_3_19 (x2 x3 : Int32) (σ : xS) (Q : xS → Prop) : Prop :=
  p_Mem_refersBeyond_1_19 x2 x3 σ (fun r2 σ1 => ((r2 = 0 → Q σ1) ∧ (¬ r2 = 0 → p_Val_contentOf_19 x2 σ1 (fun r5 σ4 => (vp_in r5 640 ∧ ((¬ (σ4 13 r5.toNatClampNeg) = 0 → Q σ4) ∧ ((σ4 13 r5.toNatClampNeg) = 0 → p_Val_contentOf_19 x2 σ4 (fun r9 σ8 => (vp_in (σ4 3 3) 640 ∧ (vp_in ((xu σ8 12 (σ4 3 3).toNatClampNeg r9) 3 3) 640 ∧ (vp_in ((xu σ8 12 (σ4 3 3).toNatClampNeg r9) 12 ((xu σ8 12 (σ4 3 3).toNatClampNeg r9) 3 3).toNatClampNeg) 640 ∧ Q (xu (xu (xu σ8 12 (σ4 3 3).toNatClampNeg r9) 13 ((xu σ8 12 (σ4 3 3).toNatClampNeg r9) 12 ((xu σ8 12 (σ4 3 3).toNatClampNeg r9) 3 3).toNatClampNeg).toNatClampNeg (vp_nar .boolean 1)) 3 3 (((xu (xu σ8 12 (σ4 3 3).toNatClampNeg r9) 13 ((xu σ8 12 (σ4 3 3).toNatClampNeg r9) 12 ((xu σ8 12 (σ4 3 3).toNatClampNeg r9) 3 3).toNatClampNeg).toNatClampNeg (vp_nar .boolean 1)) 3 3) + 1)))))))))))))
abbrev rm_Par_addIfPart_3_19 : Room := { frames := 2, cells := 0, slots := 0, locals := 44 }
set_option maxRecDepth 100000 in
set_option maxHeartbeats 4000000 in
theorem c_Par_addIfPart_3_19 {l : Launch} {V : xV} {σ : xS} {x2 x3 : Int32} {Q : xS → Prop} (h : p_Par_addIfPart_3_19 x2 x3 σ Q) : xMv l y_Par_addIfPart (.code y_Par_addIfPart cd_Par_addIfPart 4 none :: xG) rm_Par_addIfPart_3_19 V [.ref (V.2.2 3), .ref (V.2.2 19), .int x2, .int x3] σ Q := by
  refine x_beginv (by decide) (Nat.le_of_ble_eq_true rfl) (fun p e s m below meth c ls C hlocks hr hI hl => ?_)
  have C : xC p s m _ c cd_Par_addIfPart 4 R_Par V := C
  have hx := C.1
  have hb := C.2.1
  have hl : lv_has ls 4 [(0, .ref (V.2.2 3)), (1, .ref (V.2.2 19)), (2, .int x2), (3, .int x3)] := hl
  unfold p_Par_addIfPart_3_19 at h
  refine lv_aload_n hx hb d_Par_addIfPart_0 rfl (lv_at hl 0 rfl) ?_
  refine x_get C hI (d := 3) (by decide) (xE3 V _) fd_Par_9 rfl d_Par_addIfPart_1 ?_
  refine lv_aload_n hx hb d_Par_addIfPart_4 rfl (lv_at hl 1 rfl) ?_
  refine lv_iload_n hx hb d_Par_addIfPart_5 rfl (lv_at hl 2 rfl) ?_
  refine lv_iload_n hx hb d_Par_addIfPart_6 rfl (lv_at hl 3 rfl) ?_
  refine x_calli C hI hl.1 (d := 1) (As := [.ref (V.2.2 19), .int x2, .int x3]) (rest := []) (by decide) (c_Mem_refersBeyond_1_19 h) (xE1 V _) rfl yw_Mem_refersBeyond ml_Par_93 rfl rfl ⟨Nat.le_of_ble_eq_true rfl, Nat.le_of_ble_eq_true rfl⟩ rfl rfl (Nat.le_of_ble_eq_true rfl) d_Par_addIfPart_7 ⟨Nat.zero_le _, Nat.zero_le _⟩ (fun r2 σ1 H locs h hI => ?_)
  refine lv_if_eq (tgt := 65) hx hb d_Par_addIfPart_10 (by decide) (fun c3 => ?_) (fun c3 => ?_)
  · have h := h.1 c3
    exact x_vret C hlocks hr hI h d_Par_addIfPart_65
  · have h := h.2 c3
    refine lv_aload_n hx hb d_Par_addIfPart_13 rfl (lv_at hl 0 rfl) ?_
    refine x_get C hI (d := 3) (by decide) (xE3 V _) fd_Par_19 rfl d_Par_addIfPart_14 ?_
    refine lv_aload_n hx hb d_Par_addIfPart_17 rfl (lv_at hl 1 rfl) ?_
    refine lv_iload_n hx hb d_Par_addIfPart_18 rfl (lv_at hl 2 rfl) ?_
    refine x_calli C hI hl.1 (d := 19) (As := [.int x2]) (rest := [.ref (V.2.2 13)]) (by decide) (c_Val_contentOf_19 h) (xE19 V _) rfl yw_Val_contentOf ml_Par_97 rfl rfl ⟨Nat.le_of_ble_eq_true rfl, Nat.le_of_ble_eq_true rfl⟩ rfl rfl (Nat.le_of_ble_eq_true rfl) d_Par_addIfPart_19 ⟨Nat.zero_le _, Nat.zero_le _⟩ (fun r5 σ4 H locs h hI => ?_)
    obtain ⟨i6, h⟩ := h
    refine x_zald C hI (d := 13) (by decide) (xE13 V) i6 d_Par_addIfPart_22 ?_
    refine lv_if_ne (tgt := 65) hx hb d_Par_addIfPart_23 (by decide) (fun c7 => ?_) (fun c7 => ?_)
    · have h := h.1 c7
      exact x_vret C hlocks hr hI h d_Par_addIfPart_65
    · have h := h.2 c7
      refine lv_aload_n hx hb d_Par_addIfPart_26 rfl (lv_at hl 0 rfl) ?_
      refine x_get C hI (d := 3) (by decide) (xE3 V _) fd_Par_15 rfl d_Par_addIfPart_27 ?_
      refine lv_aload_n hx hb d_Par_addIfPart_30 rfl (lv_at hl 0 rfl) ?_
      refine x_get C hI (d := 3) (by decide) (xE3 V _) fd_Par_23 rfl d_Par_addIfPart_31 ?_
      refine lv_aload_n hx hb d_Par_addIfPart_34 rfl (lv_at hl 1 rfl) ?_
      refine lv_iload_n hx hb d_Par_addIfPart_35 rfl (lv_at hl 2 rfl) ?_
      refine x_calli C hI hl.1 (d := 19) (As := [.int x2]) (rest := [.int (σ4 3 3), .ref (V.2.2 12)]) (by decide) (c_Val_contentOf_19 h) (xE19 V _) rfl yw_Val_contentOf ml_Par_97 rfl rfl ⟨Nat.le_of_ble_eq_true rfl, Nat.le_of_ble_eq_true rfl⟩ rfl rfl (Nat.le_of_ble_eq_true rfl) d_Par_addIfPart_36 ⟨Nat.zero_le _, Nat.zero_le _⟩ (fun r9 σ8 H locs h hI => ?_)
      obtain ⟨i10, h⟩ := h
      refine x_iast C hI (d := 12) (by decide) (xE12 V) i10 d_Par_addIfPart_39 (fun H locs hI => ?_)
      refine lv_aload_n hx hb d_Par_addIfPart_40 rfl (lv_at hl 0 rfl) ?_
      refine x_get C hI (d := 3) (by decide) (xE3 V _) fd_Par_19 rfl d_Par_addIfPart_41 ?_
      refine lv_aload_n hx hb d_Par_addIfPart_44 rfl (lv_at hl 0 rfl) ?_
      refine x_get C hI (d := 3) (by decide) (xE3 V _) fd_Par_15 rfl d_Par_addIfPart_45 ?_
      refine lv_aload_n hx hb d_Par_addIfPart_48 rfl (lv_at hl 0 rfl) ?_
      refine x_get C hI (d := 3) (by decide) (xE3 V _) fd_Par_23 rfl d_Par_addIfPart_49 ?_
      obtain ⟨i11, h⟩ := h
      refine x_iald C hI (d := 12) (by decide) (xE12 V) i11 d_Par_addIfPart_52 ?_
      refine lv_iconst (v := 1) hx hb d_Par_addIfPart_53 (by decide) ?_
      obtain ⟨i12, h⟩ := h
      refine x_zast C hI (d := 13) (by decide) (xE13 V) i12 d_Par_addIfPart_54 (fun H locs hI => ?_)
      refine lv_aload_n hx hb d_Par_addIfPart_55 rfl (lv_at hl 0 rfl) ?_
      refine lv_dup hx hb d_Par_addIfPart_56 rfl ?_
      refine x_get C hI (d := 3) (by decide) (xE3 V _) fd_Par_23 rfl d_Par_addIfPart_57 ?_
      refine lv_iconst (v := 1) hx hb d_Par_addIfPart_60 (by decide) ?_
      refine lv_iadd hx hb d_Par_addIfPart_61 ?_
      refine x_put C hI (d := 3) (by decide) (xE3 V _) (xP_3_3 V _ _) fw_Par_23 (Nat.le_of_ble_eq_true rfl) d_Par_addIfPart_62 (fun H locs hI => ?_)
      exact x_vret C hlocks hr hI h d_Par_addIfPart_65
def b_Par_addFieldsOf_L15 (K15 : Int32 → Int32 → Int32 → Int32 → xS → Prop) (Q : xS → Prop) (x1 x2 x3 x4 : Int32) (σ : xS) : Prop :=
  ((x3 ≤ x4 → Q σ) ∧ (¬ x3 ≤ x4 → p_Par_addIfPart_3_19 ((x1 + 1) + x4) x2 σ (fun σ4 => (∀ z5 : Int32, z5 = x4 + 1 → K15 x1 x2 x3 z5 σ4))))
def p_Par_addFieldsOf_L15 (Q : xS → Prop) (n : Nat) : Int32 → Int32 → Int32 → Int32 → xS → Prop := Nat.rec (motive := fun _ => Int32 → Int32 → Int32 → Int32 → xS → Prop) (fun _ _ _ _ _ => False) (fun _ K x1 x2 x3 x4 σ => b_Par_addFieldsOf_L15 K Q x1 x2 x3 x4 σ) n
def p_Par_addFieldsOf (x1 x2 : Int32) (σ : xS) (Q : xS → Prop) : Prop :=
  p_Hea_fieldsOf x1 σ (fun r2 σ1 => (∃ n, p_Par_addFieldsOf_L15 Q n x1 x2 r2 0 σ1))
abbrev rm_Par_addFieldsOf : Room := { frames := 3, cells := 0, slots := 0, locals := 67 }
theorem d_Par_addFieldsOf_0 : decode cd_Par_addFieldsOf 0 = .ok (.aload_n 0, 1) := by decide +kernel
theorem d_Par_addFieldsOf_1 : decode cd_Par_addFieldsOf 1 = .ok (.getfield 9, 3) := by decide +kernel
theorem d_Par_addFieldsOf_4 : decode cd_Par_addFieldsOf 4 = .ok (.getfield 55, 3) := by decide +kernel
theorem d_Par_addFieldsOf_7 : decode cd_Par_addFieldsOf 7 = .ok (.iload_n 1, 1) := by decide +kernel
theorem d_Par_addFieldsOf_8 : decode cd_Par_addFieldsOf 8 = .ok (.invokevirtual 102, 3) := by decide +kernel
theorem d_Par_addFieldsOf_11 : decode cd_Par_addFieldsOf 11 = .ok (.istore_n 3, 1) := by decide +kernel
theorem d_Par_addFieldsOf_12 : decode cd_Par_addFieldsOf 12 = .ok (.iconst 0, 1) := by decide +kernel
theorem d_Par_addFieldsOf_13 : decode cd_Par_addFieldsOf 13 = .ok (.istore 4, 2) := by decide +kernel
theorem d_Par_addFieldsOf_15 : decode cd_Par_addFieldsOf 15 = .ok (.iload 4, 2) := by decide +kernel
theorem d_Par_addFieldsOf_17 : decode cd_Par_addFieldsOf 17 = .ok (.iload_n 3, 1) := by decide +kernel
theorem d_Par_addFieldsOf_18 : decode cd_Par_addFieldsOf 18 = .ok (.if_icmp .ge 30, 3) := by decide +kernel
theorem d_Par_addFieldsOf_21 : decode cd_Par_addFieldsOf 21 = .ok (.aload_n 0, 1) := by decide +kernel
theorem d_Par_addFieldsOf_22 : decode cd_Par_addFieldsOf 22 = .ok (.aload_n 0, 1) := by decide +kernel
theorem d_Par_addFieldsOf_23 : decode cd_Par_addFieldsOf 23 = .ok (.getfield 9, 3) := by decide +kernel
theorem d_Par_addFieldsOf_26 : decode cd_Par_addFieldsOf 26 = .ok (.getfield 55, 3) := by decide +kernel
theorem d_Par_addFieldsOf_29 : decode cd_Par_addFieldsOf 29 = .ok (.getfield 105, 3) := by decide +kernel
theorem d_Par_addFieldsOf_32 : decode cd_Par_addFieldsOf 32 = .ok (.iload_n 1, 1) := by decide +kernel
theorem d_Par_addFieldsOf_33 : decode cd_Par_addFieldsOf 33 = .ok (.iconst 1, 1) := by decide +kernel
theorem d_Par_addFieldsOf_34 : decode cd_Par_addFieldsOf 34 = .ok (.iadd, 1) := by decide +kernel
theorem d_Par_addFieldsOf_35 : decode cd_Par_addFieldsOf 35 = .ok (.iload 4, 2) := by decide +kernel
theorem d_Par_addFieldsOf_37 : decode cd_Par_addFieldsOf 37 = .ok (.iadd, 1) := by decide +kernel
theorem d_Par_addFieldsOf_38 : decode cd_Par_addFieldsOf 38 = .ok (.iload_n 2, 1) := by decide +kernel
theorem d_Par_addFieldsOf_39 : decode cd_Par_addFieldsOf 39 = .ok (.invokevirtual 33, 3) := by decide +kernel
theorem d_Par_addFieldsOf_42 : decode cd_Par_addFieldsOf 42 = .ok (.iinc 4 1, 3) := by decide +kernel
theorem d_Par_addFieldsOf_45 : decode cd_Par_addFieldsOf 45 = .ok (.goto (-30), 3) := by decide +kernel
theorem d_Par_addFieldsOf_48 : decode cd_Par_addFieldsOf 48 = .ok (.return_, 1) := by decide +kernel
set_option maxRecDepth 100000 in
set_option maxHeartbeats 4000000 in
theorem s_Par_addFieldsOf_L15 {p : Program} {l : Launch} {e : Env} {s : State} {m : MethodId} {args : Array Value} {below : List Frame} {meth : Method} {c : Code} {V : xV} (C : xC p s m args c cd_Par_addFieldsOf 5 R_Par V) (hlocks : meth.locks = false) (hr : meth.sig.returnType = none) {Q : xS → Prop} {K15 : Int32 → Int32 → Int32 → Int32 → xS → Prop} (hK15 : ∀ (x1 : Int32) (x2 : Int32) (x3 : Int32) (x4 : Int32) (σ : xS) (H : Heap) (locs : List Loc) (ls : Array Slot), K15 x1 x2 x3 x4 σ → xI V s.heap σ H locs → lv_has ls 5 [(0, .ref (V.2.2 3)), (1, .int x1), (2, .int x2), (3, .int x3), (4, .int x4)] → W p l e rm_Par_addFieldsOf s m args below meth c H locs 0 0 (xZv below V args s Q) (F0 m 15 ls [])) {x1 x2 x3 x4 : Int32} {σ : xS} {H : Heap} {locs : List Loc} {ls : Array Slot} (h : b_Par_addFieldsOf_L15 K15 Q x1 x2 x3 x4 σ) (hI : xI V s.heap σ H locs) (hl : lv_has ls 5 [(0, .ref (V.2.2 3)), (1, .int x1), (2, .int x2), (3, .int x3), (4, .int x4)]) : W p l e rm_Par_addFieldsOf s m args below meth c H locs 0 0 (xZv below V args s Q) (F0 m 15 ls []) := by
  have hx := C.1
  have hb := C.2.1
  unfold b_Par_addFieldsOf_L15 at h
  refine lv_iload hx hb d_Par_addFieldsOf_15 (lv_at hl 4 rfl) ?_
  refine lv_iload_n hx hb d_Par_addFieldsOf_17 rfl (lv_at hl 3 rfl) ?_
  refine lv_icmp_ge (tgt := 48) hx hb d_Par_addFieldsOf_18 (by decide) (fun c3 => ?_) (fun c3 => ?_)
  · have h := h.1 c3
    exact x_vret C hlocks hr hI h d_Par_addFieldsOf_48
  · have h := h.2 c3
    refine lv_aload_n hx hb d_Par_addFieldsOf_21 rfl (lv_at hl 0 rfl) ?_
    refine lv_aload_n hx hb d_Par_addFieldsOf_22 rfl (lv_at hl 0 rfl) ?_
    refine x_get C hI (d := 3) (by decide) (xE3 V _) fd_Par_9 rfl d_Par_addFieldsOf_23 ?_
    refine x_get C hI (d := 1) (by decide) (xE1 V _) fd_Par_55 rfl d_Par_addFieldsOf_26 ?_
    refine x_get C hI (d := 6) (by decide) (xE6 V _) fd_Par_105 rfl d_Par_addFieldsOf_29 ?_
    refine lv_iload_n hx hb d_Par_addFieldsOf_32 rfl (lv_at hl 1 rfl) ?_
    refine lv_iconst (v := 1) hx hb d_Par_addFieldsOf_33 (by decide) ?_
    refine lv_iadd hx hb d_Par_addFieldsOf_34 ?_
    refine lv_iload hx hb d_Par_addFieldsOf_35 (lv_at hl 4 rfl) ?_
    refine lv_iadd hx hb d_Par_addFieldsOf_37 ?_
    refine lv_iload_n hx hb d_Par_addFieldsOf_38 rfl (lv_at hl 2 rfl) ?_
    refine x_callv C hI hl.1 (d := 3) (As := [.ref (V.2.2 19), .int ((x1 + 1) + x4), .int x2]) (rest := []) (by decide) (c_Par_addIfPart_3_19 h) (xE3 V _) rfl yw_Par_addIfPart ml_Par_33 rfl rfl ⟨Nat.le_of_ble_eq_true rfl, Nat.le_of_ble_eq_true rfl⟩ rfl rfl (Nat.le_of_ble_eq_true rfl) d_Par_addFieldsOf_39 ⟨Nat.zero_le _, Nat.zero_le _⟩ (fun σ4 H locs h hI => ?_)
    obtain ⟨z5, ez5⟩ : ∃ y : Int32, y = x4 + 1 := ⟨_, rfl⟩
    have h := h z5 ez5
    refine lv_iinc (v := z5) (lv' := [(4, .int z5), (0, .ref (V.2.2 3)), (1, .int x1), (2, .int x2), (3, .int x3)]) hx hb d_Par_addFieldsOf_42 hl (k := 4) rfl (by rw [ez5]; rfl) (by decide) rfl (fun ls hl => ?_)
    refine lv_goto (tgt := 15) hx hb d_Par_addFieldsOf_45 (by decide) ?_
    exact hK15 _ _ _ _ _ _ _ _ h hI (lv_sub hl [1, 2, 3, 4, 0] rfl)
theorem w_Par_addFieldsOf_L15 {p : Program} {l : Launch} {e : Env} {s : State} {m : MethodId} {args : Array Value} {below : List Frame} {meth : Method} {c : Code} {V : xV} (C : xC p s m args c cd_Par_addFieldsOf 5 R_Par V) (hlocks : meth.locks = false) (hr : meth.sig.returnType = none) {Q : xS → Prop} : ∀ (n : Nat) (x1 : Int32) (x2 : Int32) (x3 : Int32) (x4 : Int32) (σ : xS) (H : Heap) (locs : List Loc) (ls : Array Slot), p_Par_addFieldsOf_L15 Q n x1 x2 x3 x4 σ → xI V s.heap σ H locs → lv_has ls 5 [(0, .ref (V.2.2 3)), (1, .int x1), (2, .int x2), (3, .int x3), (4, .int x4)] → W p l e rm_Par_addFieldsOf s m args below meth c H locs 0 0 (xZv below V args s Q) (F0 m 15 ls []) := by
  intro n
  induction n with
  | zero =>
    intro x1 x2 x3 x4 σ H locs ls h
    exact False.elim h
  | succ n ih =>
    intro x1 x2 x3 x4 σ H locs ls h hI hl
    exact s_Par_addFieldsOf_L15 C hlocks hr (K15 := p_Par_addFieldsOf_L15 Q n) (fun x1 x2 x3 x4 σ H locs ls h hI hl => ih x1 x2 x3 x4 σ H locs ls h hI hl) h hI hl
set_option maxRecDepth 100000 in
set_option maxHeartbeats 4000000 in
theorem c_Par_addFieldsOf {l : Launch} {V : xV} {σ : xS} {x1 x2 : Int32} {Q : xS → Prop} (h : p_Par_addFieldsOf x1 x2 σ Q) : xMv l y_Par_addFieldsOf (.code y_Par_addFieldsOf cd_Par_addFieldsOf 5 none :: xG) rm_Par_addFieldsOf V [.ref (V.2.2 3), .int x1, .int x2] σ Q := by
  refine x_beginv (by decide) (Nat.le_of_ble_eq_true rfl) (fun p e s m below meth c ls C hlocks hr hI hl => ?_)
  have C : xC p s m _ c cd_Par_addFieldsOf 5 R_Par V := C
  have hx := C.1
  have hb := C.2.1
  have hl : lv_has ls 5 [(0, .ref (V.2.2 3)), (1, .int x1), (2, .int x2)] := hl
  unfold p_Par_addFieldsOf at h
  refine lv_aload_n hx hb d_Par_addFieldsOf_0 rfl (lv_at hl 0 rfl) ?_
  refine x_get C hI (d := 3) (by decide) (xE3 V _) fd_Par_9 rfl d_Par_addFieldsOf_1 ?_
  refine x_get C hI (d := 1) (by decide) (xE1 V _) fd_Par_55 rfl d_Par_addFieldsOf_4 ?_
  refine lv_iload_n hx hb d_Par_addFieldsOf_7 rfl (lv_at hl 1 rfl) ?_
  refine x_calli C hI hl.1 (d := 6) (As := [.int x1]) (rest := []) (by decide) (c_Hea_fieldsOf h) (xE6 V _) rfl yw_Hea_fieldsOf ml_Par_102 rfl rfl ⟨Nat.le_of_ble_eq_true rfl, Nat.le_of_ble_eq_true rfl⟩ rfl rfl (Nat.le_of_ble_eq_true rfl) d_Par_addFieldsOf_8 ⟨Nat.zero_le _, Nat.zero_le _⟩ (fun r2 σ1 H locs h hI => ?_)
  refine lv_istore_n (lv' := [(3, .int r2), (0, .ref (V.2.2 3)), (1, .int x1), (2, .int x2)]) hx hb d_Par_addFieldsOf_11 rfl hl (by decide) rfl (fun ls hl => ?_)
  refine lv_iconst (v := 0) hx hb d_Par_addFieldsOf_12 (by decide) ?_
  refine lv_istore (lv' := [(4, .int 0), (3, .int r2), (0, .ref (V.2.2 3)), (1, .int x1), (2, .int x2)]) hx hb d_Par_addFieldsOf_13 hl (by decide) rfl (fun ls hl => ?_)
  obtain ⟨n, h⟩ := h
  exact w_Par_addFieldsOf_L15 C hlocks hr n _ _ _ _ _ _ _ _ h hI (lv_sub hl [2, 3, 4, 1, 0] rfl)
theorem yw_Par_addFieldsOf : xY y_Par_addFieldsOf cd_Par_addFieldsOf 5 none 2 := ⟨xG_mem 833 (by decide +kernel) (by decide +kernel), xG_mem 22 (by decide +kernel) (by decide +kernel), xG_mem 63 (by decide +kernel) (by decide +kernel), xG_mem 834 (by decide +kernel) (by decide +kernel), by decide, by decide, by decide +kernel⟩
theorem ml_Par_37 : Cond.methodLink R_Par 37 y_Par_addFieldsOf ∈ xG := xG_mem 831 (by decide +kernel) (by decide +kernel)
def b_Par_find_L48 (K48 : Int32 → Int32 → xS → Prop) (Q : xS → Prop) (x2 x3 : Int32) (σ : xS) : Prop :=
  (((σ 3 3) ≤ x3 → Q σ) ∧ (¬ (σ 3 3) ≤ x3 → ((640 ≤ x3 → Q σ) ∧ (¬ 640 ≤ x3 → (vp_in x3 640 ∧ p_Par_addFieldsOf (σ 12 x3.toNatClampNeg) x2 σ (fun σ6 => (∀ z7 : Int32, z7 = x3 + 1 → K48 x2 z7 σ6)))))))
def p_Par_find_L48 (Q : xS → Prop) (n : Nat) : Int32 → Int32 → xS → Prop := Nat.rec (motive := fun _ => Int32 → Int32 → xS → Prop) (fun _ _ _ => False) (fun _ K x2 x3 σ => b_Par_find_L48 K Q x2 x3 σ) n
def b_Par_find_L2 (K2 : Int32 → Int32 → Int32 → xS → Prop) (Q : xS → Prop) (x1 x2 x3 : Int32) (σ : xS) : Prop :=
  (((σ 3 3) ≤ x3 → p_Par_addIfPart_3_5 x1 x2 (xu σ 3 3 0) (fun σ2 => (∃ n, p_Par_find_L48 Q n x2 0 σ2))) ∧ (¬ (σ 3 3) ≤ x3 → (vp_in x3 640 ∧ (vp_in (σ 12 x3.toNatClampNeg) 640 ∧ (∀ z10 : Int32, z10 = x3 + 1 → K2 x1 x2 z10 (xu σ 13 (σ 12 x3.toNatClampNeg).toNatClampNeg (vp_nar .boolean 0)))))))
def p_Par_find_L2 (Q : xS → Prop) (n : Nat) : Int32 → Int32 → Int32 → xS → Prop := Nat.rec (motive := fun _ => Int32 → Int32 → Int32 → xS → Prop) (fun _ _ _ _ => False) (fun _ K x1 x2 x3 σ => b_Par_find_L2 K Q x1 x2 x3 σ) n
def p_Par_find (x1 x2 : Int32) (σ : xS) (Q : xS → Prop) : Prop :=
  (∃ n, p_Par_find_L2 Q n x1 x2 0 σ)
abbrev rm_Par_find : Room := { frames := 4, cells := 0, slots := 0, locals := 91 }
theorem d_Par_find_0 : decode cd_Par_find 0 = .ok (.iconst 0, 1) := by decide +kernel
theorem d_Par_find_1 : decode cd_Par_find 1 = .ok (.istore_n 3, 1) := by decide +kernel
theorem d_Par_find_2 : decode cd_Par_find 2 = .ok (.iload_n 3, 1) := by decide +kernel
theorem d_Par_find_3 : decode cd_Par_find 3 = .ok (.aload_n 0, 1) := by decide +kernel
theorem d_Par_find_4 : decode cd_Par_find 4 = .ok (.getfield 23, 3) := by decide +kernel
theorem d_Par_find_7 : decode cd_Par_find 7 = .ok (.if_icmp .ge 21, 3) := by decide +kernel
theorem d_Par_find_10 : decode cd_Par_find 10 = .ok (.aload_n 0, 1) := by decide +kernel
theorem d_Par_find_11 : decode cd_Par_find 11 = .ok (.getfield 19, 3) := by decide +kernel
theorem d_Par_find_14 : decode cd_Par_find 14 = .ok (.aload_n 0, 1) := by decide +kernel
theorem d_Par_find_15 : decode cd_Par_find 15 = .ok (.getfield 15, 3) := by decide +kernel
theorem d_Par_find_18 : decode cd_Par_find 18 = .ok (.iload_n 3, 1) := by decide +kernel
theorem d_Par_find_19 : decode cd_Par_find 19 = .ok (.iaload, 1) := by decide +kernel
theorem d_Par_find_20 : decode cd_Par_find 20 = .ok (.iconst 0, 1) := by decide +kernel
theorem d_Par_find_21 : decode cd_Par_find 21 = .ok (.bastore, 1) := by decide +kernel
theorem d_Par_find_22 : decode cd_Par_find 22 = .ok (.iinc 3 1, 3) := by decide +kernel
theorem d_Par_find_25 : decode cd_Par_find 25 = .ok (.goto (-23), 3) := by decide +kernel
theorem d_Par_find_28 : decode cd_Par_find 28 = .ok (.aload_n 0, 1) := by decide +kernel
theorem d_Par_find_29 : decode cd_Par_find 29 = .ok (.iconst 0, 1) := by decide +kernel
theorem d_Par_find_30 : decode cd_Par_find 30 = .ok (.putfield 23, 3) := by decide +kernel
theorem d_Par_find_33 : decode cd_Par_find 33 = .ok (.aload_n 0, 1) := by decide +kernel
theorem d_Par_find_34 : decode cd_Par_find 34 = .ok (.aload_n 0, 1) := by decide +kernel
theorem d_Par_find_35 : decode cd_Par_find 35 = .ok (.getfield 9, 3) := by decide +kernel
theorem d_Par_find_38 : decode cd_Par_find 38 = .ok (.getfield 27, 3) := by decide +kernel
theorem d_Par_find_41 : decode cd_Par_find 41 = .ok (.iload_n 1, 1) := by decide +kernel
theorem d_Par_find_42 : decode cd_Par_find 42 = .ok (.iload_n 2, 1) := by decide +kernel
theorem d_Par_find_43 : decode cd_Par_find 43 = .ok (.invokevirtual 33, 3) := by decide +kernel
theorem d_Par_find_46 : decode cd_Par_find 46 = .ok (.iconst 0, 1) := by decide +kernel
theorem d_Par_find_47 : decode cd_Par_find 47 = .ok (.istore_n 3, 1) := by decide +kernel
theorem d_Par_find_48 : decode cd_Par_find 48 = .ok (.iload_n 3, 1) := by decide +kernel
theorem d_Par_find_49 : decode cd_Par_find 49 = .ok (.aload_n 0, 1) := by decide +kernel
theorem d_Par_find_50 : decode cd_Par_find 50 = .ok (.getfield 23, 3) := by decide +kernel
theorem d_Par_find_53 : decode cd_Par_find 53 = .ok (.if_icmp .ge 27, 3) := by decide +kernel
theorem d_Par_find_56 : decode cd_Par_find 56 = .ok (.iload_n 3, 1) := by decide +kernel
theorem d_Par_find_57 : decode cd_Par_find 57 = .ok (.sipush 640, 3) := by decide +kernel
theorem d_Par_find_60 : decode cd_Par_find 60 = .ok (.if_icmp .ge 20, 3) := by decide +kernel
theorem d_Par_find_63 : decode cd_Par_find 63 = .ok (.aload_n 0, 1) := by decide +kernel
theorem d_Par_find_64 : decode cd_Par_find 64 = .ok (.aload_n 0, 1) := by decide +kernel
theorem d_Par_find_65 : decode cd_Par_find 65 = .ok (.getfield 15, 3) := by decide +kernel
theorem d_Par_find_68 : decode cd_Par_find 68 = .ok (.iload_n 3, 1) := by decide +kernel
theorem d_Par_find_69 : decode cd_Par_find 69 = .ok (.iaload, 1) := by decide +kernel
theorem d_Par_find_70 : decode cd_Par_find 70 = .ok (.iload_n 2, 1) := by decide +kernel
theorem d_Par_find_71 : decode cd_Par_find 71 = .ok (.invokevirtual 37, 3) := by decide +kernel
theorem d_Par_find_74 : decode cd_Par_find 74 = .ok (.iinc 3 1, 3) := by decide +kernel
theorem d_Par_find_77 : decode cd_Par_find 77 = .ok (.goto (-29), 3) := by decide +kernel
theorem d_Par_find_80 : decode cd_Par_find 80 = .ok (.return_, 1) := by decide +kernel
set_option maxRecDepth 100000 in
set_option maxHeartbeats 4000000 in
theorem s_Par_find_L48 {p : Program} {l : Launch} {e : Env} {s : State} {m : MethodId} {args : Array Value} {below : List Frame} {meth : Method} {c : Code} {V : xV} (C : xC p s m args c cd_Par_find 4 R_Par V) (hlocks : meth.locks = false) (hr : meth.sig.returnType = none) {Q : xS → Prop} {K48 : Int32 → Int32 → xS → Prop} (hK48 : ∀ (x2 : Int32) (x3 : Int32) (σ : xS) (H : Heap) (locs : List Loc) (ls : Array Slot), K48 x2 x3 σ → xI V s.heap σ H locs → lv_has ls 4 [(0, .ref (V.2.2 3)), (2, .int x2), (3, .int x3)] → W p l e rm_Par_find s m args below meth c H locs 0 0 (xZv below V args s Q) (F0 m 48 ls [])) {x2 x3 : Int32} {σ : xS} {H : Heap} {locs : List Loc} {ls : Array Slot} (h : b_Par_find_L48 K48 Q x2 x3 σ) (hI : xI V s.heap σ H locs) (hl : lv_has ls 4 [(0, .ref (V.2.2 3)), (2, .int x2), (3, .int x3)]) : W p l e rm_Par_find s m args below meth c H locs 0 0 (xZv below V args s Q) (F0 m 48 ls []) := by
  have hx := C.1
  have hb := C.2.1
  unfold b_Par_find_L48 at h
  refine lv_iload_n hx hb d_Par_find_48 rfl (lv_at hl 2 rfl) ?_
  refine lv_aload_n hx hb d_Par_find_49 rfl (lv_at hl 0 rfl) ?_
  refine x_get C hI (d := 3) (by decide) (xE3 V _) fd_Par_23 rfl d_Par_find_50 ?_
  refine lv_icmp_ge (tgt := 80) hx hb d_Par_find_53 (by decide) (fun c3 => ?_) (fun c3 => ?_)
  · have h := h.1 c3
    exact x_vret C hlocks hr hI h d_Par_find_80
  · have h := h.2 c3
    refine lv_iload_n hx hb d_Par_find_56 rfl (lv_at hl 2 rfl) ?_
    refine lv_sipush (v := 640) hx hb d_Par_find_57 (by decide) ?_
    refine lv_icmp_ge (tgt := 80) hx hb d_Par_find_60 (by decide) (fun c4 => ?_) (fun c4 => ?_)
    · have h := h.1 c4
      exact x_vret C hlocks hr hI h d_Par_find_80
    · have h := h.2 c4
      refine lv_aload_n hx hb d_Par_find_63 rfl (lv_at hl 0 rfl) ?_
      refine lv_aload_n hx hb d_Par_find_64 rfl (lv_at hl 0 rfl) ?_
      refine x_get C hI (d := 3) (by decide) (xE3 V _) fd_Par_15 rfl d_Par_find_65 ?_
      refine lv_iload_n hx hb d_Par_find_68 rfl (lv_at hl 2 rfl) ?_
      obtain ⟨i5, h⟩ := h
      refine x_iald C hI (d := 12) (by decide) (xE12 V) i5 d_Par_find_69 ?_
      refine lv_iload_n hx hb d_Par_find_70 rfl (lv_at hl 1 rfl) ?_
      refine x_callv C hI hl.1 (d := 3) (As := [.int (σ 12 x3.toNatClampNeg), .int x2]) (rest := []) (by decide) (c_Par_addFieldsOf h) (xE3 V _) rfl yw_Par_addFieldsOf ml_Par_37 rfl rfl ⟨Nat.le_of_ble_eq_true rfl, Nat.le_of_ble_eq_true rfl⟩ rfl rfl (Nat.le_of_ble_eq_true rfl) d_Par_find_71 ⟨Nat.zero_le _, Nat.zero_le _⟩ (fun σ6 H locs h hI => ?_)
      obtain ⟨z7, ez7⟩ : ∃ y : Int32, y = x3 + 1 := ⟨_, rfl⟩
      have h := h z7 ez7
      refine lv_iinc (v := z7) (lv' := [(3, .int z7), (0, .ref (V.2.2 3)), (2, .int x2)]) hx hb d_Par_find_74 hl (k := 2) rfl (by rw [ez7]; rfl) (by decide) rfl (fun ls hl => ?_)
      refine lv_goto (tgt := 48) hx hb d_Par_find_77 (by decide) ?_
      exact hK48 _ _ _ _ _ _ h hI (lv_sub hl [1, 2, 0] rfl)
theorem w_Par_find_L48 {p : Program} {l : Launch} {e : Env} {s : State} {m : MethodId} {args : Array Value} {below : List Frame} {meth : Method} {c : Code} {V : xV} (C : xC p s m args c cd_Par_find 4 R_Par V) (hlocks : meth.locks = false) (hr : meth.sig.returnType = none) {Q : xS → Prop} : ∀ (n : Nat) (x2 : Int32) (x3 : Int32) (σ : xS) (H : Heap) (locs : List Loc) (ls : Array Slot), p_Par_find_L48 Q n x2 x3 σ → xI V s.heap σ H locs → lv_has ls 4 [(0, .ref (V.2.2 3)), (2, .int x2), (3, .int x3)] → W p l e rm_Par_find s m args below meth c H locs 0 0 (xZv below V args s Q) (F0 m 48 ls []) := by
  intro n
  induction n with
  | zero =>
    intro x2 x3 σ H locs ls h
    exact False.elim h
  | succ n ih =>
    intro x2 x3 σ H locs ls h hI hl
    exact s_Par_find_L48 C hlocks hr (K48 := p_Par_find_L48 Q n) (fun x2 x3 σ H locs ls h hI hl => ih x2 x3 σ H locs ls h hI hl) h hI hl
set_option maxRecDepth 100000 in
set_option maxHeartbeats 4000000 in
theorem s_Par_find_L2 {p : Program} {l : Launch} {e : Env} {s : State} {m : MethodId} {args : Array Value} {below : List Frame} {meth : Method} {c : Code} {V : xV} (C : xC p s m args c cd_Par_find 4 R_Par V) (hlocks : meth.locks = false) (hr : meth.sig.returnType = none) {Q : xS → Prop} {K2 : Int32 → Int32 → Int32 → xS → Prop} (hK2 : ∀ (x1 : Int32) (x2 : Int32) (x3 : Int32) (σ : xS) (H : Heap) (locs : List Loc) (ls : Array Slot), K2 x1 x2 x3 σ → xI V s.heap σ H locs → lv_has ls 4 [(0, .ref (V.2.2 3)), (1, .int x1), (2, .int x2), (3, .int x3)] → W p l e rm_Par_find s m args below meth c H locs 0 0 (xZv below V args s Q) (F0 m 2 ls [])) {x1 x2 x3 : Int32} {σ : xS} {H : Heap} {locs : List Loc} {ls : Array Slot} (h : b_Par_find_L2 K2 Q x1 x2 x3 σ) (hI : xI V s.heap σ H locs) (hl : lv_has ls 4 [(0, .ref (V.2.2 3)), (1, .int x1), (2, .int x2), (3, .int x3)]) : W p l e rm_Par_find s m args below meth c H locs 0 0 (xZv below V args s Q) (F0 m 2 ls []) := by
  have hx := C.1
  have hb := C.2.1
  unfold b_Par_find_L2 at h
  refine lv_iload_n hx hb d_Par_find_2 rfl (lv_at hl 3 rfl) ?_
  refine lv_aload_n hx hb d_Par_find_3 rfl (lv_at hl 0 rfl) ?_
  refine x_get C hI (d := 3) (by decide) (xE3 V _) fd_Par_23 rfl d_Par_find_4 ?_
  refine lv_icmp_ge (tgt := 28) hx hb d_Par_find_7 (by decide) (fun c1 => ?_) (fun c1 => ?_)
  · have h := h.1 c1
    refine lv_aload_n hx hb d_Par_find_28 rfl (lv_at hl 0 rfl) ?_
    refine lv_iconst (v := 0) hx hb d_Par_find_29 (by decide) ?_
    refine x_put C hI (d := 3) (by decide) (xE3 V _) (xP_3_3 V _ _) fw_Par_23 (Nat.le_of_ble_eq_true rfl) d_Par_find_30 (fun H locs hI => ?_)
    refine lv_aload_n hx hb d_Par_find_33 rfl (lv_at hl 0 rfl) ?_
    refine lv_aload_n hx hb d_Par_find_34 rfl (lv_at hl 0 rfl) ?_
    refine x_get C hI (d := 3) (by decide) (xE3 V _) fd_Par_9 rfl d_Par_find_35 ?_
    refine x_get C hI (d := 1) (by decide) (xE1 V _) fd_Par_27 rfl d_Par_find_38 ?_
    refine lv_iload_n hx hb d_Par_find_41 rfl (lv_at hl 1 rfl) ?_
    refine lv_iload_n hx hb d_Par_find_42 rfl (lv_at hl 2 rfl) ?_
    refine x_callv C hI hl.1 (d := 3) (As := [.ref (V.2.2 5), .int x1, .int x2]) (rest := []) (by decide) (c_Par_addIfPart_3_5 h) (xE3 V _) rfl yw_Par_addIfPart ml_Par_33 rfl rfl ⟨Nat.le_of_ble_eq_true rfl, Nat.le_of_ble_eq_true rfl⟩ rfl rfl (Nat.le_of_ble_eq_true rfl) d_Par_find_43 ⟨Nat.zero_le _, Nat.zero_le _⟩ (fun σ2 H locs h hI => ?_)
    refine lv_iconst (v := 0) hx hb d_Par_find_46 (by decide) ?_
    refine lv_istore_n (lv' := [(3, .int 0), (0, .ref (V.2.2 3)), (1, .int x1), (2, .int x2)]) hx hb d_Par_find_47 rfl hl (by decide) rfl (fun ls hl => ?_)
    obtain ⟨n, h⟩ := h
    exact w_Par_find_L48 C hlocks hr n _ _ _ _ _ _ h hI (lv_sub hl [1, 3, 0] rfl)
  · have h := h.2 c1
    refine lv_aload_n hx hb d_Par_find_10 rfl (lv_at hl 0 rfl) ?_
    refine x_get C hI (d := 3) (by decide) (xE3 V _) fd_Par_19 rfl d_Par_find_11 ?_
    refine lv_aload_n hx hb d_Par_find_14 rfl (lv_at hl 0 rfl) ?_
    refine x_get C hI (d := 3) (by decide) (xE3 V _) fd_Par_15 rfl d_Par_find_15 ?_
    refine lv_iload_n hx hb d_Par_find_18 rfl (lv_at hl 3 rfl) ?_
    obtain ⟨i8, h⟩ := h
    refine x_iald C hI (d := 12) (by decide) (xE12 V) i8 d_Par_find_19 ?_
    refine lv_iconst (v := 0) hx hb d_Par_find_20 (by decide) ?_
    obtain ⟨i9, h⟩ := h
    refine x_zast C hI (d := 13) (by decide) (xE13 V) i9 d_Par_find_21 (fun H locs hI => ?_)
    obtain ⟨z10, ez10⟩ : ∃ y : Int32, y = x3 + 1 := ⟨_, rfl⟩
    have h := h z10 ez10
    refine lv_iinc (v := z10) (lv' := [(3, .int z10), (0, .ref (V.2.2 3)), (1, .int x1), (2, .int x2)]) hx hb d_Par_find_22 hl (k := 3) rfl (by rw [ez10]; rfl) (by decide) rfl (fun ls hl => ?_)
    refine lv_goto (tgt := 2) hx hb d_Par_find_25 (by decide) ?_
    exact hK2 _ _ _ _ _ _ _ h hI (lv_sub hl [1, 2, 3, 0] rfl)
theorem w_Par_find_L2 {p : Program} {l : Launch} {e : Env} {s : State} {m : MethodId} {args : Array Value} {below : List Frame} {meth : Method} {c : Code} {V : xV} (C : xC p s m args c cd_Par_find 4 R_Par V) (hlocks : meth.locks = false) (hr : meth.sig.returnType = none) {Q : xS → Prop} : ∀ (n : Nat) (x1 : Int32) (x2 : Int32) (x3 : Int32) (σ : xS) (H : Heap) (locs : List Loc) (ls : Array Slot), p_Par_find_L2 Q n x1 x2 x3 σ → xI V s.heap σ H locs → lv_has ls 4 [(0, .ref (V.2.2 3)), (1, .int x1), (2, .int x2), (3, .int x3)] → W p l e rm_Par_find s m args below meth c H locs 0 0 (xZv below V args s Q) (F0 m 2 ls []) := by
  intro n
  induction n with
  | zero =>
    intro x1 x2 x3 σ H locs ls h
    exact False.elim h
  | succ n ih =>
    intro x1 x2 x3 σ H locs ls h hI hl
    exact s_Par_find_L2 C hlocks hr (K2 := p_Par_find_L2 Q n) (fun x1 x2 x3 σ H locs ls h hI hl => ih x1 x2 x3 σ H locs ls h hI hl) h hI hl
set_option maxRecDepth 100000 in
set_option maxHeartbeats 4000000 in
theorem c_Par_find {l : Launch} {V : xV} {σ : xS} {x1 x2 : Int32} {Q : xS → Prop} (h : p_Par_find x1 x2 σ Q) : xMv l y_Par_find (.code y_Par_find cd_Par_find 4 none :: xG) rm_Par_find V [.ref (V.2.2 3), .int x1, .int x2] σ Q := by
  refine x_beginv (by decide) (Nat.le_of_ble_eq_true rfl) (fun p e s m below meth c ls C hlocks hr hI hl => ?_)
  have C : xC p s m _ c cd_Par_find 4 R_Par V := C
  have hx := C.1
  have hb := C.2.1
  have hl : lv_has ls 4 [(0, .ref (V.2.2 3)), (1, .int x1), (2, .int x2)] := hl
  unfold p_Par_find at h
  refine lv_iconst (v := 0) hx hb d_Par_find_0 (by decide) ?_
  refine lv_istore_n (lv' := [(3, .int 0), (0, .ref (V.2.2 3)), (1, .int x1), (2, .int x2)]) hx hb d_Par_find_1 rfl hl (by decide) rfl (fun ls hl => ?_)
  obtain ⟨n, h⟩ := h
  exact w_Par_find_L2 C hlocks hr n _ _ _ _ _ _ _ h hI (lv_sub hl [1, 2, 3, 0] rfl)
def y_Par_fitInto : MethodName := ⟨"RegionPool$Parts", "fitInto", "(I)Z"⟩
abbrev cd_Par_fitInto : ByteArray := prog_8_method_4_code
theorem fd_Par_41 : xFd R_Par 41 1 2 := ⟨R_Mem, T_Mem, 6, rfl, in_Mem, by decide, xG_mem 171 (by decide +kernel) (by decide +kernel)⟩
theorem yw_Reg_fillOf : xY y_Reg_fillOf cd_Reg_fillOf 2 (some .int) 1 := ⟨xG_mem 841 (by decide +kernel) (by decide +kernel), xG_mem 842 (by decide +kernel) (by decide +kernel), xG_mem 59 (by decide +kernel) (by decide +kernel), xG_mem 843 (by decide +kernel) (by decide +kernel), by decide, by decide, by decide +kernel⟩
theorem ml_Par_45 : Cond.methodLink R_Par 45 y_Reg_fillOf ∈ xG := xG_mem 840 (by decide +kernel) (by decide +kernel)
theorem yw_Reg_freePages : xY y_Reg_freePages cd_Reg_freePages 3 (some .int) 0 := ⟨xG_mem 432 (by decide +kernel) (by decide +kernel), xG_mem 433 (by decide +kernel) (by decide +kernel), xG_mem 59 (by decide +kernel) (by decide +kernel), xG_mem 434 (by decide +kernel) (by decide +kernel), by decide, by decide, by decide +kernel⟩
theorem ml_Par_51 : Cond.methodLink R_Par 51 y_Reg_freePages ∈ xG := xG_mem 844 (by decide +kernel) (by decide +kernel)
theorem ml_Par_59 : Cond.methodLink R_Par 59 y_Hea_sizeOf ∈ xG := xG_mem 845 (by decide +kernel) (by decide +kernel)
def b_Par_fitInto_L26 (K26 : Int32 → Int32 → Int32 → xS → Prop) (Q : Int32 → xS → Prop) (x2 x3 x4 : Int32) (σ : xS) : Prop :=
  (((σ 3 3) ≤ x4 → ((x3 < 0 → Q 0 σ) ∧ (¬ x3 < 0 → Q 1 σ))) ∧ (¬ (σ 3 3) ≤ x4 → (vp_in x4 640 ∧ p_Hea_sizeOf (σ 12 x4.toNatClampNeg) σ (fun r9 σ8 => (((x2 + r9) ≤ 16 → (∀ z11 : Int32, z11 = (x2 + r9) → (∀ z12 : Int32, z12 = x4 + 1 → K26 z11 x3 z12 σ8))) ∧ (¬ (x2 + r9) ≤ 16 → (∀ z13 : Int32, z13 = x3 + (-1) → (∀ z14 : Int32, z14 = (0 + r9) → (∀ z15 : Int32, z15 = x4 + 1 → K26 z14 z13 z15 σ8)))))))))
def p_Par_fitInto_L26 (Q : Int32 → xS → Prop) (n : Nat) : Int32 → Int32 → Int32 → xS → Prop := Nat.rec (motive := fun _ => Int32 → Int32 → Int32 → xS → Prop) (fun _ _ _ _ => False) (fun _ K x2 x3 x4 σ => b_Par_fitInto_L26 K Q x2 x3 x4 σ) n
def p_Par_fitInto (x1 : Int32) (σ : xS) (Q : Int32 → xS → Prop) : Prop :=
  p_Reg_fillOf x1 σ (fun r2 σ1 => p_Reg_freePages σ1 (fun r4 σ3 => (∃ n, p_Par_fitInto_L26 Q n r2 r4 0 σ3)))
abbrev rm_Par_fitInto : Room := { frames := 2, cells := 0, slots := 0, locals := 42 }
theorem d_Par_fitInto_0 : decode cd_Par_fitInto 0 = .ok (.aload_n 0, 1) := by decide +kernel
theorem d_Par_fitInto_1 : decode cd_Par_fitInto 1 = .ok (.getfield 9, 3) := by decide +kernel
theorem d_Par_fitInto_4 : decode cd_Par_fitInto 4 = .ok (.getfield 41, 3) := by decide +kernel
theorem d_Par_fitInto_7 : decode cd_Par_fitInto 7 = .ok (.iload_n 1, 1) := by decide +kernel
theorem d_Par_fitInto_8 : decode cd_Par_fitInto 8 = .ok (.invokevirtual 45, 3) := by decide +kernel
theorem d_Par_fitInto_11 : decode cd_Par_fitInto 11 = .ok (.istore_n 2, 1) := by decide +kernel
theorem d_Par_fitInto_12 : decode cd_Par_fitInto 12 = .ok (.aload_n 0, 1) := by decide +kernel
theorem d_Par_fitInto_13 : decode cd_Par_fitInto 13 = .ok (.getfield 9, 3) := by decide +kernel
theorem d_Par_fitInto_16 : decode cd_Par_fitInto 16 = .ok (.getfield 41, 3) := by decide +kernel
theorem d_Par_fitInto_19 : decode cd_Par_fitInto 19 = .ok (.invokevirtual 51, 3) := by decide +kernel
theorem d_Par_fitInto_22 : decode cd_Par_fitInto 22 = .ok (.istore_n 3, 1) := by decide +kernel
theorem d_Par_fitInto_23 : decode cd_Par_fitInto 23 = .ok (.iconst 0, 1) := by decide +kernel
theorem d_Par_fitInto_24 : decode cd_Par_fitInto 24 = .ok (.istore 4, 2) := by decide +kernel
theorem d_Par_fitInto_26 : decode cd_Par_fitInto 26 = .ok (.iload 4, 2) := by decide +kernel
theorem d_Par_fitInto_28 : decode cd_Par_fitInto 28 = .ok (.aload_n 0, 1) := by decide +kernel
theorem d_Par_fitInto_29 : decode cd_Par_fitInto 29 = .ok (.getfield 23, 3) := by decide +kernel
theorem d_Par_fitInto_32 : decode cd_Par_fitInto 32 = .ok (.if_icmp .ge 47, 3) := by decide +kernel
theorem d_Par_fitInto_35 : decode cd_Par_fitInto 35 = .ok (.aload_n 0, 1) := by decide +kernel
theorem d_Par_fitInto_36 : decode cd_Par_fitInto 36 = .ok (.getfield 9, 3) := by decide +kernel
theorem d_Par_fitInto_39 : decode cd_Par_fitInto 39 = .ok (.getfield 55, 3) := by decide +kernel
theorem d_Par_fitInto_42 : decode cd_Par_fitInto 42 = .ok (.aload_n 0, 1) := by decide +kernel
theorem d_Par_fitInto_43 : decode cd_Par_fitInto 43 = .ok (.getfield 15, 3) := by decide +kernel
theorem d_Par_fitInto_46 : decode cd_Par_fitInto 46 = .ok (.iload 4, 2) := by decide +kernel
theorem d_Par_fitInto_48 : decode cd_Par_fitInto 48 = .ok (.iaload, 1) := by decide +kernel
theorem d_Par_fitInto_49 : decode cd_Par_fitInto 49 = .ok (.invokevirtual 59, 3) := by decide +kernel
theorem d_Par_fitInto_52 : decode cd_Par_fitInto 52 = .ok (.istore 5, 2) := by decide +kernel
theorem d_Par_fitInto_54 : decode cd_Par_fitInto 54 = .ok (.iload_n 2, 1) := by decide +kernel
theorem d_Par_fitInto_55 : decode cd_Par_fitInto 55 = .ok (.iload 5, 2) := by decide +kernel
theorem d_Par_fitInto_57 : decode cd_Par_fitInto 57 = .ok (.iadd, 1) := by decide +kernel
theorem d_Par_fitInto_58 : decode cd_Par_fitInto 58 = .ok (.bipush 16, 2) := by decide +kernel
theorem d_Par_fitInto_60 : decode cd_Par_fitInto 60 = .ok (.if_icmp .le 8, 3) := by decide +kernel
theorem d_Par_fitInto_63 : decode cd_Par_fitInto 63 = .ok (.iinc 3 (-1), 3) := by decide +kernel
theorem d_Par_fitInto_66 : decode cd_Par_fitInto 66 = .ok (.iconst 0, 1) := by decide +kernel
theorem d_Par_fitInto_67 : decode cd_Par_fitInto 67 = .ok (.istore_n 2, 1) := by decide +kernel
theorem d_Par_fitInto_68 : decode cd_Par_fitInto 68 = .ok (.iload_n 2, 1) := by decide +kernel
theorem d_Par_fitInto_69 : decode cd_Par_fitInto 69 = .ok (.iload 5, 2) := by decide +kernel
theorem d_Par_fitInto_71 : decode cd_Par_fitInto 71 = .ok (.iadd, 1) := by decide +kernel
theorem d_Par_fitInto_72 : decode cd_Par_fitInto 72 = .ok (.istore_n 2, 1) := by decide +kernel
theorem d_Par_fitInto_73 : decode cd_Par_fitInto 73 = .ok (.iinc 4 1, 3) := by decide +kernel
theorem d_Par_fitInto_76 : decode cd_Par_fitInto 76 = .ok (.goto (-50), 3) := by decide +kernel
theorem d_Par_fitInto_79 : decode cd_Par_fitInto 79 = .ok (.iload_n 3, 1) := by decide +kernel
theorem d_Par_fitInto_80 : decode cd_Par_fitInto 80 = .ok (.ifCond .lt 7, 3) := by decide +kernel
theorem d_Par_fitInto_83 : decode cd_Par_fitInto 83 = .ok (.iconst 1, 1) := by decide +kernel
theorem d_Par_fitInto_84 : decode cd_Par_fitInto 84 = .ok (.goto 4, 3) := by decide +kernel
theorem d_Par_fitInto_87 : decode cd_Par_fitInto 87 = .ok (.iconst 0, 1) := by decide +kernel
theorem d_Par_fitInto_88 : decode cd_Par_fitInto 88 = .ok (.ireturn, 1) := by decide +kernel
set_option maxRecDepth 100000 in
set_option maxHeartbeats 4000000 in
theorem s_Par_fitInto_L26 {p : Program} {l : Launch} {e : Env} {s : State} {m : MethodId} {args : Array Value} {below : List Frame} {meth : Method} {c : Code} {V : xV} (C : xC p s m args c cd_Par_fitInto 6 R_Par V) (hlocks : meth.locks = false) (hr : meth.sig.returnType = (some .boolean)) {Q : Int32 → xS → Prop} {K26 : Int32 → Int32 → Int32 → xS → Prop} (hK26 : ∀ (x2 : Int32) (x3 : Int32) (x4 : Int32) (σ : xS) (H : Heap) (locs : List Loc) (ls : Array Slot), K26 x2 x3 x4 σ → xI V s.heap σ H locs → lv_has ls 6 [(0, .ref (V.2.2 3)), (2, .int x2), (3, .int x3), (4, .int x4)] → W p l e rm_Par_fitInto s m args below meth c H locs 0 0 (xZi below V args s Q) (F0 m 26 ls [])) {x2 x3 x4 : Int32} {σ : xS} {H : Heap} {locs : List Loc} {ls : Array Slot} (h : b_Par_fitInto_L26 K26 Q x2 x3 x4 σ) (hI : xI V s.heap σ H locs) (hl : lv_has ls 6 [(0, .ref (V.2.2 3)), (2, .int x2), (3, .int x3), (4, .int x4)]) : W p l e rm_Par_fitInto s m args below meth c H locs 0 0 (xZi below V args s Q) (F0 m 26 ls []) := by
  have hx := C.1
  have hb := C.2.1
  unfold b_Par_fitInto_L26 at h
  refine lv_iload hx hb d_Par_fitInto_26 (lv_at hl 3 rfl) ?_
  refine lv_aload_n hx hb d_Par_fitInto_28 rfl (lv_at hl 0 rfl) ?_
  refine x_get C hI (d := 3) (by decide) (xE3 V _) fd_Par_23 rfl d_Par_fitInto_29 ?_
  refine lv_icmp_ge (tgt := 79) hx hb d_Par_fitInto_32 (by decide) (fun c5 => ?_) (fun c5 => ?_)
  · have h := h.1 c5
    refine lv_iload_n hx hb d_Par_fitInto_79 rfl (lv_at hl 2 rfl) ?_
    refine lv_if_lt (tgt := 87) hx hb d_Par_fitInto_80 (by decide) (fun c6 => ?_) (fun c6 => ?_)
    · have h := h.1 c6
      refine lv_iconst (v := 0) hx hb d_Par_fitInto_87 (by decide) ?_
      exact x_zret C hlocks hr hI ⟨rfl, h⟩ d_Par_fitInto_88
    · have h := h.2 c6
      refine lv_iconst (v := 1) hx hb d_Par_fitInto_83 (by decide) ?_
      refine lv_goto (tgt := 88) hx hb d_Par_fitInto_84 (by decide) ?_
      exact x_zret C hlocks hr hI ⟨rfl, h⟩ d_Par_fitInto_88
  · have h := h.2 c5
    refine lv_aload_n hx hb d_Par_fitInto_35 rfl (lv_at hl 0 rfl) ?_
    refine x_get C hI (d := 3) (by decide) (xE3 V _) fd_Par_9 rfl d_Par_fitInto_36 ?_
    refine x_get C hI (d := 1) (by decide) (xE1 V _) fd_Par_55 rfl d_Par_fitInto_39 ?_
    refine lv_aload_n hx hb d_Par_fitInto_42 rfl (lv_at hl 0 rfl) ?_
    refine x_get C hI (d := 3) (by decide) (xE3 V _) fd_Par_15 rfl d_Par_fitInto_43 ?_
    refine lv_iload hx hb d_Par_fitInto_46 (lv_at hl 3 rfl) ?_
    obtain ⟨i7, h⟩ := h
    refine x_iald C hI (d := 12) (by decide) (xE12 V) i7 d_Par_fitInto_48 ?_
    refine x_calli C hI hl.1 (d := 6) (As := [.int (σ 12 x4.toNatClampNeg)]) (rest := []) (by decide) (c_Hea_sizeOf h) (xE6 V _) rfl yw_Hea_sizeOf ml_Par_59 rfl rfl ⟨Nat.le_of_ble_eq_true rfl, Nat.le_of_ble_eq_true rfl⟩ rfl rfl (Nat.le_of_ble_eq_true rfl) d_Par_fitInto_49 ⟨Nat.zero_le _, Nat.zero_le _⟩ (fun r9 σ8 H locs h hI => ?_)
    refine lv_istore (lv' := [(5, .int r9), (0, .ref (V.2.2 3)), (2, .int x2), (3, .int x3), (4, .int x4)]) hx hb d_Par_fitInto_52 hl (by decide) rfl (fun ls hl => ?_)
    refine lv_iload_n hx hb d_Par_fitInto_54 rfl (lv_at hl 2 rfl) ?_
    refine lv_iload hx hb d_Par_fitInto_55 (lv_at hl 0 rfl) ?_
    refine lv_iadd hx hb d_Par_fitInto_57 ?_
    refine lv_bipush (v := 16) hx hb d_Par_fitInto_58 (by decide) ?_
    refine lv_icmp_le (tgt := 68) hx hb d_Par_fitInto_60 (by decide) (fun c10 => ?_) (fun c10 => ?_)
    · have h := h.1 c10
      refine lv_iload_n hx hb d_Par_fitInto_68 rfl (lv_at hl 2 rfl) ?_
      refine lv_iload hx hb d_Par_fitInto_69 (lv_at hl 0 rfl) ?_
      refine lv_iadd hx hb d_Par_fitInto_71 ?_
      refine lv_topi (fun z11 ez11 => ?_)
      have h := h z11 ez11
      refine lv_istore_n (lv' := [(2, .int z11), (5, .int r9), (0, .ref (V.2.2 3)), (3, .int x3), (4, .int x4)]) hx hb d_Par_fitInto_72 rfl hl (by decide) rfl (fun ls hl => ?_)
      obtain ⟨z12, ez12⟩ : ∃ y : Int32, y = x4 + 1 := ⟨_, rfl⟩
      have h := h z12 ez12
      refine lv_iinc (v := z12) (lv' := [(4, .int z12), (2, .int z11), (5, .int r9), (0, .ref (V.2.2 3)), (3, .int x3)]) hx hb d_Par_fitInto_73 hl (k := 4) rfl (by rw [ez12]; rfl) (by decide) rfl (fun ls hl => ?_)
      refine lv_goto (tgt := 26) hx hb d_Par_fitInto_76 (by decide) ?_
      exact hK26 _ _ _ _ _ _ _ h hI (lv_sub hl [3, 1, 4, 0] rfl)
    · have h := h.2 c10
      obtain ⟨z13, ez13⟩ : ∃ y : Int32, y = x3 + (-1) := ⟨_, rfl⟩
      have h := h z13 ez13
      refine lv_iinc (v := z13) (lv' := [(3, .int z13), (5, .int r9), (0, .ref (V.2.2 3)), (2, .int x2), (4, .int x4)]) hx hb d_Par_fitInto_63 hl (k := 3) rfl (by rw [ez13]; rfl) (by decide) rfl (fun ls hl => ?_)
      refine lv_iconst (v := 0) hx hb d_Par_fitInto_66 (by decide) ?_
      refine lv_istore_n (lv' := [(2, .int 0), (3, .int z13), (5, .int r9), (0, .ref (V.2.2 3)), (4, .int x4)]) hx hb d_Par_fitInto_67 rfl hl (by decide) rfl (fun ls hl => ?_)
      refine lv_iload_n hx hb d_Par_fitInto_68 rfl (lv_at hl 0 rfl) ?_
      refine lv_iload hx hb d_Par_fitInto_69 (lv_at hl 2 rfl) ?_
      refine lv_iadd hx hb d_Par_fitInto_71 ?_
      refine lv_topi (fun z14 ez14 => ?_)
      have h := h z14 ez14
      refine lv_istore_n (lv' := [(2, .int z14), (3, .int z13), (5, .int r9), (0, .ref (V.2.2 3)), (4, .int x4)]) hx hb d_Par_fitInto_72 rfl hl (by decide) rfl (fun ls hl => ?_)
      obtain ⟨z15, ez15⟩ : ∃ y : Int32, y = x4 + 1 := ⟨_, rfl⟩
      have h := h z15 ez15
      refine lv_iinc (v := z15) (lv' := [(4, .int z15), (2, .int z14), (3, .int z13), (5, .int r9), (0, .ref (V.2.2 3))]) hx hb d_Par_fitInto_73 hl (k := 4) rfl (by rw [ez15]; rfl) (by decide) rfl (fun ls hl => ?_)
      refine lv_goto (tgt := 26) hx hb d_Par_fitInto_76 (by decide) ?_
      exact hK26 _ _ _ _ _ _ _ h hI (lv_sub hl [4, 1, 2, 0] rfl)
theorem w_Par_fitInto_L26 {p : Program} {l : Launch} {e : Env} {s : State} {m : MethodId} {args : Array Value} {below : List Frame} {meth : Method} {c : Code} {V : xV} (C : xC p s m args c cd_Par_fitInto 6 R_Par V) (hlocks : meth.locks = false) (hr : meth.sig.returnType = (some .boolean)) {Q : Int32 → xS → Prop} : ∀ (n : Nat) (x2 : Int32) (x3 : Int32) (x4 : Int32) (σ : xS) (H : Heap) (locs : List Loc) (ls : Array Slot), p_Par_fitInto_L26 Q n x2 x3 x4 σ → xI V s.heap σ H locs → lv_has ls 6 [(0, .ref (V.2.2 3)), (2, .int x2), (3, .int x3), (4, .int x4)] → W p l e rm_Par_fitInto s m args below meth c H locs 0 0 (xZi below V args s Q) (F0 m 26 ls []) := by
  intro n
  induction n with
  | zero =>
    intro x2 x3 x4 σ H locs ls h
    exact False.elim h
  | succ n ih =>
    intro x2 x3 x4 σ H locs ls h hI hl
    exact s_Par_fitInto_L26 C hlocks hr (K26 := p_Par_fitInto_L26 Q n) (fun x2 x3 x4 σ H locs ls h hI hl => ih x2 x3 x4 σ H locs ls h hI hl) h hI hl
set_option maxRecDepth 100000 in
set_option maxHeartbeats 4000000 in
theorem c_Par_fitInto {l : Launch} {V : xV} {σ : xS} {x1 : Int32} {Q : Int32 → xS → Prop} (h : p_Par_fitInto x1 σ Q) : xMi l y_Par_fitInto (.code y_Par_fitInto cd_Par_fitInto 6 (some .boolean) :: xG) rm_Par_fitInto V [.ref (V.2.2 3), .int x1] σ Q := by
  refine x_begini (by decide) (Nat.le_of_ble_eq_true rfl) (fun p e s m below meth c ls C hlocks hr hI hl => ?_)
  have C : xC p s m _ c cd_Par_fitInto 6 R_Par V := C
  have hx := C.1
  have hb := C.2.1
  have hl : lv_has ls 6 [(0, .ref (V.2.2 3)), (1, .int x1)] := hl
  unfold p_Par_fitInto at h
  refine lv_aload_n hx hb d_Par_fitInto_0 rfl (lv_at hl 0 rfl) ?_
  refine x_get C hI (d := 3) (by decide) (xE3 V _) fd_Par_9 rfl d_Par_fitInto_1 ?_
  refine x_get C hI (d := 1) (by decide) (xE1 V _) fd_Par_41 rfl d_Par_fitInto_4 ?_
  refine lv_iload_n hx hb d_Par_fitInto_7 rfl (lv_at hl 1 rfl) ?_
  refine x_calli C hI hl.1 (d := 7) (As := [.int x1]) (rest := []) (by decide) (c_Reg_fillOf h) (xE7 V _) rfl yw_Reg_fillOf ml_Par_45 rfl rfl ⟨Nat.le_of_ble_eq_true rfl, Nat.le_of_ble_eq_true rfl⟩ rfl rfl (Nat.le_of_ble_eq_true rfl) d_Par_fitInto_8 ⟨Nat.zero_le _, Nat.zero_le _⟩ (fun r2 σ1 H locs h hI => ?_)
  refine lv_istore_n (lv' := [(2, .int r2), (0, .ref (V.2.2 3)), (1, .int x1)]) hx hb d_Par_fitInto_11 rfl hl (by decide) rfl (fun ls hl => ?_)
  refine lv_aload_n hx hb d_Par_fitInto_12 rfl (lv_at hl 1 rfl) ?_
  refine x_get C hI (d := 3) (by decide) (xE3 V _) fd_Par_9 rfl d_Par_fitInto_13 ?_
  refine x_get C hI (d := 1) (by decide) (xE1 V _) fd_Par_41 rfl d_Par_fitInto_16 ?_
  refine x_calli C hI hl.1 (d := 7) (As := []) (rest := []) (by decide) (c_Reg_freePages h) (xE7 V _) rfl yw_Reg_freePages ml_Par_51 rfl rfl ⟨Nat.le_of_ble_eq_true rfl, Nat.le_of_ble_eq_true rfl⟩ rfl rfl (Nat.le_of_ble_eq_true rfl) d_Par_fitInto_19 ⟨Nat.zero_le _, Nat.zero_le _⟩ (fun r4 σ3 H locs h hI => ?_)
  refine lv_istore_n (lv' := [(3, .int r4), (2, .int r2), (0, .ref (V.2.2 3)), (1, .int x1)]) hx hb d_Par_fitInto_22 rfl hl (by decide) rfl (fun ls hl => ?_)
  refine lv_iconst (v := 0) hx hb d_Par_fitInto_23 (by decide) ?_
  refine lv_istore (lv' := [(4, .int 0), (3, .int r4), (2, .int r2), (0, .ref (V.2.2 3)), (1, .int x1)]) hx hb d_Par_fitInto_24 hl (by decide) rfl (fun ls hl => ?_)
  obtain ⟨n, h⟩ := h
  exact w_Par_fitInto_L26 C hlocks hr n _ _ _ _ _ _ _ h hI (lv_sub hl [3, 2, 1, 0] rfl)
def y_Par_transfer : MethodName := ⟨"RegionPool$Parts", "transfer", "(I)V"⟩
abbrev cd_Par_transfer : ByteArray := prog_8_method_5_code
def y_Par_placeAll : MethodName := ⟨"RegionPool$Parts", "placeAll", "(I)V"⟩
abbrev cd_Par_placeAll : ByteArray := prog_8_method_7_code
theorem ml_Par_83 : Cond.methodLink R_Par 83 y_Mem_startMoves ∈ xG := xG_mem 854 (by decide +kernel) (by decide +kernel)
theorem yw_Reg_takePlaces : xY y_Reg_takePlaces cd_Reg_takePlaces 3 (some .int) 2 := ⟨xG_mem 751 (by decide +kernel) (by decide +kernel), xG_mem 752 (by decide +kernel) (by decide +kernel), xG_mem 59 (by decide +kernel) (by decide +kernel), xG_mem 753 (by decide +kernel) (by decide +kernel), by decide, by decide, by decide +kernel⟩
theorem ml_Par_86 : Cond.methodLink R_Par 86 y_Reg_takePlaces ∈ xG := xG_mem 855 (by decide +kernel) (by decide +kernel)
theorem ml_Par_90 : Cond.methodLink R_Par 90 y_Mem_noteMove ∈ xG := xG_mem 856 (by decide +kernel) (by decide +kernel)
def b_Par_placeAll_L9 (K9 : Int32 → Int32 → xS → Prop) (Q : xS → Prop) (x1 x2 : Int32) (σ : xS) : Prop :=
  (((σ 3 3) ≤ x2 → Q σ) ∧ (¬ (σ 3 3) ≤ x2 → (vp_in x2 640 ∧ p_Hea_sizeOf (σ 12 x2.toNatClampNeg) σ (fun r5 σ4 => p_Reg_takePlaces x1 r5 σ4 (fun r7 σ6 => ((r7 = (-1) → (∀ z9 : Int32, z9 = x2 + 1 → K9 x1 z9 σ6)) ∧ (¬ r7 = (-1) → (vp_in x2 640 ∧ p_Mem_noteMove (σ6 12 x2.toNatClampNeg) r7 σ6 (fun σ11 => (∀ z12 : Int32, z12 = x2 + 1 → K9 x1 z12 σ11))))))))))
def p_Par_placeAll_L9 (Q : xS → Prop) (n : Nat) : Int32 → Int32 → xS → Prop := Nat.rec (motive := fun _ => Int32 → Int32 → xS → Prop) (fun _ _ _ => False) (fun _ K x1 x2 σ => b_Par_placeAll_L9 K Q x1 x2 σ) n
def p_Par_placeAll (x1 : Int32) (σ : xS) (Q : xS → Prop) : Prop :=
  p_Mem_startMoves σ (fun σ1 => (∃ n, p_Par_placeAll_L9 Q n x1 0 σ1))
abbrev rm_Par_placeAll : Room := { frames := 3, cells := 0, slots := 0, locals := 65 }
theorem d_Par_placeAll_0 : decode cd_Par_placeAll 0 = .ok (.aload_n 0, 1) := by decide +kernel
theorem d_Par_placeAll_1 : decode cd_Par_placeAll 1 = .ok (.getfield 9, 3) := by decide +kernel
theorem d_Par_placeAll_4 : decode cd_Par_placeAll 4 = .ok (.invokevirtual 83, 3) := by decide +kernel
theorem d_Par_placeAll_7 : decode cd_Par_placeAll 7 = .ok (.iconst 0, 1) := by decide +kernel
theorem d_Par_placeAll_8 : decode cd_Par_placeAll 8 = .ok (.istore_n 2, 1) := by decide +kernel
theorem d_Par_placeAll_9 : decode cd_Par_placeAll 9 = .ok (.iload_n 2, 1) := by decide +kernel
theorem d_Par_placeAll_10 : decode cd_Par_placeAll 10 = .ok (.aload_n 0, 1) := by decide +kernel
theorem d_Par_placeAll_11 : decode cd_Par_placeAll 11 = .ok (.getfield 23, 3) := by decide +kernel
theorem d_Par_placeAll_14 : decode cd_Par_placeAll 14 = .ok (.if_icmp .ge 56, 3) := by decide +kernel
theorem d_Par_placeAll_17 : decode cd_Par_placeAll 17 = .ok (.aload_n 0, 1) := by decide +kernel
theorem d_Par_placeAll_18 : decode cd_Par_placeAll 18 = .ok (.getfield 9, 3) := by decide +kernel
theorem d_Par_placeAll_21 : decode cd_Par_placeAll 21 = .ok (.getfield 41, 3) := by decide +kernel
theorem d_Par_placeAll_24 : decode cd_Par_placeAll 24 = .ok (.iload_n 1, 1) := by decide +kernel
theorem d_Par_placeAll_25 : decode cd_Par_placeAll 25 = .ok (.aload_n 0, 1) := by decide +kernel
theorem d_Par_placeAll_26 : decode cd_Par_placeAll 26 = .ok (.getfield 9, 3) := by decide +kernel
theorem d_Par_placeAll_29 : decode cd_Par_placeAll 29 = .ok (.getfield 55, 3) := by decide +kernel
theorem d_Par_placeAll_32 : decode cd_Par_placeAll 32 = .ok (.aload_n 0, 1) := by decide +kernel
theorem d_Par_placeAll_33 : decode cd_Par_placeAll 33 = .ok (.getfield 15, 3) := by decide +kernel
theorem d_Par_placeAll_36 : decode cd_Par_placeAll 36 = .ok (.iload_n 2, 1) := by decide +kernel
theorem d_Par_placeAll_37 : decode cd_Par_placeAll 37 = .ok (.iaload, 1) := by decide +kernel
theorem d_Par_placeAll_38 : decode cd_Par_placeAll 38 = .ok (.invokevirtual 59, 3) := by decide +kernel
theorem d_Par_placeAll_41 : decode cd_Par_placeAll 41 = .ok (.invokevirtual 86, 3) := by decide +kernel
theorem d_Par_placeAll_44 : decode cd_Par_placeAll 44 = .ok (.istore_n 3, 1) := by decide +kernel
theorem d_Par_placeAll_45 : decode cd_Par_placeAll 45 = .ok (.iload_n 3, 1) := by decide +kernel
theorem d_Par_placeAll_46 : decode cd_Par_placeAll 46 = .ok (.iconst (-1), 1) := by decide +kernel
theorem d_Par_placeAll_47 : decode cd_Par_placeAll 47 = .ok (.if_icmp .eq 17, 3) := by decide +kernel
theorem d_Par_placeAll_50 : decode cd_Par_placeAll 50 = .ok (.aload_n 0, 1) := by decide +kernel
theorem d_Par_placeAll_51 : decode cd_Par_placeAll 51 = .ok (.getfield 9, 3) := by decide +kernel
theorem d_Par_placeAll_54 : decode cd_Par_placeAll 54 = .ok (.aload_n 0, 1) := by decide +kernel
theorem d_Par_placeAll_55 : decode cd_Par_placeAll 55 = .ok (.getfield 15, 3) := by decide +kernel
theorem d_Par_placeAll_58 : decode cd_Par_placeAll 58 = .ok (.iload_n 2, 1) := by decide +kernel
theorem d_Par_placeAll_59 : decode cd_Par_placeAll 59 = .ok (.iaload, 1) := by decide +kernel
theorem d_Par_placeAll_60 : decode cd_Par_placeAll 60 = .ok (.iload_n 3, 1) := by decide +kernel
theorem d_Par_placeAll_61 : decode cd_Par_placeAll 61 = .ok (.invokevirtual 90, 3) := by decide +kernel
theorem d_Par_placeAll_64 : decode cd_Par_placeAll 64 = .ok (.iinc 2 1, 3) := by decide +kernel
theorem d_Par_placeAll_67 : decode cd_Par_placeAll 67 = .ok (.goto (-58), 3) := by decide +kernel
theorem d_Par_placeAll_70 : decode cd_Par_placeAll 70 = .ok (.return_, 1) := by decide +kernel
set_option maxRecDepth 100000 in
set_option maxHeartbeats 4000000 in
theorem s_Par_placeAll_L9 {p : Program} {l : Launch} {e : Env} {s : State} {m : MethodId} {args : Array Value} {below : List Frame} {meth : Method} {c : Code} {V : xV} (C : xC p s m args c cd_Par_placeAll 4 R_Par V) (hlocks : meth.locks = false) (hr : meth.sig.returnType = none) {Q : xS → Prop} {K9 : Int32 → Int32 → xS → Prop} (hK9 : ∀ (x1 : Int32) (x2 : Int32) (σ : xS) (H : Heap) (locs : List Loc) (ls : Array Slot), K9 x1 x2 σ → xI V s.heap σ H locs → lv_has ls 4 [(0, .ref (V.2.2 3)), (1, .int x1), (2, .int x2)] → W p l e rm_Par_placeAll s m args below meth c H locs 0 0 (xZv below V args s Q) (F0 m 9 ls [])) {x1 x2 : Int32} {σ : xS} {H : Heap} {locs : List Loc} {ls : Array Slot} (h : b_Par_placeAll_L9 K9 Q x1 x2 σ) (hI : xI V s.heap σ H locs) (hl : lv_has ls 4 [(0, .ref (V.2.2 3)), (1, .int x1), (2, .int x2)]) : W p l e rm_Par_placeAll s m args below meth c H locs 0 0 (xZv below V args s Q) (F0 m 9 ls []) := by
  have hx := C.1
  have hb := C.2.1
  unfold b_Par_placeAll_L9 at h
  refine lv_iload_n hx hb d_Par_placeAll_9 rfl (lv_at hl 2 rfl) ?_
  refine lv_aload_n hx hb d_Par_placeAll_10 rfl (lv_at hl 0 rfl) ?_
  refine x_get C hI (d := 3) (by decide) (xE3 V _) fd_Par_23 rfl d_Par_placeAll_11 ?_
  refine lv_icmp_ge (tgt := 70) hx hb d_Par_placeAll_14 (by decide) (fun c2 => ?_) (fun c2 => ?_)
  · have h := h.1 c2
    exact x_vret C hlocks hr hI h d_Par_placeAll_70
  · have h := h.2 c2
    refine lv_aload_n hx hb d_Par_placeAll_17 rfl (lv_at hl 0 rfl) ?_
    refine x_get C hI (d := 3) (by decide) (xE3 V _) fd_Par_9 rfl d_Par_placeAll_18 ?_
    refine x_get C hI (d := 1) (by decide) (xE1 V _) fd_Par_41 rfl d_Par_placeAll_21 ?_
    refine lv_iload_n hx hb d_Par_placeAll_24 rfl (lv_at hl 1 rfl) ?_
    refine lv_aload_n hx hb d_Par_placeAll_25 rfl (lv_at hl 0 rfl) ?_
    refine x_get C hI (d := 3) (by decide) (xE3 V _) fd_Par_9 rfl d_Par_placeAll_26 ?_
    refine x_get C hI (d := 1) (by decide) (xE1 V _) fd_Par_55 rfl d_Par_placeAll_29 ?_
    refine lv_aload_n hx hb d_Par_placeAll_32 rfl (lv_at hl 0 rfl) ?_
    refine x_get C hI (d := 3) (by decide) (xE3 V _) fd_Par_15 rfl d_Par_placeAll_33 ?_
    refine lv_iload_n hx hb d_Par_placeAll_36 rfl (lv_at hl 2 rfl) ?_
    obtain ⟨i3, h⟩ := h
    refine x_iald C hI (d := 12) (by decide) (xE12 V) i3 d_Par_placeAll_37 ?_
    refine x_calli C hI hl.1 (d := 6) (As := [.int (σ 12 x2.toNatClampNeg)]) (rest := [.int x1, .ref (V.2.2 7)]) (by decide) (c_Hea_sizeOf h) (xE6 V _) rfl yw_Hea_sizeOf ml_Par_59 rfl rfl ⟨Nat.le_of_ble_eq_true rfl, Nat.le_of_ble_eq_true rfl⟩ rfl rfl (Nat.le_of_ble_eq_true rfl) d_Par_placeAll_38 ⟨Nat.zero_le _, Nat.zero_le _⟩ (fun r5 σ4 H locs h hI => ?_)
    refine x_calli C hI hl.1 (d := 7) (As := [.int x1, .int r5]) (rest := []) (by decide) (c_Reg_takePlaces h) (xE7 V _) rfl yw_Reg_takePlaces ml_Par_86 rfl rfl ⟨Nat.le_of_ble_eq_true rfl, Nat.le_of_ble_eq_true rfl⟩ rfl rfl (Nat.le_of_ble_eq_true rfl) d_Par_placeAll_41 ⟨Nat.zero_le _, Nat.zero_le _⟩ (fun r7 σ6 H locs h hI => ?_)
    refine lv_istore_n (lv' := [(3, .int r7), (0, .ref (V.2.2 3)), (1, .int x1), (2, .int x2)]) hx hb d_Par_placeAll_44 rfl hl (by decide) rfl (fun ls hl => ?_)
    refine lv_iload_n hx hb d_Par_placeAll_45 rfl (lv_at hl 0 rfl) ?_
    refine lv_iconst (v := (-1)) hx hb d_Par_placeAll_46 (by decide) ?_
    refine lv_icmp_eq (tgt := 64) hx hb d_Par_placeAll_47 (by decide) (fun c8 => ?_) (fun c8 => ?_)
    · have h := h.1 c8
      obtain ⟨z9, ez9⟩ : ∃ y : Int32, y = x2 + 1 := ⟨_, rfl⟩
      have h := h z9 ez9
      refine lv_iinc (v := z9) (lv' := [(2, .int z9), (3, .int r7), (0, .ref (V.2.2 3)), (1, .int x1)]) hx hb d_Par_placeAll_64 hl (k := 3) rfl (by rw [ez9]; rfl) (by decide) rfl (fun ls hl => ?_)
      refine lv_goto (tgt := 9) hx hb d_Par_placeAll_67 (by decide) ?_
      exact hK9 _ _ _ _ _ _ h hI (lv_sub hl [2, 3, 0] rfl)
    · have h := h.2 c8
      refine lv_aload_n hx hb d_Par_placeAll_50 rfl (lv_at hl 1 rfl) ?_
      refine x_get C hI (d := 3) (by decide) (xE3 V _) fd_Par_9 rfl d_Par_placeAll_51 ?_
      refine lv_aload_n hx hb d_Par_placeAll_54 rfl (lv_at hl 1 rfl) ?_
      refine x_get C hI (d := 3) (by decide) (xE3 V _) fd_Par_15 rfl d_Par_placeAll_55 ?_
      refine lv_iload_n hx hb d_Par_placeAll_58 rfl (lv_at hl 3 rfl) ?_
      obtain ⟨i10, h⟩ := h
      refine x_iald C hI (d := 12) (by decide) (xE12 V) i10 d_Par_placeAll_59 ?_
      refine lv_iload_n hx hb d_Par_placeAll_60 rfl (lv_at hl 0 rfl) ?_
      refine x_callv C hI hl.1 (d := 1) (As := [.int (σ6 12 x2.toNatClampNeg), .int r7]) (rest := []) (by decide) (c_Mem_noteMove h) (xE1 V _) rfl yw_Mem_noteMove ml_Par_90 rfl rfl ⟨Nat.le_of_ble_eq_true rfl, Nat.le_of_ble_eq_true rfl⟩ rfl rfl (Nat.le_of_ble_eq_true rfl) d_Par_placeAll_61 ⟨Nat.zero_le _, Nat.zero_le _⟩ (fun σ11 H locs h hI => ?_)
      obtain ⟨z12, ez12⟩ : ∃ y : Int32, y = x2 + 1 := ⟨_, rfl⟩
      have h := h z12 ez12
      refine lv_iinc (v := z12) (lv' := [(2, .int z12), (3, .int r7), (0, .ref (V.2.2 3)), (1, .int x1)]) hx hb d_Par_placeAll_64 hl (k := 3) rfl (by rw [ez12]; rfl) (by decide) rfl (fun ls hl => ?_)
      refine lv_goto (tgt := 9) hx hb d_Par_placeAll_67 (by decide) ?_
      exact hK9 _ _ _ _ _ _ h hI (lv_sub hl [2, 3, 0] rfl)
theorem w_Par_placeAll_L9 {p : Program} {l : Launch} {e : Env} {s : State} {m : MethodId} {args : Array Value} {below : List Frame} {meth : Method} {c : Code} {V : xV} (C : xC p s m args c cd_Par_placeAll 4 R_Par V) (hlocks : meth.locks = false) (hr : meth.sig.returnType = none) {Q : xS → Prop} : ∀ (n : Nat) (x1 : Int32) (x2 : Int32) (σ : xS) (H : Heap) (locs : List Loc) (ls : Array Slot), p_Par_placeAll_L9 Q n x1 x2 σ → xI V s.heap σ H locs → lv_has ls 4 [(0, .ref (V.2.2 3)), (1, .int x1), (2, .int x2)] → W p l e rm_Par_placeAll s m args below meth c H locs 0 0 (xZv below V args s Q) (F0 m 9 ls []) := by
  intro n
  induction n with
  | zero =>
    intro x1 x2 σ H locs ls h
    exact False.elim h
  | succ n ih =>
    intro x1 x2 σ H locs ls h hI hl
    exact s_Par_placeAll_L9 C hlocks hr (K9 := p_Par_placeAll_L9 Q n) (fun x1 x2 σ H locs ls h hI hl => ih x1 x2 σ H locs ls h hI hl) h hI hl
set_option maxRecDepth 100000 in
set_option maxHeartbeats 4000000 in
theorem c_Par_placeAll {l : Launch} {V : xV} {σ : xS} {x1 : Int32} {Q : xS → Prop} (h : p_Par_placeAll x1 σ Q) : xMv l y_Par_placeAll (.code y_Par_placeAll cd_Par_placeAll 4 none :: xG) rm_Par_placeAll V [.ref (V.2.2 3), .int x1] σ Q := by
  refine x_beginv (by decide) (Nat.le_of_ble_eq_true rfl) (fun p e s m below meth c ls C hlocks hr hI hl => ?_)
  have C : xC p s m _ c cd_Par_placeAll 4 R_Par V := C
  have hx := C.1
  have hb := C.2.1
  have hl : lv_has ls 4 [(0, .ref (V.2.2 3)), (1, .int x1)] := hl
  unfold p_Par_placeAll at h
  refine lv_aload_n hx hb d_Par_placeAll_0 rfl (lv_at hl 0 rfl) ?_
  refine x_get C hI (d := 3) (by decide) (xE3 V _) fd_Par_9 rfl d_Par_placeAll_1 ?_
  refine x_callv C hI hl.1 (d := 1) (As := []) (rest := []) (by decide) (c_Mem_startMoves h) (xE1 V _) rfl yw_Mem_startMoves ml_Par_83 rfl rfl ⟨Nat.le_of_ble_eq_true rfl, Nat.le_of_ble_eq_true rfl⟩ rfl rfl (Nat.le_of_ble_eq_true rfl) d_Par_placeAll_4 ⟨Nat.zero_le _, Nat.zero_le _⟩ (fun σ1 H locs h hI => ?_)
  refine lv_iconst (v := 0) hx hb d_Par_placeAll_7 (by decide) ?_
  refine lv_istore_n (lv' := [(2, .int 0), (0, .ref (V.2.2 3)), (1, .int x1)]) hx hb d_Par_placeAll_8 rfl hl (by decide) rfl (fun ls hl => ?_)
  obtain ⟨n, h⟩ := h
  exact w_Par_placeAll_L9 C hlocks hr n _ _ _ _ _ _ h hI (lv_sub hl [1, 2, 0] rfl)
theorem yw_Par_placeAll : xY y_Par_placeAll cd_Par_placeAll 4 none 1 := ⟨xG_mem 852 (by decide +kernel) (by decide +kernel), xG_mem 23 (by decide +kernel) (by decide +kernel), xG_mem 63 (by decide +kernel) (by decide +kernel), xG_mem 853 (by decide +kernel) (by decide +kernel), by decide, by decide, by decide +kernel⟩
theorem ml_Par_64 : Cond.methodLink R_Par 64 y_Par_placeAll ∈ xG := xG_mem 850 (by decide +kernel) (by decide +kernel)
theorem ml_Par_74 : Cond.methodLink R_Par 74 y_Mem_followAllMoves ∈ xG := xG_mem 862 (by decide +kernel) (by decide +kernel)
theorem yw_Mem_newPlaceOf : xY y_Mem_newPlaceOf cd_Mem_newPlaceOf 2 (some .int) 1 := ⟨xG_mem 858 (by decide +kernel) (by decide +kernel), xG_mem 859 (by decide +kernel) (by decide +kernel), xG_mem 55 (by decide +kernel) (by decide +kernel), xG_mem 860 (by decide +kernel) (by decide +kernel), by decide, by decide, by decide +kernel⟩
theorem ml_Par_68 : Cond.methodLink R_Par 68 y_Mem_newPlaceOf ∈ xG := xG_mem 857 (by decide +kernel) (by decide +kernel)
theorem ml_Par_71 : Cond.methodLink R_Par 71 y_Hea_carry ∈ xG := xG_mem 861 (by decide +kernel) (by decide +kernel)
def b_Par_transfer_L7 (K7 : Int32 → xS → Prop) (Q : xS → Prop) (x2 : Int32) (σ : xS) : Prop :=
  (((σ 3 3) ≤ x2 → p_Mem_followAllMoves σ (fun σ3 => Q σ3)) ∧ (¬ (σ 3 3) ≤ x2 → (vp_in x2 640 ∧ (vp_in x2 640 ∧ p_Mem_newPlaceOf (σ 12 x2.toNatClampNeg) σ (fun r7 σ6 => p_Hea_carry (σ 12 x2.toNatClampNeg) r7 σ6 (fun σ8 => (∀ z9 : Int32, z9 = x2 + 1 → K7 z9 σ8)))))))
def p_Par_transfer_L7 (Q : xS → Prop) (n : Nat) : Int32 → xS → Prop := Nat.rec (motive := fun _ => Int32 → xS → Prop) (fun _ _ => False) (fun _ K x2 σ => b_Par_transfer_L7 K Q x2 σ) n
def p_Par_transfer (x1 : Int32) (σ : xS) (Q : xS → Prop) : Prop :=
  p_Par_placeAll x1 σ (fun σ1 => (∃ n, p_Par_transfer_L7 Q n 0 σ1))
abbrev rm_Par_transfer : Room := { frames := 4, cells := 0, slots := 0, locals := 88 }
theorem d_Par_transfer_0 : decode cd_Par_transfer 0 = .ok (.aload_n 0, 1) := by decide +kernel
theorem d_Par_transfer_1 : decode cd_Par_transfer 1 = .ok (.iload_n 1, 1) := by decide +kernel
theorem d_Par_transfer_2 : decode cd_Par_transfer 2 = .ok (.invokevirtual 64, 3) := by decide +kernel
theorem d_Par_transfer_5 : decode cd_Par_transfer 5 = .ok (.iconst 0, 1) := by decide +kernel
theorem d_Par_transfer_6 : decode cd_Par_transfer 6 = .ok (.istore_n 2, 1) := by decide +kernel
theorem d_Par_transfer_7 : decode cd_Par_transfer 7 = .ok (.iload_n 2, 1) := by decide +kernel
theorem d_Par_transfer_8 : decode cd_Par_transfer 8 = .ok (.aload_n 0, 1) := by decide +kernel
theorem d_Par_transfer_9 : decode cd_Par_transfer 9 = .ok (.getfield 23, 3) := by decide +kernel
theorem d_Par_transfer_12 : decode cd_Par_transfer 12 = .ok (.if_icmp .ge 38, 3) := by decide +kernel
theorem d_Par_transfer_15 : decode cd_Par_transfer 15 = .ok (.aload_n 0, 1) := by decide +kernel
theorem d_Par_transfer_16 : decode cd_Par_transfer 16 = .ok (.getfield 9, 3) := by decide +kernel
theorem d_Par_transfer_19 : decode cd_Par_transfer 19 = .ok (.getfield 55, 3) := by decide +kernel
theorem d_Par_transfer_22 : decode cd_Par_transfer 22 = .ok (.aload_n 0, 1) := by decide +kernel
theorem d_Par_transfer_23 : decode cd_Par_transfer 23 = .ok (.getfield 15, 3) := by decide +kernel
theorem d_Par_transfer_26 : decode cd_Par_transfer 26 = .ok (.iload_n 2, 1) := by decide +kernel
theorem d_Par_transfer_27 : decode cd_Par_transfer 27 = .ok (.iaload, 1) := by decide +kernel
theorem d_Par_transfer_28 : decode cd_Par_transfer 28 = .ok (.aload_n 0, 1) := by decide +kernel
theorem d_Par_transfer_29 : decode cd_Par_transfer 29 = .ok (.getfield 9, 3) := by decide +kernel
theorem d_Par_transfer_32 : decode cd_Par_transfer 32 = .ok (.aload_n 0, 1) := by decide +kernel
theorem d_Par_transfer_33 : decode cd_Par_transfer 33 = .ok (.getfield 15, 3) := by decide +kernel
theorem d_Par_transfer_36 : decode cd_Par_transfer 36 = .ok (.iload_n 2, 1) := by decide +kernel
theorem d_Par_transfer_37 : decode cd_Par_transfer 37 = .ok (.iaload, 1) := by decide +kernel
theorem d_Par_transfer_38 : decode cd_Par_transfer 38 = .ok (.invokevirtual 68, 3) := by decide +kernel
theorem d_Par_transfer_41 : decode cd_Par_transfer 41 = .ok (.invokevirtual 71, 3) := by decide +kernel
theorem d_Par_transfer_44 : decode cd_Par_transfer 44 = .ok (.iinc 2 1, 3) := by decide +kernel
theorem d_Par_transfer_47 : decode cd_Par_transfer 47 = .ok (.goto (-40), 3) := by decide +kernel
theorem d_Par_transfer_50 : decode cd_Par_transfer 50 = .ok (.aload_n 0, 1) := by decide +kernel
theorem d_Par_transfer_51 : decode cd_Par_transfer 51 = .ok (.getfield 9, 3) := by decide +kernel
theorem d_Par_transfer_54 : decode cd_Par_transfer 54 = .ok (.invokevirtual 74, 3) := by decide +kernel
theorem d_Par_transfer_57 : decode cd_Par_transfer 57 = .ok (.return_, 1) := by decide +kernel
set_option maxRecDepth 100000 in
set_option maxHeartbeats 4000000 in
theorem s_Par_transfer_L7 {p : Program} {l : Launch} {e : Env} {s : State} {m : MethodId} {args : Array Value} {below : List Frame} {meth : Method} {c : Code} {V : xV} (C : xC p s m args c cd_Par_transfer 3 R_Par V) (hlocks : meth.locks = false) (hr : meth.sig.returnType = none) {Q : xS → Prop} {K7 : Int32 → xS → Prop} (hK7 : ∀ (x2 : Int32) (σ : xS) (H : Heap) (locs : List Loc) (ls : Array Slot), K7 x2 σ → xI V s.heap σ H locs → lv_has ls 3 [(0, .ref (V.2.2 3)), (2, .int x2)] → W p l e rm_Par_transfer s m args below meth c H locs 0 0 (xZv below V args s Q) (F0 m 7 ls [])) {x2 : Int32} {σ : xS} {H : Heap} {locs : List Loc} {ls : Array Slot} (h : b_Par_transfer_L7 K7 Q x2 σ) (hI : xI V s.heap σ H locs) (hl : lv_has ls 3 [(0, .ref (V.2.2 3)), (2, .int x2)]) : W p l e rm_Par_transfer s m args below meth c H locs 0 0 (xZv below V args s Q) (F0 m 7 ls []) := by
  have hx := C.1
  have hb := C.2.1
  unfold b_Par_transfer_L7 at h
  refine lv_iload_n hx hb d_Par_transfer_7 rfl (lv_at hl 1 rfl) ?_
  refine lv_aload_n hx hb d_Par_transfer_8 rfl (lv_at hl 0 rfl) ?_
  refine x_get C hI (d := 3) (by decide) (xE3 V _) fd_Par_23 rfl d_Par_transfer_9 ?_
  refine lv_icmp_ge (tgt := 50) hx hb d_Par_transfer_12 (by decide) (fun c2 => ?_) (fun c2 => ?_)
  · have h := h.1 c2
    refine lv_aload_n hx hb d_Par_transfer_50 rfl (lv_at hl 0 rfl) ?_
    refine x_get C hI (d := 3) (by decide) (xE3 V _) fd_Par_9 rfl d_Par_transfer_51 ?_
    refine x_callv C hI hl.1 (d := 1) (As := []) (rest := []) (by decide) (c_Mem_followAllMoves h) (xE1 V _) rfl yw_Mem_followAllMoves ml_Par_74 rfl rfl ⟨Nat.le_of_ble_eq_true rfl, Nat.le_of_ble_eq_true rfl⟩ rfl rfl (Nat.le_of_ble_eq_true rfl) d_Par_transfer_54 ⟨Nat.zero_le _, Nat.zero_le _⟩ (fun σ3 H locs h hI => ?_)
    exact x_vret C hlocks hr hI h d_Par_transfer_57
  · have h := h.2 c2
    refine lv_aload_n hx hb d_Par_transfer_15 rfl (lv_at hl 0 rfl) ?_
    refine x_get C hI (d := 3) (by decide) (xE3 V _) fd_Par_9 rfl d_Par_transfer_16 ?_
    refine x_get C hI (d := 1) (by decide) (xE1 V _) fd_Par_55 rfl d_Par_transfer_19 ?_
    refine lv_aload_n hx hb d_Par_transfer_22 rfl (lv_at hl 0 rfl) ?_
    refine x_get C hI (d := 3) (by decide) (xE3 V _) fd_Par_15 rfl d_Par_transfer_23 ?_
    refine lv_iload_n hx hb d_Par_transfer_26 rfl (lv_at hl 1 rfl) ?_
    obtain ⟨i4, h⟩ := h
    refine x_iald C hI (d := 12) (by decide) (xE12 V) i4 d_Par_transfer_27 ?_
    refine lv_aload_n hx hb d_Par_transfer_28 rfl (lv_at hl 0 rfl) ?_
    refine x_get C hI (d := 3) (by decide) (xE3 V _) fd_Par_9 rfl d_Par_transfer_29 ?_
    refine lv_aload_n hx hb d_Par_transfer_32 rfl (lv_at hl 0 rfl) ?_
    refine x_get C hI (d := 3) (by decide) (xE3 V _) fd_Par_15 rfl d_Par_transfer_33 ?_
    refine lv_iload_n hx hb d_Par_transfer_36 rfl (lv_at hl 1 rfl) ?_
    obtain ⟨i5, h⟩ := h
    refine x_iald C hI (d := 12) (by decide) (xE12 V) i5 d_Par_transfer_37 ?_
    refine x_calli C hI hl.1 (d := 1) (As := [.int (σ 12 x2.toNatClampNeg)]) (rest := [.int (σ 12 x2.toNatClampNeg), .ref (V.2.2 6)]) (by decide) (c_Mem_newPlaceOf h) (xE1 V _) rfl yw_Mem_newPlaceOf ml_Par_68 rfl rfl ⟨Nat.le_of_ble_eq_true rfl, Nat.le_of_ble_eq_true rfl⟩ rfl rfl (Nat.le_of_ble_eq_true rfl) d_Par_transfer_38 ⟨Nat.zero_le _, Nat.zero_le _⟩ (fun r7 σ6 H locs h hI => ?_)
    refine x_callv C hI hl.1 (d := 6) (As := [.int (σ 12 x2.toNatClampNeg), .int r7]) (rest := []) (by decide) (c_Hea_carry h) (xE6 V _) rfl yw_Hea_carry ml_Par_71 rfl rfl ⟨Nat.le_of_ble_eq_true rfl, Nat.le_of_ble_eq_true rfl⟩ rfl rfl (Nat.le_of_ble_eq_true rfl) d_Par_transfer_41 ⟨Nat.zero_le _, Nat.zero_le _⟩ (fun σ8 H locs h hI => ?_)
    obtain ⟨z9, ez9⟩ : ∃ y : Int32, y = x2 + 1 := ⟨_, rfl⟩
    have h := h z9 ez9
    refine lv_iinc (v := z9) (lv' := [(2, .int z9), (0, .ref (V.2.2 3))]) hx hb d_Par_transfer_44 hl (k := 1) rfl (by rw [ez9]; rfl) (by decide) rfl (fun ls hl => ?_)
    refine lv_goto (tgt := 7) hx hb d_Par_transfer_47 (by decide) ?_
    exact hK7 _ _ _ _ _ h hI (lv_sub hl [1, 0] rfl)
theorem w_Par_transfer_L7 {p : Program} {l : Launch} {e : Env} {s : State} {m : MethodId} {args : Array Value} {below : List Frame} {meth : Method} {c : Code} {V : xV} (C : xC p s m args c cd_Par_transfer 3 R_Par V) (hlocks : meth.locks = false) (hr : meth.sig.returnType = none) {Q : xS → Prop} : ∀ (n : Nat) (x2 : Int32) (σ : xS) (H : Heap) (locs : List Loc) (ls : Array Slot), p_Par_transfer_L7 Q n x2 σ → xI V s.heap σ H locs → lv_has ls 3 [(0, .ref (V.2.2 3)), (2, .int x2)] → W p l e rm_Par_transfer s m args below meth c H locs 0 0 (xZv below V args s Q) (F0 m 7 ls []) := by
  intro n
  induction n with
  | zero =>
    intro x2 σ H locs ls h
    exact False.elim h
  | succ n ih =>
    intro x2 σ H locs ls h hI hl
    exact s_Par_transfer_L7 C hlocks hr (K7 := p_Par_transfer_L7 Q n) (fun x2 σ H locs ls h hI hl => ih x2 σ H locs ls h hI hl) h hI hl
set_option maxRecDepth 100000 in
set_option maxHeartbeats 4000000 in
theorem c_Par_transfer {l : Launch} {V : xV} {σ : xS} {x1 : Int32} {Q : xS → Prop} (h : p_Par_transfer x1 σ Q) : xMv l y_Par_transfer (.code y_Par_transfer cd_Par_transfer 3 none :: xG) rm_Par_transfer V [.ref (V.2.2 3), .int x1] σ Q := by
  refine x_beginv (by decide) (Nat.le_of_ble_eq_true rfl) (fun p e s m below meth c ls C hlocks hr hI hl => ?_)
  have C : xC p s m _ c cd_Par_transfer 3 R_Par V := C
  have hx := C.1
  have hb := C.2.1
  have hl : lv_has ls 3 [(0, .ref (V.2.2 3)), (1, .int x1)] := hl
  unfold p_Par_transfer at h
  refine lv_aload_n hx hb d_Par_transfer_0 rfl (lv_at hl 0 rfl) ?_
  refine lv_iload_n hx hb d_Par_transfer_1 rfl (lv_at hl 1 rfl) ?_
  refine x_callv C hI hl.1 (d := 3) (As := [.int x1]) (rest := []) (by decide) (c_Par_placeAll h) (xE3 V _) rfl yw_Par_placeAll ml_Par_64 rfl rfl ⟨Nat.le_of_ble_eq_true rfl, Nat.le_of_ble_eq_true rfl⟩ rfl rfl (Nat.le_of_ble_eq_true rfl) d_Par_transfer_2 ⟨Nat.zero_le _, Nat.zero_le _⟩ (fun σ1 H locs h hI => ?_)
  refine lv_iconst (v := 0) hx hb d_Par_transfer_5 (by decide) ?_
  refine lv_istore_n (lv' := [(2, .int 0), (0, .ref (V.2.2 3)), (1, .int x1)]) hx hb d_Par_transfer_6 rfl hl (by decide) rfl (fun ls hl => ?_)
  obtain ⟨n, h⟩ := h
  exact w_Par_transfer_L7 C hlocks hr n _ _ _ _ _ h hI (lv_sub hl [1, 0] rfl)
def y_Par_duplicate : MethodName := ⟨"RegionPool$Parts", "duplicate", "(I)V"⟩
abbrev cd_Par_duplicate : ByteArray := prog_8_method_6_code
theorem yw_Hea_duplicate : xY y_Hea_duplicate cd_Hea_duplicate 5 none 2 := ⟨xG_mem 879 (by decide +kernel) (by decide +kernel), xG_mem 880 (by decide +kernel) (by decide +kernel), xG_mem 57 (by decide +kernel) (by decide +kernel), xG_mem 881 (by decide +kernel) (by decide +kernel), by decide, by decide, by decide +kernel⟩
theorem ml_Par_77 : Cond.methodLink R_Par 77 y_Hea_duplicate ∈ xG := xG_mem 878 (by decide +kernel) (by decide +kernel)
def y_Par_followFieldsOf : MethodName := ⟨"RegionPool$Parts", "followFieldsOf", "(I)V"⟩
abbrev cd_Par_followFieldsOf : ByteArray := prog_8_method_10_code
theorem yw_Mem_followMove : xY y_Mem_followMove cd_Mem_followMove 3 none 2 := ⟨xG_mem 888 (by decide +kernel) (by decide +kernel), xG_mem 889 (by decide +kernel) (by decide +kernel), xG_mem 55 (by decide +kernel) (by decide +kernel), xG_mem 890 (by decide +kernel) (by decide +kernel), by decide, by decide, by decide +kernel⟩
theorem ml_Par_108 : Cond.methodLink R_Par 108 y_Mem_followMove ∈ xG := xG_mem 887 (by decide +kernel) (by decide +kernel)
def b_Par_followFieldsOf_L14 (K14 : Int32 → Int32 → Int32 → xS → Prop) (Q : xS → Prop) (x1 x2 x3 : Int32) (σ : xS) : Prop :=
  ((x2 ≤ x3 → Q σ) ∧ (¬ x2 ≤ x3 → p_Mem_followMove_1_19 ((x1 + 1) + x3) σ (fun σ4 => (∀ z5 : Int32, z5 = x3 + 1 → K14 x1 x2 z5 σ4))))
def p_Par_followFieldsOf_L14 (Q : xS → Prop) (n : Nat) : Int32 → Int32 → Int32 → xS → Prop := Nat.rec (motive := fun _ => Int32 → Int32 → Int32 → xS → Prop) (fun _ _ _ _ => False) (fun _ K x1 x2 x3 σ => b_Par_followFieldsOf_L14 K Q x1 x2 x3 σ) n
def p_Par_followFieldsOf (x1 : Int32) (σ : xS) (Q : xS → Prop) : Prop :=
  p_Hea_fieldsOf x1 σ (fun r2 σ1 => (∃ n, p_Par_followFieldsOf_L14 Q n x1 r2 0 σ1))
abbrev rm_Par_followFieldsOf : Room := { frames := 3, cells := 0, slots := 0, locals := 67 }
theorem d_Par_followFieldsOf_0 : decode cd_Par_followFieldsOf 0 = .ok (.aload_n 0, 1) := by decide +kernel
theorem d_Par_followFieldsOf_1 : decode cd_Par_followFieldsOf 1 = .ok (.getfield 9, 3) := by decide +kernel
theorem d_Par_followFieldsOf_4 : decode cd_Par_followFieldsOf 4 = .ok (.getfield 55, 3) := by decide +kernel
theorem d_Par_followFieldsOf_7 : decode cd_Par_followFieldsOf 7 = .ok (.iload_n 1, 1) := by decide +kernel
theorem d_Par_followFieldsOf_8 : decode cd_Par_followFieldsOf 8 = .ok (.invokevirtual 102, 3) := by decide +kernel
theorem d_Par_followFieldsOf_11 : decode cd_Par_followFieldsOf 11 = .ok (.istore_n 2, 1) := by decide +kernel
theorem d_Par_followFieldsOf_12 : decode cd_Par_followFieldsOf 12 = .ok (.iconst 0, 1) := by decide +kernel
theorem d_Par_followFieldsOf_13 : decode cd_Par_followFieldsOf 13 = .ok (.istore_n 3, 1) := by decide +kernel
theorem d_Par_followFieldsOf_14 : decode cd_Par_followFieldsOf 14 = .ok (.iload_n 3, 1) := by decide +kernel
theorem d_Par_followFieldsOf_15 : decode cd_Par_followFieldsOf 15 = .ok (.iload_n 2, 1) := by decide +kernel
theorem d_Par_followFieldsOf_16 : decode cd_Par_followFieldsOf 16 = .ok (.if_icmp .ge 31, 3) := by decide +kernel
theorem d_Par_followFieldsOf_19 : decode cd_Par_followFieldsOf 19 = .ok (.aload_n 0, 1) := by decide +kernel
theorem d_Par_followFieldsOf_20 : decode cd_Par_followFieldsOf 20 = .ok (.getfield 9, 3) := by decide +kernel
theorem d_Par_followFieldsOf_23 : decode cd_Par_followFieldsOf 23 = .ok (.aload_n 0, 1) := by decide +kernel
theorem d_Par_followFieldsOf_24 : decode cd_Par_followFieldsOf 24 = .ok (.getfield 9, 3) := by decide +kernel
theorem d_Par_followFieldsOf_27 : decode cd_Par_followFieldsOf 27 = .ok (.getfield 55, 3) := by decide +kernel
theorem d_Par_followFieldsOf_30 : decode cd_Par_followFieldsOf 30 = .ok (.getfield 105, 3) := by decide +kernel
theorem d_Par_followFieldsOf_33 : decode cd_Par_followFieldsOf 33 = .ok (.iload_n 1, 1) := by decide +kernel
theorem d_Par_followFieldsOf_34 : decode cd_Par_followFieldsOf 34 = .ok (.iconst 1, 1) := by decide +kernel
theorem d_Par_followFieldsOf_35 : decode cd_Par_followFieldsOf 35 = .ok (.iadd, 1) := by decide +kernel
theorem d_Par_followFieldsOf_36 : decode cd_Par_followFieldsOf 36 = .ok (.iload_n 3, 1) := by decide +kernel
theorem d_Par_followFieldsOf_37 : decode cd_Par_followFieldsOf 37 = .ok (.iadd, 1) := by decide +kernel
theorem d_Par_followFieldsOf_38 : decode cd_Par_followFieldsOf 38 = .ok (.invokevirtual 108, 3) := by decide +kernel
theorem d_Par_followFieldsOf_41 : decode cd_Par_followFieldsOf 41 = .ok (.iinc 3 1, 3) := by decide +kernel
theorem d_Par_followFieldsOf_44 : decode cd_Par_followFieldsOf 44 = .ok (.goto (-30), 3) := by decide +kernel
theorem d_Par_followFieldsOf_47 : decode cd_Par_followFieldsOf 47 = .ok (.return_, 1) := by decide +kernel
set_option maxRecDepth 100000 in
set_option maxHeartbeats 4000000 in
theorem s_Par_followFieldsOf_L14 {p : Program} {l : Launch} {e : Env} {s : State} {m : MethodId} {args : Array Value} {below : List Frame} {meth : Method} {c : Code} {V : xV} (C : xC p s m args c cd_Par_followFieldsOf 4 R_Par V) (hlocks : meth.locks = false) (hr : meth.sig.returnType = none) {Q : xS → Prop} {K14 : Int32 → Int32 → Int32 → xS → Prop} (hK14 : ∀ (x1 : Int32) (x2 : Int32) (x3 : Int32) (σ : xS) (H : Heap) (locs : List Loc) (ls : Array Slot), K14 x1 x2 x3 σ → xI V s.heap σ H locs → lv_has ls 4 [(0, .ref (V.2.2 3)), (1, .int x1), (2, .int x2), (3, .int x3)] → W p l e rm_Par_followFieldsOf s m args below meth c H locs 0 0 (xZv below V args s Q) (F0 m 14 ls [])) {x1 x2 x3 : Int32} {σ : xS} {H : Heap} {locs : List Loc} {ls : Array Slot} (h : b_Par_followFieldsOf_L14 K14 Q x1 x2 x3 σ) (hI : xI V s.heap σ H locs) (hl : lv_has ls 4 [(0, .ref (V.2.2 3)), (1, .int x1), (2, .int x2), (3, .int x3)]) : W p l e rm_Par_followFieldsOf s m args below meth c H locs 0 0 (xZv below V args s Q) (F0 m 14 ls []) := by
  have hx := C.1
  have hb := C.2.1
  unfold b_Par_followFieldsOf_L14 at h
  refine lv_iload_n hx hb d_Par_followFieldsOf_14 rfl (lv_at hl 3 rfl) ?_
  refine lv_iload_n hx hb d_Par_followFieldsOf_15 rfl (lv_at hl 2 rfl) ?_
  refine lv_icmp_ge (tgt := 47) hx hb d_Par_followFieldsOf_16 (by decide) (fun c3 => ?_) (fun c3 => ?_)
  · have h := h.1 c3
    exact x_vret C hlocks hr hI h d_Par_followFieldsOf_47
  · have h := h.2 c3
    refine lv_aload_n hx hb d_Par_followFieldsOf_19 rfl (lv_at hl 0 rfl) ?_
    refine x_get C hI (d := 3) (by decide) (xE3 V _) fd_Par_9 rfl d_Par_followFieldsOf_20 ?_
    refine lv_aload_n hx hb d_Par_followFieldsOf_23 rfl (lv_at hl 0 rfl) ?_
    refine x_get C hI (d := 3) (by decide) (xE3 V _) fd_Par_9 rfl d_Par_followFieldsOf_24 ?_
    refine x_get C hI (d := 1) (by decide) (xE1 V _) fd_Par_55 rfl d_Par_followFieldsOf_27 ?_
    refine x_get C hI (d := 6) (by decide) (xE6 V _) fd_Par_105 rfl d_Par_followFieldsOf_30 ?_
    refine lv_iload_n hx hb d_Par_followFieldsOf_33 rfl (lv_at hl 1 rfl) ?_
    refine lv_iconst (v := 1) hx hb d_Par_followFieldsOf_34 (by decide) ?_
    refine lv_iadd hx hb d_Par_followFieldsOf_35 ?_
    refine lv_iload_n hx hb d_Par_followFieldsOf_36 rfl (lv_at hl 3 rfl) ?_
    refine lv_iadd hx hb d_Par_followFieldsOf_37 ?_
    refine x_callv C hI hl.1 (d := 1) (As := [.ref (V.2.2 19), .int ((x1 + 1) + x3)]) (rest := []) (by decide) (c_Mem_followMove_1_19 h) (xE1 V _) rfl yw_Mem_followMove ml_Par_108 rfl rfl ⟨Nat.le_of_ble_eq_true rfl, Nat.le_of_ble_eq_true rfl⟩ rfl rfl (Nat.le_of_ble_eq_true rfl) d_Par_followFieldsOf_38 ⟨Nat.zero_le _, Nat.zero_le _⟩ (fun σ4 H locs h hI => ?_)
    obtain ⟨z5, ez5⟩ : ∃ y : Int32, y = x3 + 1 := ⟨_, rfl⟩
    have h := h z5 ez5
    refine lv_iinc (v := z5) (lv' := [(3, .int z5), (0, .ref (V.2.2 3)), (1, .int x1), (2, .int x2)]) hx hb d_Par_followFieldsOf_41 hl (k := 3) rfl (by rw [ez5]; rfl) (by decide) rfl (fun ls hl => ?_)
    refine lv_goto (tgt := 14) hx hb d_Par_followFieldsOf_44 (by decide) ?_
    exact hK14 _ _ _ _ _ _ _ h hI (lv_sub hl [1, 2, 3, 0] rfl)
theorem w_Par_followFieldsOf_L14 {p : Program} {l : Launch} {e : Env} {s : State} {m : MethodId} {args : Array Value} {below : List Frame} {meth : Method} {c : Code} {V : xV} (C : xC p s m args c cd_Par_followFieldsOf 4 R_Par V) (hlocks : meth.locks = false) (hr : meth.sig.returnType = none) {Q : xS → Prop} : ∀ (n : Nat) (x1 : Int32) (x2 : Int32) (x3 : Int32) (σ : xS) (H : Heap) (locs : List Loc) (ls : Array Slot), p_Par_followFieldsOf_L14 Q n x1 x2 x3 σ → xI V s.heap σ H locs → lv_has ls 4 [(0, .ref (V.2.2 3)), (1, .int x1), (2, .int x2), (3, .int x3)] → W p l e rm_Par_followFieldsOf s m args below meth c H locs 0 0 (xZv below V args s Q) (F0 m 14 ls []) := by
  intro n
  induction n with
  | zero =>
    intro x1 x2 x3 σ H locs ls h
    exact False.elim h
  | succ n ih =>
    intro x1 x2 x3 σ H locs ls h hI hl
    exact s_Par_followFieldsOf_L14 C hlocks hr (K14 := p_Par_followFieldsOf_L14 Q n) (fun x1 x2 x3 σ H locs ls h hI hl => ih x1 x2 x3 σ H locs ls h hI hl) h hI hl
set_option maxRecDepth 100000 in
set_option maxHeartbeats 4000000 in
theorem c_Par_followFieldsOf {l : Launch} {V : xV} {σ : xS} {x1 : Int32} {Q : xS → Prop} (h : p_Par_followFieldsOf x1 σ Q) : xMv l y_Par_followFieldsOf (.code y_Par_followFieldsOf cd_Par_followFieldsOf 4 none :: xG) rm_Par_followFieldsOf V [.ref (V.2.2 3), .int x1] σ Q := by
  refine x_beginv (by decide) (Nat.le_of_ble_eq_true rfl) (fun p e s m below meth c ls C hlocks hr hI hl => ?_)
  have C : xC p s m _ c cd_Par_followFieldsOf 4 R_Par V := C
  have hx := C.1
  have hb := C.2.1
  have hl : lv_has ls 4 [(0, .ref (V.2.2 3)), (1, .int x1)] := hl
  unfold p_Par_followFieldsOf at h
  refine lv_aload_n hx hb d_Par_followFieldsOf_0 rfl (lv_at hl 0 rfl) ?_
  refine x_get C hI (d := 3) (by decide) (xE3 V _) fd_Par_9 rfl d_Par_followFieldsOf_1 ?_
  refine x_get C hI (d := 1) (by decide) (xE1 V _) fd_Par_55 rfl d_Par_followFieldsOf_4 ?_
  refine lv_iload_n hx hb d_Par_followFieldsOf_7 rfl (lv_at hl 1 rfl) ?_
  refine x_calli C hI hl.1 (d := 6) (As := [.int x1]) (rest := []) (by decide) (c_Hea_fieldsOf h) (xE6 V _) rfl yw_Hea_fieldsOf ml_Par_102 rfl rfl ⟨Nat.le_of_ble_eq_true rfl, Nat.le_of_ble_eq_true rfl⟩ rfl rfl (Nat.le_of_ble_eq_true rfl) d_Par_followFieldsOf_8 ⟨Nat.zero_le _, Nat.zero_le _⟩ (fun r2 σ1 H locs h hI => ?_)
  refine lv_istore_n (lv' := [(2, .int r2), (0, .ref (V.2.2 3)), (1, .int x1)]) hx hb d_Par_followFieldsOf_11 rfl hl (by decide) rfl (fun ls hl => ?_)
  refine lv_iconst (v := 0) hx hb d_Par_followFieldsOf_12 (by decide) ?_
  refine lv_istore_n (lv' := [(3, .int 0), (2, .int r2), (0, .ref (V.2.2 3)), (1, .int x1)]) hx hb d_Par_followFieldsOf_13 rfl hl (by decide) rfl (fun ls hl => ?_)
  obtain ⟨n, h⟩ := h
  exact w_Par_followFieldsOf_L14 C hlocks hr n _ _ _ _ _ _ _ h hI (lv_sub hl [2, 3, 1, 0] rfl)
theorem yw_Par_followFieldsOf : xY y_Par_followFieldsOf cd_Par_followFieldsOf 4 none 1 := ⟨xG_mem 885 (by decide +kernel) (by decide +kernel), xG_mem 24 (by decide +kernel) (by decide +kernel), xG_mem 63 (by decide +kernel) (by decide +kernel), xG_mem 886 (by decide +kernel) (by decide +kernel), by decide, by decide, by decide +kernel⟩
theorem ml_Par_80 : Cond.methodLink R_Par 80 y_Par_followFieldsOf ∈ xG := xG_mem 883 (by decide +kernel) (by decide +kernel)
def b_Par_duplicate_L7 (K7 : Int32 → xS → Prop) (Q : xS → Prop) (x2 : Int32) (σ : xS) : Prop :=
  (((σ 3 3) ≤ x2 → Q σ) ∧ (¬ (σ 3 3) ≤ x2 → (vp_in x2 640 ∧ p_Mem_newPlaceOf (σ 12 x2.toNatClampNeg) σ (fun r5 σ4 => (vp_in x2 640 ∧ p_Hea_duplicate (σ4 12 x2.toNatClampNeg) r5 σ4 (fun σ7 => p_Par_followFieldsOf r5 σ7 (fun σ8 => (∀ z9 : Int32, z9 = x2 + 1 → K7 z9 σ8))))))))
def p_Par_duplicate_L7 (Q : xS → Prop) (n : Nat) : Int32 → xS → Prop := Nat.rec (motive := fun _ => Int32 → xS → Prop) (fun _ _ => False) (fun _ K x2 σ => b_Par_duplicate_L7 K Q x2 σ) n
def p_Par_duplicate (x1 : Int32) (σ : xS) (Q : xS → Prop) : Prop :=
  p_Par_placeAll x1 σ (fun σ1 => (∃ n, p_Par_duplicate_L7 Q n 0 σ1))
abbrev rm_Par_duplicate : Room := { frames := 4, cells := 0, slots := 0, locals := 90 }
theorem d_Par_duplicate_0 : decode cd_Par_duplicate 0 = .ok (.aload_n 0, 1) := by decide +kernel
theorem d_Par_duplicate_1 : decode cd_Par_duplicate 1 = .ok (.iload_n 1, 1) := by decide +kernel
theorem d_Par_duplicate_2 : decode cd_Par_duplicate 2 = .ok (.invokevirtual 64, 3) := by decide +kernel
theorem d_Par_duplicate_5 : decode cd_Par_duplicate 5 = .ok (.iconst 0, 1) := by decide +kernel
theorem d_Par_duplicate_6 : decode cd_Par_duplicate 6 = .ok (.istore_n 2, 1) := by decide +kernel
theorem d_Par_duplicate_7 : decode cd_Par_duplicate 7 = .ok (.iload_n 2, 1) := by decide +kernel
theorem d_Par_duplicate_8 : decode cd_Par_duplicate 8 = .ok (.aload_n 0, 1) := by decide +kernel
theorem d_Par_duplicate_9 : decode cd_Par_duplicate 9 = .ok (.getfield 23, 3) := by decide +kernel
theorem d_Par_duplicate_12 : decode cd_Par_duplicate 12 = .ok (.if_icmp .ge 45, 3) := by decide +kernel
theorem d_Par_duplicate_15 : decode cd_Par_duplicate 15 = .ok (.aload_n 0, 1) := by decide +kernel
theorem d_Par_duplicate_16 : decode cd_Par_duplicate 16 = .ok (.getfield 9, 3) := by decide +kernel
theorem d_Par_duplicate_19 : decode cd_Par_duplicate 19 = .ok (.aload_n 0, 1) := by decide +kernel
theorem d_Par_duplicate_20 : decode cd_Par_duplicate 20 = .ok (.getfield 15, 3) := by decide +kernel
theorem d_Par_duplicate_23 : decode cd_Par_duplicate 23 = .ok (.iload_n 2, 1) := by decide +kernel
theorem d_Par_duplicate_24 : decode cd_Par_duplicate 24 = .ok (.iaload, 1) := by decide +kernel
theorem d_Par_duplicate_25 : decode cd_Par_duplicate 25 = .ok (.invokevirtual 68, 3) := by decide +kernel
theorem d_Par_duplicate_28 : decode cd_Par_duplicate 28 = .ok (.istore_n 3, 1) := by decide +kernel
theorem d_Par_duplicate_29 : decode cd_Par_duplicate 29 = .ok (.aload_n 0, 1) := by decide +kernel
theorem d_Par_duplicate_30 : decode cd_Par_duplicate 30 = .ok (.getfield 9, 3) := by decide +kernel
theorem d_Par_duplicate_33 : decode cd_Par_duplicate 33 = .ok (.getfield 55, 3) := by decide +kernel
theorem d_Par_duplicate_36 : decode cd_Par_duplicate 36 = .ok (.aload_n 0, 1) := by decide +kernel
theorem d_Par_duplicate_37 : decode cd_Par_duplicate 37 = .ok (.getfield 15, 3) := by decide +kernel
theorem d_Par_duplicate_40 : decode cd_Par_duplicate 40 = .ok (.iload_n 2, 1) := by decide +kernel
theorem d_Par_duplicate_41 : decode cd_Par_duplicate 41 = .ok (.iaload, 1) := by decide +kernel
theorem d_Par_duplicate_42 : decode cd_Par_duplicate 42 = .ok (.iload_n 3, 1) := by decide +kernel
theorem d_Par_duplicate_43 : decode cd_Par_duplicate 43 = .ok (.invokevirtual 77, 3) := by decide +kernel
theorem d_Par_duplicate_46 : decode cd_Par_duplicate 46 = .ok (.aload_n 0, 1) := by decide +kernel
theorem d_Par_duplicate_47 : decode cd_Par_duplicate 47 = .ok (.iload_n 3, 1) := by decide +kernel
theorem d_Par_duplicate_48 : decode cd_Par_duplicate 48 = .ok (.invokevirtual 80, 3) := by decide +kernel
theorem d_Par_duplicate_51 : decode cd_Par_duplicate 51 = .ok (.iinc 2 1, 3) := by decide +kernel
theorem d_Par_duplicate_54 : decode cd_Par_duplicate 54 = .ok (.goto (-47), 3) := by decide +kernel
theorem d_Par_duplicate_57 : decode cd_Par_duplicate 57 = .ok (.return_, 1) := by decide +kernel
set_option maxRecDepth 100000 in
set_option maxHeartbeats 4000000 in
theorem s_Par_duplicate_L7 {p : Program} {l : Launch} {e : Env} {s : State} {m : MethodId} {args : Array Value} {below : List Frame} {meth : Method} {c : Code} {V : xV} (C : xC p s m args c cd_Par_duplicate 4 R_Par V) (hlocks : meth.locks = false) (hr : meth.sig.returnType = none) {Q : xS → Prop} {K7 : Int32 → xS → Prop} (hK7 : ∀ (x2 : Int32) (σ : xS) (H : Heap) (locs : List Loc) (ls : Array Slot), K7 x2 σ → xI V s.heap σ H locs → lv_has ls 4 [(0, .ref (V.2.2 3)), (2, .int x2)] → W p l e rm_Par_duplicate s m args below meth c H locs 0 0 (xZv below V args s Q) (F0 m 7 ls [])) {x2 : Int32} {σ : xS} {H : Heap} {locs : List Loc} {ls : Array Slot} (h : b_Par_duplicate_L7 K7 Q x2 σ) (hI : xI V s.heap σ H locs) (hl : lv_has ls 4 [(0, .ref (V.2.2 3)), (2, .int x2)]) : W p l e rm_Par_duplicate s m args below meth c H locs 0 0 (xZv below V args s Q) (F0 m 7 ls []) := by
  have hx := C.1
  have hb := C.2.1
  unfold b_Par_duplicate_L7 at h
  refine lv_iload_n hx hb d_Par_duplicate_7 rfl (lv_at hl 1 rfl) ?_
  refine lv_aload_n hx hb d_Par_duplicate_8 rfl (lv_at hl 0 rfl) ?_
  refine x_get C hI (d := 3) (by decide) (xE3 V _) fd_Par_23 rfl d_Par_duplicate_9 ?_
  refine lv_icmp_ge (tgt := 57) hx hb d_Par_duplicate_12 (by decide) (fun c2 => ?_) (fun c2 => ?_)
  · have h := h.1 c2
    exact x_vret C hlocks hr hI h d_Par_duplicate_57
  · have h := h.2 c2
    refine lv_aload_n hx hb d_Par_duplicate_15 rfl (lv_at hl 0 rfl) ?_
    refine x_get C hI (d := 3) (by decide) (xE3 V _) fd_Par_9 rfl d_Par_duplicate_16 ?_
    refine lv_aload_n hx hb d_Par_duplicate_19 rfl (lv_at hl 0 rfl) ?_
    refine x_get C hI (d := 3) (by decide) (xE3 V _) fd_Par_15 rfl d_Par_duplicate_20 ?_
    refine lv_iload_n hx hb d_Par_duplicate_23 rfl (lv_at hl 1 rfl) ?_
    obtain ⟨i3, h⟩ := h
    refine x_iald C hI (d := 12) (by decide) (xE12 V) i3 d_Par_duplicate_24 ?_
    refine x_calli C hI hl.1 (d := 1) (As := [.int (σ 12 x2.toNatClampNeg)]) (rest := []) (by decide) (c_Mem_newPlaceOf h) (xE1 V _) rfl yw_Mem_newPlaceOf ml_Par_68 rfl rfl ⟨Nat.le_of_ble_eq_true rfl, Nat.le_of_ble_eq_true rfl⟩ rfl rfl (Nat.le_of_ble_eq_true rfl) d_Par_duplicate_25 ⟨Nat.zero_le _, Nat.zero_le _⟩ (fun r5 σ4 H locs h hI => ?_)
    refine lv_istore_n (lv' := [(3, .int r5), (0, .ref (V.2.2 3)), (2, .int x2)]) hx hb d_Par_duplicate_28 rfl hl (by decide) rfl (fun ls hl => ?_)
    refine lv_aload_n hx hb d_Par_duplicate_29 rfl (lv_at hl 1 rfl) ?_
    refine x_get C hI (d := 3) (by decide) (xE3 V _) fd_Par_9 rfl d_Par_duplicate_30 ?_
    refine x_get C hI (d := 1) (by decide) (xE1 V _) fd_Par_55 rfl d_Par_duplicate_33 ?_
    refine lv_aload_n hx hb d_Par_duplicate_36 rfl (lv_at hl 1 rfl) ?_
    refine x_get C hI (d := 3) (by decide) (xE3 V _) fd_Par_15 rfl d_Par_duplicate_37 ?_
    refine lv_iload_n hx hb d_Par_duplicate_40 rfl (lv_at hl 2 rfl) ?_
    obtain ⟨i6, h⟩ := h
    refine x_iald C hI (d := 12) (by decide) (xE12 V) i6 d_Par_duplicate_41 ?_
    refine lv_iload_n hx hb d_Par_duplicate_42 rfl (lv_at hl 0 rfl) ?_
    refine x_callv C hI hl.1 (d := 6) (As := [.int (σ4 12 x2.toNatClampNeg), .int r5]) (rest := []) (by decide) (c_Hea_duplicate h) (xE6 V _) rfl yw_Hea_duplicate ml_Par_77 rfl rfl ⟨Nat.le_of_ble_eq_true rfl, Nat.le_of_ble_eq_true rfl⟩ rfl rfl (Nat.le_of_ble_eq_true rfl) d_Par_duplicate_43 ⟨Nat.zero_le _, Nat.zero_le _⟩ (fun σ7 H locs h hI => ?_)
    refine lv_aload_n hx hb d_Par_duplicate_46 rfl (lv_at hl 1 rfl) ?_
    refine lv_iload_n hx hb d_Par_duplicate_47 rfl (lv_at hl 0 rfl) ?_
    refine x_callv C hI hl.1 (d := 3) (As := [.int r5]) (rest := []) (by decide) (c_Par_followFieldsOf h) (xE3 V _) rfl yw_Par_followFieldsOf ml_Par_80 rfl rfl ⟨Nat.le_of_ble_eq_true rfl, Nat.le_of_ble_eq_true rfl⟩ rfl rfl (Nat.le_of_ble_eq_true rfl) d_Par_duplicate_48 ⟨Nat.zero_le _, Nat.zero_le _⟩ (fun σ8 H locs h hI => ?_)
    obtain ⟨z9, ez9⟩ : ∃ y : Int32, y = x2 + 1 := ⟨_, rfl⟩
    have h := h z9 ez9
    refine lv_iinc (v := z9) (lv' := [(2, .int z9), (3, .int r5), (0, .ref (V.2.2 3))]) hx hb d_Par_duplicate_51 hl (k := 2) rfl (by rw [ez9]; rfl) (by decide) rfl (fun ls hl => ?_)
    refine lv_goto (tgt := 7) hx hb d_Par_duplicate_54 (by decide) ?_
    exact hK7 _ _ _ _ _ h hI (lv_sub hl [2, 0] rfl)
theorem w_Par_duplicate_L7 {p : Program} {l : Launch} {e : Env} {s : State} {m : MethodId} {args : Array Value} {below : List Frame} {meth : Method} {c : Code} {V : xV} (C : xC p s m args c cd_Par_duplicate 4 R_Par V) (hlocks : meth.locks = false) (hr : meth.sig.returnType = none) {Q : xS → Prop} : ∀ (n : Nat) (x2 : Int32) (σ : xS) (H : Heap) (locs : List Loc) (ls : Array Slot), p_Par_duplicate_L7 Q n x2 σ → xI V s.heap σ H locs → lv_has ls 4 [(0, .ref (V.2.2 3)), (2, .int x2)] → W p l e rm_Par_duplicate s m args below meth c H locs 0 0 (xZv below V args s Q) (F0 m 7 ls []) := by
  intro n
  induction n with
  | zero =>
    intro x2 σ H locs ls h
    exact False.elim h
  | succ n ih =>
    intro x2 σ H locs ls h hI hl
    exact s_Par_duplicate_L7 C hlocks hr (K7 := p_Par_duplicate_L7 Q n) (fun x2 σ H locs ls h hI hl => ih x2 σ H locs ls h hI hl) h hI hl
set_option maxRecDepth 100000 in
set_option maxHeartbeats 4000000 in
theorem c_Par_duplicate {l : Launch} {V : xV} {σ : xS} {x1 : Int32} {Q : xS → Prop} (h : p_Par_duplicate x1 σ Q) : xMv l y_Par_duplicate (.code y_Par_duplicate cd_Par_duplicate 4 none :: xG) rm_Par_duplicate V [.ref (V.2.2 3), .int x1] σ Q := by
  refine x_beginv (by decide) (Nat.le_of_ble_eq_true rfl) (fun p e s m below meth c ls C hlocks hr hI hl => ?_)
  have C : xC p s m _ c cd_Par_duplicate 4 R_Par V := C
  have hx := C.1
  have hb := C.2.1
  have hl : lv_has ls 4 [(0, .ref (V.2.2 3)), (1, .int x1)] := hl
  unfold p_Par_duplicate at h
  refine lv_aload_n hx hb d_Par_duplicate_0 rfl (lv_at hl 0 rfl) ?_
  refine lv_iload_n hx hb d_Par_duplicate_1 rfl (lv_at hl 1 rfl) ?_
  refine x_callv C hI hl.1 (d := 3) (As := [.int x1]) (rest := []) (by decide) (c_Par_placeAll h) (xE3 V _) rfl yw_Par_placeAll ml_Par_64 rfl rfl ⟨Nat.le_of_ble_eq_true rfl, Nat.le_of_ble_eq_true rfl⟩ rfl rfl (Nat.le_of_ble_eq_true rfl) d_Par_duplicate_2 ⟨Nat.zero_le _, Nat.zero_le _⟩ (fun σ1 H locs h hI => ?_)
  refine lv_iconst (v := 0) hx hb d_Par_duplicate_5 (by decide) ?_
  refine lv_istore_n (lv' := [(2, .int 0), (0, .ref (V.2.2 3)), (1, .int x1)]) hx hb d_Par_duplicate_6 rfl hl (by decide) rfl (fun ls hl => ?_)
  obtain ⟨n, h⟩ := h
  exact w_Par_duplicate_L7 C hlocks hr n _ _ _ _ _ h hI (lv_sub hl [1, 0] rfl)
