def y_Col_collections : MethodName := ⟨"RegionPool$Collector", "collections", "()I"⟩
abbrev cd_Col_collections : ByteArray := prog_2_method_2_code
theorem fd_Col_24 : xFd R_Col 24 2 2 := ⟨R_Col, T_Col, 5, rfl, in_Col, by decide, xG_mem 223 (by decide +kernel) (by decide +kernel)⟩
def p_Col_collections (σ : xS) (Q : Int32 → xS → Prop) : Prop :=
  Q (σ 2 2) σ
abbrev rm_Col_collections : Room := { frames := 0, cells := 0, slots := 0, locals := 0 }
theorem d_Col_collections_0 : decode cd_Col_collections 0 = .ok (.aload_n 0, 1) := by decide +kernel
theorem d_Col_collections_1 : decode cd_Col_collections 1 = .ok (.getfield 24, 3) := by decide +kernel
theorem d_Col_collections_4 : decode cd_Col_collections 4 = .ok (.ireturn, 1) := by decide +kernel
set_option maxRecDepth 100000 in
set_option maxHeartbeats 4000000 in
theorem c_Col_collections {l : Launch} {V : xV} {σ : xS} {Q : Int32 → xS → Prop} (h : p_Col_collections σ Q) : xMi l y_Col_collections (.code y_Col_collections cd_Col_collections 1 (some .int) :: xG) rm_Col_collections V [.ref (V.2.2 2)] σ Q := by
  refine x_begini (by decide) (Nat.le_of_ble_eq_true rfl) (fun p e s m below meth c ls C hlocks hr hI hl => ?_)
  have C : xC p s m _ c cd_Col_collections 1 R_Col V := C
  have hx := C.1
  have hb := C.2.1
  have hl : lv_has ls 1 [(0, .ref (V.2.2 2))] := hl
  unfold p_Col_collections at h
  refine lv_aload_n hx hb d_Col_collections_0 rfl (lv_at hl 0 rfl) ?_
  refine x_get C hI (d := 2) (by decide) (xE2 V _) fd_Col_24 rfl d_Col_collections_1 ?_
  exact x_iret C hlocks hr hI h d_Col_collections_4
def y_Col_goneInAll : MethodName := ⟨"RegionPool$Collector", "goneInAll", "()I"⟩
abbrev cd_Col_goneInAll : ByteArray := prog_2_method_3_code
theorem fd_Col_28 : xFd R_Col 28 2 3 := ⟨R_Col, T_Col, 5, rfl, in_Col, by decide, xG_mem 224 (by decide +kernel) (by decide +kernel)⟩
def p_Col_goneInAll (σ : xS) (Q : Int32 → xS → Prop) : Prop :=
  Q (σ 2 3) σ
abbrev rm_Col_goneInAll : Room := { frames := 0, cells := 0, slots := 0, locals := 0 }
theorem d_Col_goneInAll_0 : decode cd_Col_goneInAll 0 = .ok (.aload_n 0, 1) := by decide +kernel
theorem d_Col_goneInAll_1 : decode cd_Col_goneInAll 1 = .ok (.getfield 28, 3) := by decide +kernel
theorem d_Col_goneInAll_4 : decode cd_Col_goneInAll 4 = .ok (.ireturn, 1) := by decide +kernel
set_option maxRecDepth 100000 in
set_option maxHeartbeats 4000000 in
theorem c_Col_goneInAll {l : Launch} {V : xV} {σ : xS} {Q : Int32 → xS → Prop} (h : p_Col_goneInAll σ Q) : xMi l y_Col_goneInAll (.code y_Col_goneInAll cd_Col_goneInAll 1 (some .int) :: xG) rm_Col_goneInAll V [.ref (V.2.2 2)] σ Q := by
  refine x_begini (by decide) (Nat.le_of_ble_eq_true rfl) (fun p e s m below meth c ls C hlocks hr hI hl => ?_)
  have C : xC p s m _ c cd_Col_goneInAll 1 R_Col V := C
  have hx := C.1
  have hb := C.2.1
  have hl : lv_has ls 1 [(0, .ref (V.2.2 2))] := hl
  unfold p_Col_goneInAll at h
  refine lv_aload_n hx hb d_Col_goneInAll_0 rfl (lv_at hl 0 rfl) ?_
  refine x_get C hI (d := 2) (by decide) (xE2 V _) fd_Col_28 rfl d_Col_goneInAll_1 ?_
  exact x_iret C hlocks hr hI h d_Col_goneInAll_4
def y_Col_movedInAll : MethodName := ⟨"RegionPool$Collector", "movedInAll", "()I"⟩
abbrev cd_Col_movedInAll : ByteArray := prog_2_method_4_code
theorem fd_Col_31 : xFd R_Col 31 2 4 := ⟨R_Col, T_Col, 5, rfl, in_Col, by decide, xG_mem 225 (by decide +kernel) (by decide +kernel)⟩
def p_Col_movedInAll (σ : xS) (Q : Int32 → xS → Prop) : Prop :=
  Q (σ 2 4) σ
abbrev rm_Col_movedInAll : Room := { frames := 0, cells := 0, slots := 0, locals := 0 }
theorem d_Col_movedInAll_0 : decode cd_Col_movedInAll 0 = .ok (.aload_n 0, 1) := by decide +kernel
theorem d_Col_movedInAll_1 : decode cd_Col_movedInAll 1 = .ok (.getfield 31, 3) := by decide +kernel
theorem d_Col_movedInAll_4 : decode cd_Col_movedInAll 4 = .ok (.ireturn, 1) := by decide +kernel
set_option maxRecDepth 100000 in
set_option maxHeartbeats 4000000 in
theorem c_Col_movedInAll {l : Launch} {V : xV} {σ : xS} {Q : Int32 → xS → Prop} (h : p_Col_movedInAll σ Q) : xMi l y_Col_movedInAll (.code y_Col_movedInAll cd_Col_movedInAll 1 (some .int) :: xG) rm_Col_movedInAll V [.ref (V.2.2 2)] σ Q := by
  refine x_begini (by decide) (Nat.le_of_ble_eq_true rfl) (fun p e s m below meth c ls C hlocks hr hI hl => ?_)
  have C : xC p s m _ c cd_Col_movedInAll 1 R_Col V := C
  have hx := C.1
  have hb := C.2.1
  have hl : lv_has ls 1 [(0, .ref (V.2.2 2))] := hl
  unfold p_Col_movedInAll at h
  refine lv_aload_n hx hb d_Col_movedInAll_0 rfl (lv_at hl 0 rfl) ?_
  refine x_get C hI (d := 2) (by decide) (xE2 V _) fd_Col_31 rfl d_Col_movedInAll_1 ?_
  exact x_iret C hlocks hr hI h d_Col_movedInAll_4
def y_Col_run : MethodName := ⟨"RegionPool$Collector", "run", "(I)I"⟩
abbrev cd_Col_run : ByteArray := prog_2_method_5_code
theorem fd_Col_20 : xFd R_Col 20 2 1 := ⟨R_Col, T_Col, 5, rfl, in_Col, by decide, xG_mem 222 (by decide +kernel) (by decide +kernel)⟩
theorem yw_Mar_start : xY y_Mar_start cd_Mar_start 3 none 1 := ⟨xG_mem 540 (by decide +kernel) (by decide +kernel), xG_mem 541 (by decide +kernel) (by decide +kernel), xG_mem 62 (by decide +kernel) (by decide +kernel), xG_mem 542 (by decide +kernel) (by decide +kernel), by decide, by decide, by decide +kernel⟩
theorem ml_Col_34 : Cond.methodLink R_Col 34 y_Mar_start ∈ xG := xG_mem 539 (by decide +kernel) (by decide +kernel)
theorem yw_Mar_reachRoots : xY y_Mar_reachRoots cd_Mar_reachRoots 2 none 0 := ⟨xG_mem 546 (by decide +kernel) (by decide +kernel), xG_mem 547 (by decide +kernel) (by decide +kernel), xG_mem 62 (by decide +kernel) (by decide +kernel), xG_mem 548 (by decide +kernel) (by decide +kernel), by decide, by decide, by decide +kernel⟩
theorem ml_Col_38 : Cond.methodLink R_Col 38 y_Mar_reachRoots ∈ xG := xG_mem 545 (by decide +kernel) (by decide +kernel)
theorem yw_Mar_reachQueue : xY y_Mar_reachQueue cd_Mar_reachQueue 2 none 0 := ⟨xG_mem 556 (by decide +kernel) (by decide +kernel), xG_mem 557 (by decide +kernel) (by decide +kernel), xG_mem 62 (by decide +kernel) (by decide +kernel), xG_mem 558 (by decide +kernel) (by decide +kernel), by decide, by decide, by decide +kernel⟩
theorem ml_Col_41 : Cond.methodLink R_Col 41 y_Mar_reachQueue ∈ xG := xG_mem 555 (by decide +kernel) (by decide +kernel)
theorem yw_Mar_spread : xY y_Mar_spread cd_Mar_spread 2 none 0 := ⟨xG_mem 565 (by decide +kernel) (by decide +kernel), xG_mem 566 (by decide +kernel) (by decide +kernel), xG_mem 62 (by decide +kernel) (by decide +kernel), xG_mem 567 (by decide +kernel) (by decide +kernel), by decide, by decide, by decide +kernel⟩
theorem ml_Col_44 : Cond.methodLink R_Col 44 y_Mar_spread ∈ xG := xG_mem 564 (by decide +kernel) (by decide +kernel)
def y_Col_clearWeakFields : MethodName := ⟨"RegionPool$Collector", "clearWeakFields", "()V"⟩
abbrev cd_Col_clearWeakFields : ByteArray := prog_2_method_7_code
def y_Col_isLiveOf : MethodName := ⟨"RegionPool$Collector", "isLiveOf", "(II)Z"⟩
abbrev cd_Col_isLiveOf : ByteArray := prog_2_method_6_code
theorem ml_Col_87 : Cond.methodLink R_Col 87 y_Mar_isLive ∈ xG := xG_mem 597 (by decide +kernel) (by decide +kernel)
theorem fd_Col_9 : xFd R_Col 9 2 0 := ⟨R_Col, T_Col, 5, rfl, in_Col, by decide, xG_mem 221 (by decide +kernel) (by decide +kernel)⟩
theorem fd_Col_91 : xFd R_Col 91 1 1 := ⟨R_Mem, T_Mem, 6, rfl, in_Mem, by decide, xG_mem 168 (by decide +kernel) (by decide +kernel)⟩
theorem ml_Col_95 : Cond.methodLink R_Col 95 y_Hea_kindOf ∈ xG := xG_mem 601 (by decide +kernel) (by decide +kernel)
def p_Col_isLiveOf (x1 x2 : Int32) (σ : xS) (Q : Int32 → xS → Prop) : Prop :=
  p_Mar_isLive x1 σ (fun r2 σ1 => ((r2 = 0 → Q 0 σ1) ∧ (¬ r2 = 0 → p_Hea_kindOf x1 σ1 (fun r5 σ4 => ((¬ r5 = x2 → Q 0 σ4) ∧ (r5 = x2 → Q 1 σ4))))))
abbrev rm_Col_isLiveOf : Room := { frames := 1, cells := 0, slots := 0, locals := 21 }
theorem d_Col_isLiveOf_0 : decode cd_Col_isLiveOf 0 = .ok (.aload_n 0, 1) := by decide +kernel
theorem d_Col_isLiveOf_1 : decode cd_Col_isLiveOf 1 = .ok (.getfield 20, 3) := by decide +kernel
theorem d_Col_isLiveOf_4 : decode cd_Col_isLiveOf 4 = .ok (.iload_n 1, 1) := by decide +kernel
theorem d_Col_isLiveOf_5 : decode cd_Col_isLiveOf 5 = .ok (.invokevirtual 87, 3) := by decide +kernel
theorem d_Col_isLiveOf_8 : decode cd_Col_isLiveOf 8 = .ok (.ifCond .eq 22, 3) := by decide +kernel
theorem d_Col_isLiveOf_11 : decode cd_Col_isLiveOf 11 = .ok (.aload_n 0, 1) := by decide +kernel
theorem d_Col_isLiveOf_12 : decode cd_Col_isLiveOf 12 = .ok (.getfield 9, 3) := by decide +kernel
theorem d_Col_isLiveOf_15 : decode cd_Col_isLiveOf 15 = .ok (.getfield 91, 3) := by decide +kernel
theorem d_Col_isLiveOf_18 : decode cd_Col_isLiveOf 18 = .ok (.iload_n 1, 1) := by decide +kernel
theorem d_Col_isLiveOf_19 : decode cd_Col_isLiveOf 19 = .ok (.invokevirtual 95, 3) := by decide +kernel
theorem d_Col_isLiveOf_22 : decode cd_Col_isLiveOf 22 = .ok (.iload_n 2, 1) := by decide +kernel
theorem d_Col_isLiveOf_23 : decode cd_Col_isLiveOf 23 = .ok (.if_icmp .ne 7, 3) := by decide +kernel
theorem d_Col_isLiveOf_26 : decode cd_Col_isLiveOf 26 = .ok (.iconst 1, 1) := by decide +kernel
theorem d_Col_isLiveOf_27 : decode cd_Col_isLiveOf 27 = .ok (.goto 4, 3) := by decide +kernel
theorem d_Col_isLiveOf_30 : decode cd_Col_isLiveOf 30 = .ok (.iconst 0, 1) := by decide +kernel
theorem d_Col_isLiveOf_31 : decode cd_Col_isLiveOf 31 = .ok (.ireturn, 1) := by decide +kernel
set_option maxRecDepth 100000 in
set_option maxHeartbeats 4000000 in
theorem c_Col_isLiveOf {l : Launch} {V : xV} {σ : xS} {x1 x2 : Int32} {Q : Int32 → xS → Prop} (h : p_Col_isLiveOf x1 x2 σ Q) : xMi l y_Col_isLiveOf (.code y_Col_isLiveOf cd_Col_isLiveOf 3 (some .boolean) :: xG) rm_Col_isLiveOf V [.ref (V.2.2 2), .int x1, .int x2] σ Q := by
  refine x_begini (by decide) (Nat.le_of_ble_eq_true rfl) (fun p e s m below meth c ls C hlocks hr hI hl => ?_)
  have C : xC p s m _ c cd_Col_isLiveOf 3 R_Col V := C
  have hx := C.1
  have hb := C.2.1
  have hl : lv_has ls 3 [(0, .ref (V.2.2 2)), (1, .int x1), (2, .int x2)] := hl
  unfold p_Col_isLiveOf at h
  refine lv_aload_n hx hb d_Col_isLiveOf_0 rfl (lv_at hl 0 rfl) ?_
  refine x_get C hI (d := 2) (by decide) (xE2 V _) fd_Col_20 rfl d_Col_isLiveOf_1 ?_
  refine lv_iload_n hx hb d_Col_isLiveOf_4 rfl (lv_at hl 1 rfl) ?_
  refine x_calli C hI hl.1 (d := 11) (As := [.int x1]) (rest := []) (by decide) (c_Mar_isLive h) (xE11 V _) rfl yw_Mar_isLive ml_Col_87 rfl rfl ⟨Nat.le_of_ble_eq_true rfl, Nat.le_of_ble_eq_true rfl⟩ rfl rfl (Nat.le_of_ble_eq_true rfl) d_Col_isLiveOf_5 ⟨Nat.zero_le _, Nat.zero_le _⟩ (fun r2 σ1 H locs h hI => ?_)
  refine lv_if_eq (tgt := 30) hx hb d_Col_isLiveOf_8 (by decide) (fun c3 => ?_) (fun c3 => ?_)
  · have h := h.1 c3
    refine lv_iconst (v := 0) hx hb d_Col_isLiveOf_30 (by decide) ?_
    exact x_zret C hlocks hr hI ⟨rfl, h⟩ d_Col_isLiveOf_31
  · have h := h.2 c3
    refine lv_aload_n hx hb d_Col_isLiveOf_11 rfl (lv_at hl 0 rfl) ?_
    refine x_get C hI (d := 2) (by decide) (xE2 V _) fd_Col_9 rfl d_Col_isLiveOf_12 ?_
    refine x_get C hI (d := 1) (by decide) (xE1 V _) fd_Col_91 rfl d_Col_isLiveOf_15 ?_
    refine lv_iload_n hx hb d_Col_isLiveOf_18 rfl (lv_at hl 1 rfl) ?_
    refine x_calli C hI hl.1 (d := 6) (As := [.int x1]) (rest := []) (by decide) (c_Hea_kindOf h) (xE6 V _) rfl yw_Hea_kindOf ml_Col_95 rfl rfl ⟨Nat.le_of_ble_eq_true rfl, Nat.le_of_ble_eq_true rfl⟩ rfl rfl (Nat.le_of_ble_eq_true rfl) d_Col_isLiveOf_19 ⟨Nat.zero_le _, Nat.zero_le _⟩ (fun r5 σ4 H locs h hI => ?_)
    refine lv_iload_n hx hb d_Col_isLiveOf_22 rfl (lv_at hl 2 rfl) ?_
    refine lv_icmp_ne (tgt := 30) hx hb d_Col_isLiveOf_23 (by decide) (fun c6 => ?_) (fun c6 => ?_)
    · have h := h.1 c6
      refine lv_iconst (v := 0) hx hb d_Col_isLiveOf_30 (by decide) ?_
      exact x_zret C hlocks hr hI ⟨rfl, h⟩ d_Col_isLiveOf_31
    · have h := h.2 c6
      refine lv_iconst (v := 1) hx hb d_Col_isLiveOf_26 (by decide) ?_
      refine lv_goto (tgt := 31) hx hb d_Col_isLiveOf_27 (by decide) ?_
      exact x_zret C hlocks hr hI ⟨rfl, h⟩ d_Col_isLiveOf_31
theorem yw_Col_isLiveOf : xY y_Col_isLiveOf cd_Col_isLiveOf 3 (some .boolean) 2 := ⟨xG_mem 595 (by decide +kernel) (by decide +kernel), xG_mem 9 (by decide +kernel) (by decide +kernel), xG_mem 61 (by decide +kernel) (by decide +kernel), xG_mem 596 (by decide +kernel) (by decide +kernel), by decide, by decide, by decide +kernel⟩
theorem ml_Col_101 : Cond.methodLink R_Col 101 y_Col_isLiveOf ∈ xG := xG_mem 593 (by decide +kernel) (by decide +kernel)
def y_Col_clearDeadFields : MethodName := ⟨"RegionPool$Collector", "clearDeadFields", "(I)V"⟩
abbrev cd_Col_clearDeadFields : ByteArray := prog_2_method_8_code
theorem ml_Col_108 : Cond.methodLink R_Col 108 y_Hea_fieldsOf ∈ xG := xG_mem 606 (by decide +kernel) (by decide +kernel)
theorem ml_Col_111 : Cond.methodLink R_Col 111 y_Mar_refersToDead ∈ xG := xG_mem 607 (by decide +kernel) (by decide +kernel)
theorem fd_Col_114 : xFd R_Col 114 6 0 := ⟨R_Hea, T_Hea, 1, rfl, in_Hea, by decide, xG_mem 115 (by decide +kernel) (by decide +kernel)⟩
theorem ml_Col_118 : Cond.methodLink R_Col 118 y_Val_setNil ∈ xG := xG_mem 608 (by decide +kernel) (by decide +kernel)
def b_Col_clearDeadFields_L14 (K14 : Int32 → Int32 → Int32 → xS → Prop) (Q : xS → Prop) (x1 x2 x3 : Int32) (σ : xS) : Prop :=
  ((x2 ≤ x3 → Q σ) ∧ (¬ x2 ≤ x3 → p_Mar_refersToDead ((x1 + 1) + x3) σ (fun r5 σ4 => ((r5 = 0 → (∀ z7 : Int32, z7 = x3 + 1 → K14 x1 x2 z7 σ4)) ∧ (¬ r5 = 0 → p_Val_setNil_19 ((x1 + 1) + x3) σ4 (fun σ8 => (∀ z9 : Int32, z9 = x3 + 1 → K14 x1 x2 z9 σ8)))))))
def p_Col_clearDeadFields_L14 (Q : xS → Prop) (n : Nat) : Int32 → Int32 → Int32 → xS → Prop := Nat.rec (motive := fun _ => Int32 → Int32 → Int32 → xS → Prop) (fun _ _ _ _ => False) (fun _ K x1 x2 x3 σ => b_Col_clearDeadFields_L14 K Q x1 x2 x3 σ) n
def p_Col_clearDeadFields (x1 : Int32) (σ : xS) (Q : xS → Prop) : Prop :=
  p_Hea_fieldsOf x1 σ (fun r2 σ1 => (∃ n, p_Col_clearDeadFields_L14 Q n x1 r2 0 σ1))
abbrev rm_Col_clearDeadFields : Room := { frames := 2, cells := 0, slots := 0, locals := 44 }
theorem d_Col_clearDeadFields_0 : decode cd_Col_clearDeadFields 0 = .ok (.aload_n 0, 1) := by decide +kernel
theorem d_Col_clearDeadFields_1 : decode cd_Col_clearDeadFields 1 = .ok (.getfield 9, 3) := by decide +kernel
theorem d_Col_clearDeadFields_4 : decode cd_Col_clearDeadFields 4 = .ok (.getfield 91, 3) := by decide +kernel
theorem d_Col_clearDeadFields_7 : decode cd_Col_clearDeadFields 7 = .ok (.iload_n 1, 1) := by decide +kernel
theorem d_Col_clearDeadFields_8 : decode cd_Col_clearDeadFields 8 = .ok (.invokevirtual 108, 3) := by decide +kernel
theorem d_Col_clearDeadFields_11 : decode cd_Col_clearDeadFields 11 = .ok (.istore_n 2, 1) := by decide +kernel
theorem d_Col_clearDeadFields_12 : decode cd_Col_clearDeadFields 12 = .ok (.iconst 0, 1) := by decide +kernel
theorem d_Col_clearDeadFields_13 : decode cd_Col_clearDeadFields 13 = .ok (.istore_n 3, 1) := by decide +kernel
theorem d_Col_clearDeadFields_14 : decode cd_Col_clearDeadFields 14 = .ok (.iload_n 3, 1) := by decide +kernel
theorem d_Col_clearDeadFields_15 : decode cd_Col_clearDeadFields 15 = .ok (.iload_n 2, 1) := by decide +kernel
theorem d_Col_clearDeadFields_16 : decode cd_Col_clearDeadFields 16 = .ok (.if_icmp .ge 42, 3) := by decide +kernel
theorem d_Col_clearDeadFields_19 : decode cd_Col_clearDeadFields 19 = .ok (.aload_n 0, 1) := by decide +kernel
theorem d_Col_clearDeadFields_20 : decode cd_Col_clearDeadFields 20 = .ok (.getfield 20, 3) := by decide +kernel
theorem d_Col_clearDeadFields_23 : decode cd_Col_clearDeadFields 23 = .ok (.iload_n 1, 1) := by decide +kernel
theorem d_Col_clearDeadFields_24 : decode cd_Col_clearDeadFields 24 = .ok (.iconst 1, 1) := by decide +kernel
theorem d_Col_clearDeadFields_25 : decode cd_Col_clearDeadFields 25 = .ok (.iadd, 1) := by decide +kernel
theorem d_Col_clearDeadFields_26 : decode cd_Col_clearDeadFields 26 = .ok (.iload_n 3, 1) := by decide +kernel
theorem d_Col_clearDeadFields_27 : decode cd_Col_clearDeadFields 27 = .ok (.iadd, 1) := by decide +kernel
theorem d_Col_clearDeadFields_28 : decode cd_Col_clearDeadFields 28 = .ok (.invokevirtual 111, 3) := by decide +kernel
theorem d_Col_clearDeadFields_31 : decode cd_Col_clearDeadFields 31 = .ok (.ifCond .eq 21, 3) := by decide +kernel
theorem d_Col_clearDeadFields_34 : decode cd_Col_clearDeadFields 34 = .ok (.aload_n 0, 1) := by decide +kernel
theorem d_Col_clearDeadFields_35 : decode cd_Col_clearDeadFields 35 = .ok (.getfield 9, 3) := by decide +kernel
theorem d_Col_clearDeadFields_38 : decode cd_Col_clearDeadFields 38 = .ok (.getfield 91, 3) := by decide +kernel
theorem d_Col_clearDeadFields_41 : decode cd_Col_clearDeadFields 41 = .ok (.getfield 114, 3) := by decide +kernel
theorem d_Col_clearDeadFields_44 : decode cd_Col_clearDeadFields 44 = .ok (.iload_n 1, 1) := by decide +kernel
theorem d_Col_clearDeadFields_45 : decode cd_Col_clearDeadFields 45 = .ok (.iconst 1, 1) := by decide +kernel
theorem d_Col_clearDeadFields_46 : decode cd_Col_clearDeadFields 46 = .ok (.iadd, 1) := by decide +kernel
theorem d_Col_clearDeadFields_47 : decode cd_Col_clearDeadFields 47 = .ok (.iload_n 3, 1) := by decide +kernel
theorem d_Col_clearDeadFields_48 : decode cd_Col_clearDeadFields 48 = .ok (.iadd, 1) := by decide +kernel
theorem d_Col_clearDeadFields_49 : decode cd_Col_clearDeadFields 49 = .ok (.invokevirtual 118, 3) := by decide +kernel
theorem d_Col_clearDeadFields_52 : decode cd_Col_clearDeadFields 52 = .ok (.iinc 3 1, 3) := by decide +kernel
theorem d_Col_clearDeadFields_55 : decode cd_Col_clearDeadFields 55 = .ok (.goto (-41), 3) := by decide +kernel
theorem d_Col_clearDeadFields_58 : decode cd_Col_clearDeadFields 58 = .ok (.return_, 1) := by decide +kernel
set_option maxRecDepth 100000 in
set_option maxHeartbeats 4000000 in
theorem s_Col_clearDeadFields_L14 {p : Program} {l : Launch} {e : Env} {s : State} {m : MethodId} {args : Array Value} {below : List Frame} {meth : Method} {c : Code} {V : xV} (C : xC p s m args c cd_Col_clearDeadFields 4 R_Col V) (hlocks : meth.locks = false) (hr : meth.sig.returnType = none) {Q : xS → Prop} {K14 : Int32 → Int32 → Int32 → xS → Prop} (hK14 : ∀ (x1 : Int32) (x2 : Int32) (x3 : Int32) (σ : xS) (H : Heap) (locs : List Loc) (ls : Array Slot), K14 x1 x2 x3 σ → xI V s.heap σ H locs → lv_has ls 4 [(0, .ref (V.2.2 2)), (1, .int x1), (2, .int x2), (3, .int x3)] → W p l e rm_Col_clearDeadFields s m args below meth c H locs 0 0 (xZv below V args s Q) (F0 m 14 ls [])) {x1 x2 x3 : Int32} {σ : xS} {H : Heap} {locs : List Loc} {ls : Array Slot} (h : b_Col_clearDeadFields_L14 K14 Q x1 x2 x3 σ) (hI : xI V s.heap σ H locs) (hl : lv_has ls 4 [(0, .ref (V.2.2 2)), (1, .int x1), (2, .int x2), (3, .int x3)]) : W p l e rm_Col_clearDeadFields s m args below meth c H locs 0 0 (xZv below V args s Q) (F0 m 14 ls []) := by
  have hx := C.1
  have hb := C.2.1
  unfold b_Col_clearDeadFields_L14 at h
  refine lv_iload_n hx hb d_Col_clearDeadFields_14 rfl (lv_at hl 3 rfl) ?_
  refine lv_iload_n hx hb d_Col_clearDeadFields_15 rfl (lv_at hl 2 rfl) ?_
  refine lv_icmp_ge (tgt := 58) hx hb d_Col_clearDeadFields_16 (by decide) (fun c3 => ?_) (fun c3 => ?_)
  · have h := h.1 c3
    exact x_vret C hlocks hr hI h d_Col_clearDeadFields_58
  · have h := h.2 c3
    refine lv_aload_n hx hb d_Col_clearDeadFields_19 rfl (lv_at hl 0 rfl) ?_
    refine x_get C hI (d := 2) (by decide) (xE2 V _) fd_Col_20 rfl d_Col_clearDeadFields_20 ?_
    refine lv_iload_n hx hb d_Col_clearDeadFields_23 rfl (lv_at hl 1 rfl) ?_
    refine lv_iconst (v := 1) hx hb d_Col_clearDeadFields_24 (by decide) ?_
    refine lv_iadd hx hb d_Col_clearDeadFields_25 ?_
    refine lv_iload_n hx hb d_Col_clearDeadFields_26 rfl (lv_at hl 3 rfl) ?_
    refine lv_iadd hx hb d_Col_clearDeadFields_27 ?_
    refine x_calli C hI hl.1 (d := 11) (As := [.int ((x1 + 1) + x3)]) (rest := []) (by decide) (c_Mar_refersToDead h) (xE11 V _) rfl yw_Mar_refersToDead ml_Col_111 rfl rfl ⟨Nat.le_of_ble_eq_true rfl, Nat.le_of_ble_eq_true rfl⟩ rfl rfl (Nat.le_of_ble_eq_true rfl) d_Col_clearDeadFields_28 ⟨Nat.zero_le _, Nat.zero_le _⟩ (fun r5 σ4 H locs h hI => ?_)
    refine lv_if_eq (tgt := 52) hx hb d_Col_clearDeadFields_31 (by decide) (fun c6 => ?_) (fun c6 => ?_)
    · have h := h.1 c6
      obtain ⟨z7, ez7⟩ : ∃ y : Int32, y = x3 + 1 := ⟨_, rfl⟩
      have h := h z7 ez7
      refine lv_iinc (v := z7) (lv' := [(3, .int z7), (0, .ref (V.2.2 2)), (1, .int x1), (2, .int x2)]) hx hb d_Col_clearDeadFields_52 hl (k := 3) rfl (by rw [ez7]; rfl) (by decide) rfl (fun ls hl => ?_)
      refine lv_goto (tgt := 14) hx hb d_Col_clearDeadFields_55 (by decide) ?_
      exact hK14 _ _ _ _ _ _ _ h hI (lv_sub hl [1, 2, 3, 0] rfl)
    · have h := h.2 c6
      refine lv_aload_n hx hb d_Col_clearDeadFields_34 rfl (lv_at hl 0 rfl) ?_
      refine x_get C hI (d := 2) (by decide) (xE2 V _) fd_Col_9 rfl d_Col_clearDeadFields_35 ?_
      refine x_get C hI (d := 1) (by decide) (xE1 V _) fd_Col_91 rfl d_Col_clearDeadFields_38 ?_
      refine x_get C hI (d := 6) (by decide) (xE6 V _) fd_Col_114 rfl d_Col_clearDeadFields_41 ?_
      refine lv_iload_n hx hb d_Col_clearDeadFields_44 rfl (lv_at hl 1 rfl) ?_
      refine lv_iconst (v := 1) hx hb d_Col_clearDeadFields_45 (by decide) ?_
      refine lv_iadd hx hb d_Col_clearDeadFields_46 ?_
      refine lv_iload_n hx hb d_Col_clearDeadFields_47 rfl (lv_at hl 3 rfl) ?_
      refine lv_iadd hx hb d_Col_clearDeadFields_48 ?_
      refine x_callv C hI hl.1 (d := 19) (As := [.int ((x1 + 1) + x3)]) (rest := []) (by decide) (c_Val_setNil_19 h) (xE19 V _) rfl yw_Val_setNil ml_Col_118 rfl rfl ⟨Nat.le_of_ble_eq_true rfl, Nat.le_of_ble_eq_true rfl⟩ rfl rfl (Nat.le_of_ble_eq_true rfl) d_Col_clearDeadFields_49 ⟨Nat.zero_le _, Nat.zero_le _⟩ (fun σ8 H locs h hI => ?_)
      obtain ⟨z9, ez9⟩ : ∃ y : Int32, y = x3 + 1 := ⟨_, rfl⟩
      have h := h z9 ez9
      refine lv_iinc (v := z9) (lv' := [(3, .int z9), (0, .ref (V.2.2 2)), (1, .int x1), (2, .int x2)]) hx hb d_Col_clearDeadFields_52 hl (k := 3) rfl (by rw [ez9]; rfl) (by decide) rfl (fun ls hl => ?_)
      refine lv_goto (tgt := 14) hx hb d_Col_clearDeadFields_55 (by decide) ?_
      exact hK14 _ _ _ _ _ _ _ h hI (lv_sub hl [1, 2, 3, 0] rfl)
theorem w_Col_clearDeadFields_L14 {p : Program} {l : Launch} {e : Env} {s : State} {m : MethodId} {args : Array Value} {below : List Frame} {meth : Method} {c : Code} {V : xV} (C : xC p s m args c cd_Col_clearDeadFields 4 R_Col V) (hlocks : meth.locks = false) (hr : meth.sig.returnType = none) {Q : xS → Prop} : ∀ (n : Nat) (x1 : Int32) (x2 : Int32) (x3 : Int32) (σ : xS) (H : Heap) (locs : List Loc) (ls : Array Slot), p_Col_clearDeadFields_L14 Q n x1 x2 x3 σ → xI V s.heap σ H locs → lv_has ls 4 [(0, .ref (V.2.2 2)), (1, .int x1), (2, .int x2), (3, .int x3)] → W p l e rm_Col_clearDeadFields s m args below meth c H locs 0 0 (xZv below V args s Q) (F0 m 14 ls []) := by
  intro n
  induction n with
  | zero =>
    intro x1 x2 x3 σ H locs ls h
    exact False.elim h
  | succ n ih =>
    intro x1 x2 x3 σ H locs ls h hI hl
    exact s_Col_clearDeadFields_L14 C hlocks hr (K14 := p_Col_clearDeadFields_L14 Q n) (fun x1 x2 x3 σ H locs ls h hI hl => ih x1 x2 x3 σ H locs ls h hI hl) h hI hl
set_option maxRecDepth 100000 in
set_option maxHeartbeats 4000000 in
theorem c_Col_clearDeadFields {l : Launch} {V : xV} {σ : xS} {x1 : Int32} {Q : xS → Prop} (h : p_Col_clearDeadFields x1 σ Q) : xMv l y_Col_clearDeadFields (.code y_Col_clearDeadFields cd_Col_clearDeadFields 4 none :: xG) rm_Col_clearDeadFields V [.ref (V.2.2 2), .int x1] σ Q := by
  refine x_beginv (by decide) (Nat.le_of_ble_eq_true rfl) (fun p e s m below meth c ls C hlocks hr hI hl => ?_)
  have C : xC p s m _ c cd_Col_clearDeadFields 4 R_Col V := C
  have hx := C.1
  have hb := C.2.1
  have hl : lv_has ls 4 [(0, .ref (V.2.2 2)), (1, .int x1)] := hl
  unfold p_Col_clearDeadFields at h
  refine lv_aload_n hx hb d_Col_clearDeadFields_0 rfl (lv_at hl 0 rfl) ?_
  refine x_get C hI (d := 2) (by decide) (xE2 V _) fd_Col_9 rfl d_Col_clearDeadFields_1 ?_
  refine x_get C hI (d := 1) (by decide) (xE1 V _) fd_Col_91 rfl d_Col_clearDeadFields_4 ?_
  refine lv_iload_n hx hb d_Col_clearDeadFields_7 rfl (lv_at hl 1 rfl) ?_
  refine x_calli C hI hl.1 (d := 6) (As := [.int x1]) (rest := []) (by decide) (c_Hea_fieldsOf h) (xE6 V _) rfl yw_Hea_fieldsOf ml_Col_108 rfl rfl ⟨Nat.le_of_ble_eq_true rfl, Nat.le_of_ble_eq_true rfl⟩ rfl rfl (Nat.le_of_ble_eq_true rfl) d_Col_clearDeadFields_8 ⟨Nat.zero_le _, Nat.zero_le _⟩ (fun r2 σ1 H locs h hI => ?_)
  refine lv_istore_n (lv' := [(2, .int r2), (0, .ref (V.2.2 2)), (1, .int x1)]) hx hb d_Col_clearDeadFields_11 rfl hl (by decide) rfl (fun ls hl => ?_)
  refine lv_iconst (v := 0) hx hb d_Col_clearDeadFields_12 (by decide) ?_
  refine lv_istore_n (lv' := [(3, .int 0), (2, .int r2), (0, .ref (V.2.2 2)), (1, .int x1)]) hx hb d_Col_clearDeadFields_13 rfl hl (by decide) rfl (fun ls hl => ?_)
  obtain ⟨n, h⟩ := h
  exact w_Col_clearDeadFields_L14 C hlocks hr n _ _ _ _ _ _ _ h hI (lv_sub hl [2, 3, 1, 0] rfl)
theorem yw_Col_clearDeadFields : xY y_Col_clearDeadFields cd_Col_clearDeadFields 4 none 1 := ⟨xG_mem 604 (by decide +kernel) (by decide +kernel), xG_mem 10 (by decide +kernel) (by decide +kernel), xG_mem 61 (by decide +kernel) (by decide +kernel), xG_mem 605 (by decide +kernel) (by decide +kernel), by decide, by decide, by decide +kernel⟩
theorem ml_Col_105 : Cond.methodLink R_Col 105 y_Col_clearDeadFields ∈ xG := xG_mem 602 (by decide +kernel) (by decide +kernel)
def b_Col_clearWeakFields_L2 (K2 : Int32 → xS → Prop) (Q : xS → Prop) (x1 : Int32) (σ : xS) : Prop :=
  ((640 ≤ x1 → Q σ) ∧ (¬ 640 ≤ x1 → p_Col_isLiveOf x1 1 σ (fun r3 σ2 => ((r3 = 0 → (∀ z5 : Int32, z5 = x1 + 1 → K2 z5 σ2)) ∧ (¬ r3 = 0 → p_Col_clearDeadFields x1 σ2 (fun σ6 => (∀ z7 : Int32, z7 = x1 + 1 → K2 z7 σ6)))))))
def p_Col_clearWeakFields_L2 (Q : xS → Prop) (n : Nat) : Int32 → xS → Prop := Nat.rec (motive := fun _ => Int32 → xS → Prop) (fun _ _ => False) (fun _ K x1 σ => b_Col_clearWeakFields_L2 K Q x1 σ) n
def p_Col_clearWeakFields (σ : xS) (Q : xS → Prop) : Prop :=
  (∃ n, p_Col_clearWeakFields_L2 Q n 0 σ)
abbrev rm_Col_clearWeakFields : Room := { frames := 3, cells := 0, slots := 0, locals := 67 }
theorem d_Col_clearWeakFields_0 : decode cd_Col_clearWeakFields 0 = .ok (.iconst 0, 1) := by decide +kernel
theorem d_Col_clearWeakFields_1 : decode cd_Col_clearWeakFields 1 = .ok (.istore_n 1, 1) := by decide +kernel
theorem d_Col_clearWeakFields_2 : decode cd_Col_clearWeakFields 2 = .ok (.iload_n 1, 1) := by decide +kernel
theorem d_Col_clearWeakFields_3 : decode cd_Col_clearWeakFields 3 = .ok (.sipush 640, 3) := by decide +kernel
theorem d_Col_clearWeakFields_6 : decode cd_Col_clearWeakFields 6 = .ok (.if_icmp .ge 23, 3) := by decide +kernel
theorem d_Col_clearWeakFields_9 : decode cd_Col_clearWeakFields 9 = .ok (.aload_n 0, 1) := by decide +kernel
theorem d_Col_clearWeakFields_10 : decode cd_Col_clearWeakFields 10 = .ok (.iload_n 1, 1) := by decide +kernel
theorem d_Col_clearWeakFields_11 : decode cd_Col_clearWeakFields 11 = .ok (.iconst 1, 1) := by decide +kernel
theorem d_Col_clearWeakFields_12 : decode cd_Col_clearWeakFields 12 = .ok (.invokevirtual 101, 3) := by decide +kernel
theorem d_Col_clearWeakFields_15 : decode cd_Col_clearWeakFields 15 = .ok (.ifCond .eq 8, 3) := by decide +kernel
theorem d_Col_clearWeakFields_18 : decode cd_Col_clearWeakFields 18 = .ok (.aload_n 0, 1) := by decide +kernel
theorem d_Col_clearWeakFields_19 : decode cd_Col_clearWeakFields 19 = .ok (.iload_n 1, 1) := by decide +kernel
theorem d_Col_clearWeakFields_20 : decode cd_Col_clearWeakFields 20 = .ok (.invokevirtual 105, 3) := by decide +kernel
theorem d_Col_clearWeakFields_23 : decode cd_Col_clearWeakFields 23 = .ok (.iinc 1 1, 3) := by decide +kernel
theorem d_Col_clearWeakFields_26 : decode cd_Col_clearWeakFields 26 = .ok (.goto (-24), 3) := by decide +kernel
theorem d_Col_clearWeakFields_29 : decode cd_Col_clearWeakFields 29 = .ok (.return_, 1) := by decide +kernel
set_option maxRecDepth 100000 in
set_option maxHeartbeats 4000000 in
theorem s_Col_clearWeakFields_L2 {p : Program} {l : Launch} {e : Env} {s : State} {m : MethodId} {args : Array Value} {below : List Frame} {meth : Method} {c : Code} {V : xV} (C : xC p s m args c cd_Col_clearWeakFields 2 R_Col V) (hlocks : meth.locks = false) (hr : meth.sig.returnType = none) {Q : xS → Prop} {K2 : Int32 → xS → Prop} (hK2 : ∀ (x1 : Int32) (σ : xS) (H : Heap) (locs : List Loc) (ls : Array Slot), K2 x1 σ → xI V s.heap σ H locs → lv_has ls 2 [(0, .ref (V.2.2 2)), (1, .int x1)] → W p l e rm_Col_clearWeakFields s m args below meth c H locs 0 0 (xZv below V args s Q) (F0 m 2 ls [])) {x1 : Int32} {σ : xS} {H : Heap} {locs : List Loc} {ls : Array Slot} (h : b_Col_clearWeakFields_L2 K2 Q x1 σ) (hI : xI V s.heap σ H locs) (hl : lv_has ls 2 [(0, .ref (V.2.2 2)), (1, .int x1)]) : W p l e rm_Col_clearWeakFields s m args below meth c H locs 0 0 (xZv below V args s Q) (F0 m 2 ls []) := by
  have hx := C.1
  have hb := C.2.1
  unfold b_Col_clearWeakFields_L2 at h
  refine lv_iload_n hx hb d_Col_clearWeakFields_2 rfl (lv_at hl 1 rfl) ?_
  refine lv_sipush (v := 640) hx hb d_Col_clearWeakFields_3 (by decide) ?_
  refine lv_icmp_ge (tgt := 29) hx hb d_Col_clearWeakFields_6 (by decide) (fun c1 => ?_) (fun c1 => ?_)
  · have h := h.1 c1
    exact x_vret C hlocks hr hI h d_Col_clearWeakFields_29
  · have h := h.2 c1
    refine lv_aload_n hx hb d_Col_clearWeakFields_9 rfl (lv_at hl 0 rfl) ?_
    refine lv_iload_n hx hb d_Col_clearWeakFields_10 rfl (lv_at hl 1 rfl) ?_
    refine lv_iconst (v := 1) hx hb d_Col_clearWeakFields_11 (by decide) ?_
    refine x_calli C hI hl.1 (d := 2) (As := [.int x1, .int 1]) (rest := []) (by decide) (c_Col_isLiveOf h) (xE2 V _) rfl yw_Col_isLiveOf ml_Col_101 rfl rfl ⟨Nat.le_of_ble_eq_true rfl, Nat.le_of_ble_eq_true rfl⟩ rfl rfl (Nat.le_of_ble_eq_true rfl) d_Col_clearWeakFields_12 ⟨Nat.zero_le _, Nat.zero_le _⟩ (fun r3 σ2 H locs h hI => ?_)
    refine lv_if_eq (tgt := 23) hx hb d_Col_clearWeakFields_15 (by decide) (fun c4 => ?_) (fun c4 => ?_)
    · have h := h.1 c4
      obtain ⟨z5, ez5⟩ : ∃ y : Int32, y = x1 + 1 := ⟨_, rfl⟩
      have h := h z5 ez5
      refine lv_iinc (v := z5) (lv' := [(1, .int z5), (0, .ref (V.2.2 2))]) hx hb d_Col_clearWeakFields_23 hl (k := 1) rfl (by rw [ez5]; rfl) (by decide) rfl (fun ls hl => ?_)
      refine lv_goto (tgt := 2) hx hb d_Col_clearWeakFields_26 (by decide) ?_
      exact hK2 _ _ _ _ _ h hI (lv_sub hl [1, 0] rfl)
    · have h := h.2 c4
      refine lv_aload_n hx hb d_Col_clearWeakFields_18 rfl (lv_at hl 0 rfl) ?_
      refine lv_iload_n hx hb d_Col_clearWeakFields_19 rfl (lv_at hl 1 rfl) ?_
      refine x_callv C hI hl.1 (d := 2) (As := [.int x1]) (rest := []) (by decide) (c_Col_clearDeadFields h) (xE2 V _) rfl yw_Col_clearDeadFields ml_Col_105 rfl rfl ⟨Nat.le_of_ble_eq_true rfl, Nat.le_of_ble_eq_true rfl⟩ rfl rfl (Nat.le_of_ble_eq_true rfl) d_Col_clearWeakFields_20 ⟨Nat.zero_le _, Nat.zero_le _⟩ (fun σ6 H locs h hI => ?_)
      obtain ⟨z7, ez7⟩ : ∃ y : Int32, y = x1 + 1 := ⟨_, rfl⟩
      have h := h z7 ez7
      refine lv_iinc (v := z7) (lv' := [(1, .int z7), (0, .ref (V.2.2 2))]) hx hb d_Col_clearWeakFields_23 hl (k := 1) rfl (by rw [ez7]; rfl) (by decide) rfl (fun ls hl => ?_)
      refine lv_goto (tgt := 2) hx hb d_Col_clearWeakFields_26 (by decide) ?_
      exact hK2 _ _ _ _ _ h hI (lv_sub hl [1, 0] rfl)
theorem w_Col_clearWeakFields_L2 {p : Program} {l : Launch} {e : Env} {s : State} {m : MethodId} {args : Array Value} {below : List Frame} {meth : Method} {c : Code} {V : xV} (C : xC p s m args c cd_Col_clearWeakFields 2 R_Col V) (hlocks : meth.locks = false) (hr : meth.sig.returnType = none) {Q : xS → Prop} : ∀ (n : Nat) (x1 : Int32) (σ : xS) (H : Heap) (locs : List Loc) (ls : Array Slot), p_Col_clearWeakFields_L2 Q n x1 σ → xI V s.heap σ H locs → lv_has ls 2 [(0, .ref (V.2.2 2)), (1, .int x1)] → W p l e rm_Col_clearWeakFields s m args below meth c H locs 0 0 (xZv below V args s Q) (F0 m 2 ls []) := by
  intro n
  induction n with
  | zero =>
    intro x1 σ H locs ls h
    exact False.elim h
  | succ n ih =>
    intro x1 σ H locs ls h hI hl
    exact s_Col_clearWeakFields_L2 C hlocks hr (K2 := p_Col_clearWeakFields_L2 Q n) (fun x1 σ H locs ls h hI hl => ih x1 σ H locs ls h hI hl) h hI hl
set_option maxRecDepth 100000 in
set_option maxHeartbeats 4000000 in
theorem c_Col_clearWeakFields {l : Launch} {V : xV} {σ : xS} {Q : xS → Prop} (h : p_Col_clearWeakFields σ Q) : xMv l y_Col_clearWeakFields (.code y_Col_clearWeakFields cd_Col_clearWeakFields 2 none :: xG) rm_Col_clearWeakFields V [.ref (V.2.2 2)] σ Q := by
  refine x_beginv (by decide) (Nat.le_of_ble_eq_true rfl) (fun p e s m below meth c ls C hlocks hr hI hl => ?_)
  have C : xC p s m _ c cd_Col_clearWeakFields 2 R_Col V := C
  have hx := C.1
  have hb := C.2.1
  have hl : lv_has ls 2 [(0, .ref (V.2.2 2))] := hl
  unfold p_Col_clearWeakFields at h
  refine lv_iconst (v := 0) hx hb d_Col_clearWeakFields_0 (by decide) ?_
  refine lv_istore_n (lv' := [(1, .int 0), (0, .ref (V.2.2 2))]) hx hb d_Col_clearWeakFields_1 rfl hl (by decide) rfl (fun ls hl => ?_)
  obtain ⟨n, h⟩ := h
  exact w_Col_clearWeakFields_L2 C hlocks hr n _ _ _ _ _ h hI (lv_sub hl [1, 0] rfl)
theorem yw_Col_clearWeakFields : xY y_Col_clearWeakFields cd_Col_clearWeakFields 2 none 0 := ⟨xG_mem 591 (by decide +kernel) (by decide +kernel), xG_mem 8 (by decide +kernel) (by decide +kernel), xG_mem 61 (by decide +kernel) (by decide +kernel), xG_mem 592 (by decide +kernel) (by decide +kernel), by decide, by decide, by decide +kernel⟩
theorem ml_Col_47 : Cond.methodLink R_Col 47 y_Col_clearWeakFields ∈ xG := xG_mem 589 (by decide +kernel) (by decide +kernel)
theorem fd_Col_50 : xFd R_Col 50 1 4 := ⟨R_Mem, T_Mem, 6, rfl, in_Mem, by decide, xG_mem 179 (by decide +kernel) (by decide +kernel)⟩
theorem fd_Col_56 : xFd R_Col 56 1 3 := ⟨R_Mem, T_Mem, 6, rfl, in_Mem, by decide, xG_mem 175 (by decide +kernel) (by decide +kernel)⟩
theorem yw_Lin_handOverDead : xY y_Lin_handOverDead cd_Lin_handOverDead 5 none 2 := ⟨xG_mem 610 (by decide +kernel) (by decide +kernel), xG_mem 611 (by decide +kernel) (by decide +kernel), xG_mem 60 (by decide +kernel) (by decide +kernel), xG_mem 612 (by decide +kernel) (by decide +kernel), by decide, by decide, by decide +kernel⟩
theorem ml_Col_59 : Cond.methodLink R_Col 59 y_Lin_handOverDead ∈ xG := xG_mem 609 (by decide +kernel) (by decide +kernel)
def y_Col_clearKeyedFields : MethodName := ⟨"RegionPool$Collector", "clearKeyedFields", "()V"⟩
abbrev cd_Col_clearKeyedFields : ByteArray := prog_2_method_9_code
theorem ml_Col_123 : Cond.methodLink R_Col 123 y_Hea_clearFields ∈ xG := xG_mem 622 (by decide +kernel) (by decide +kernel)
def b_Col_clearKeyedFields_L2 (K2 : Int32 → xS → Prop) (Q : xS → Prop) (x1 : Int32) (σ : xS) : Prop :=
  ((640 ≤ x1 → Q σ) ∧ (¬ 640 ≤ x1 → p_Col_isLiveOf x1 2 σ (fun r3 σ2 => ((r3 = 0 → (∀ z5 : Int32, z5 = x1 + 1 → K2 z5 σ2)) ∧ (¬ r3 = 0 → p_Mar_refersToDead (x1 + 1) σ2 (fun r7 σ6 => ((r7 = 0 → (∀ z9 : Int32, z9 = x1 + 1 → K2 z9 σ6)) ∧ (¬ r7 = 0 → p_Hea_clearFields x1 σ6 (fun σ10 => (∀ z11 : Int32, z11 = x1 + 1 → K2 z11 σ10))))))))))
def p_Col_clearKeyedFields_L2 (Q : xS → Prop) (n : Nat) : Int32 → xS → Prop := Nat.rec (motive := fun _ => Int32 → xS → Prop) (fun _ _ => False) (fun _ K x1 σ => b_Col_clearKeyedFields_L2 K Q x1 σ) n
def p_Col_clearKeyedFields (σ : xS) (Q : xS → Prop) : Prop :=
  (∃ n, p_Col_clearKeyedFields_L2 Q n 0 σ)
abbrev rm_Col_clearKeyedFields : Room := { frames := 3, cells := 0, slots := 0, locals := 67 }
theorem d_Col_clearKeyedFields_0 : decode cd_Col_clearKeyedFields 0 = .ok (.iconst 0, 1) := by decide +kernel
theorem d_Col_clearKeyedFields_1 : decode cd_Col_clearKeyedFields 1 = .ok (.istore_n 1, 1) := by decide +kernel
theorem d_Col_clearKeyedFields_2 : decode cd_Col_clearKeyedFields 2 = .ok (.iload_n 1, 1) := by decide +kernel
theorem d_Col_clearKeyedFields_3 : decode cd_Col_clearKeyedFields 3 = .ok (.sipush 640, 3) := by decide +kernel
theorem d_Col_clearKeyedFields_6 : decode cd_Col_clearKeyedFields 6 = .ok (.if_icmp .ge 42, 3) := by decide +kernel
theorem d_Col_clearKeyedFields_9 : decode cd_Col_clearKeyedFields 9 = .ok (.aload_n 0, 1) := by decide +kernel
theorem d_Col_clearKeyedFields_10 : decode cd_Col_clearKeyedFields 10 = .ok (.iload_n 1, 1) := by decide +kernel
theorem d_Col_clearKeyedFields_11 : decode cd_Col_clearKeyedFields 11 = .ok (.iconst 2, 1) := by decide +kernel
theorem d_Col_clearKeyedFields_12 : decode cd_Col_clearKeyedFields 12 = .ok (.invokevirtual 101, 3) := by decide +kernel
theorem d_Col_clearKeyedFields_15 : decode cd_Col_clearKeyedFields 15 = .ok (.ifCond .eq 27, 3) := by decide +kernel
theorem d_Col_clearKeyedFields_18 : decode cd_Col_clearKeyedFields 18 = .ok (.aload_n 0, 1) := by decide +kernel
theorem d_Col_clearKeyedFields_19 : decode cd_Col_clearKeyedFields 19 = .ok (.getfield 20, 3) := by decide +kernel
theorem d_Col_clearKeyedFields_22 : decode cd_Col_clearKeyedFields 22 = .ok (.iload_n 1, 1) := by decide +kernel
theorem d_Col_clearKeyedFields_23 : decode cd_Col_clearKeyedFields 23 = .ok (.iconst 1, 1) := by decide +kernel
theorem d_Col_clearKeyedFields_24 : decode cd_Col_clearKeyedFields 24 = .ok (.iadd, 1) := by decide +kernel
theorem d_Col_clearKeyedFields_25 : decode cd_Col_clearKeyedFields 25 = .ok (.invokevirtual 111, 3) := by decide +kernel
theorem d_Col_clearKeyedFields_28 : decode cd_Col_clearKeyedFields 28 = .ok (.ifCond .eq 14, 3) := by decide +kernel
theorem d_Col_clearKeyedFields_31 : decode cd_Col_clearKeyedFields 31 = .ok (.aload_n 0, 1) := by decide +kernel
theorem d_Col_clearKeyedFields_32 : decode cd_Col_clearKeyedFields 32 = .ok (.getfield 9, 3) := by decide +kernel
theorem d_Col_clearKeyedFields_35 : decode cd_Col_clearKeyedFields 35 = .ok (.getfield 91, 3) := by decide +kernel
theorem d_Col_clearKeyedFields_38 : decode cd_Col_clearKeyedFields 38 = .ok (.iload_n 1, 1) := by decide +kernel
theorem d_Col_clearKeyedFields_39 : decode cd_Col_clearKeyedFields 39 = .ok (.invokevirtual 123, 3) := by decide +kernel
theorem d_Col_clearKeyedFields_42 : decode cd_Col_clearKeyedFields 42 = .ok (.iinc 1 1, 3) := by decide +kernel
theorem d_Col_clearKeyedFields_45 : decode cd_Col_clearKeyedFields 45 = .ok (.goto (-43), 3) := by decide +kernel
theorem d_Col_clearKeyedFields_48 : decode cd_Col_clearKeyedFields 48 = .ok (.return_, 1) := by decide +kernel
set_option maxRecDepth 100000 in
set_option maxHeartbeats 4000000 in
theorem s_Col_clearKeyedFields_L2 {p : Program} {l : Launch} {e : Env} {s : State} {m : MethodId} {args : Array Value} {below : List Frame} {meth : Method} {c : Code} {V : xV} (C : xC p s m args c cd_Col_clearKeyedFields 2 R_Col V) (hlocks : meth.locks = false) (hr : meth.sig.returnType = none) {Q : xS → Prop} {K2 : Int32 → xS → Prop} (hK2 : ∀ (x1 : Int32) (σ : xS) (H : Heap) (locs : List Loc) (ls : Array Slot), K2 x1 σ → xI V s.heap σ H locs → lv_has ls 2 [(0, .ref (V.2.2 2)), (1, .int x1)] → W p l e rm_Col_clearKeyedFields s m args below meth c H locs 0 0 (xZv below V args s Q) (F0 m 2 ls [])) {x1 : Int32} {σ : xS} {H : Heap} {locs : List Loc} {ls : Array Slot} (h : b_Col_clearKeyedFields_L2 K2 Q x1 σ) (hI : xI V s.heap σ H locs) (hl : lv_has ls 2 [(0, .ref (V.2.2 2)), (1, .int x1)]) : W p l e rm_Col_clearKeyedFields s m args below meth c H locs 0 0 (xZv below V args s Q) (F0 m 2 ls []) := by
  have hx := C.1
  have hb := C.2.1
  unfold b_Col_clearKeyedFields_L2 at h
  refine lv_iload_n hx hb d_Col_clearKeyedFields_2 rfl (lv_at hl 1 rfl) ?_
  refine lv_sipush (v := 640) hx hb d_Col_clearKeyedFields_3 (by decide) ?_
  refine lv_icmp_ge (tgt := 48) hx hb d_Col_clearKeyedFields_6 (by decide) (fun c1 => ?_) (fun c1 => ?_)
  · have h := h.1 c1
    exact x_vret C hlocks hr hI h d_Col_clearKeyedFields_48
  · have h := h.2 c1
    refine lv_aload_n hx hb d_Col_clearKeyedFields_9 rfl (lv_at hl 0 rfl) ?_
    refine lv_iload_n hx hb d_Col_clearKeyedFields_10 rfl (lv_at hl 1 rfl) ?_
    refine lv_iconst (v := 2) hx hb d_Col_clearKeyedFields_11 (by decide) ?_
    refine x_calli C hI hl.1 (d := 2) (As := [.int x1, .int 2]) (rest := []) (by decide) (c_Col_isLiveOf h) (xE2 V _) rfl yw_Col_isLiveOf ml_Col_101 rfl rfl ⟨Nat.le_of_ble_eq_true rfl, Nat.le_of_ble_eq_true rfl⟩ rfl rfl (Nat.le_of_ble_eq_true rfl) d_Col_clearKeyedFields_12 ⟨Nat.zero_le _, Nat.zero_le _⟩ (fun r3 σ2 H locs h hI => ?_)
    refine lv_if_eq (tgt := 42) hx hb d_Col_clearKeyedFields_15 (by decide) (fun c4 => ?_) (fun c4 => ?_)
    · have h := h.1 c4
      obtain ⟨z5, ez5⟩ : ∃ y : Int32, y = x1 + 1 := ⟨_, rfl⟩
      have h := h z5 ez5
      refine lv_iinc (v := z5) (lv' := [(1, .int z5), (0, .ref (V.2.2 2))]) hx hb d_Col_clearKeyedFields_42 hl (k := 1) rfl (by rw [ez5]; rfl) (by decide) rfl (fun ls hl => ?_)
      refine lv_goto (tgt := 2) hx hb d_Col_clearKeyedFields_45 (by decide) ?_
      exact hK2 _ _ _ _ _ h hI (lv_sub hl [1, 0] rfl)
    · have h := h.2 c4
      refine lv_aload_n hx hb d_Col_clearKeyedFields_18 rfl (lv_at hl 0 rfl) ?_
      refine x_get C hI (d := 2) (by decide) (xE2 V _) fd_Col_20 rfl d_Col_clearKeyedFields_19 ?_
      refine lv_iload_n hx hb d_Col_clearKeyedFields_22 rfl (lv_at hl 1 rfl) ?_
      refine lv_iconst (v := 1) hx hb d_Col_clearKeyedFields_23 (by decide) ?_
      refine lv_iadd hx hb d_Col_clearKeyedFields_24 ?_
      refine x_calli C hI hl.1 (d := 11) (As := [.int (x1 + 1)]) (rest := []) (by decide) (c_Mar_refersToDead h) (xE11 V _) rfl yw_Mar_refersToDead ml_Col_111 rfl rfl ⟨Nat.le_of_ble_eq_true rfl, Nat.le_of_ble_eq_true rfl⟩ rfl rfl (Nat.le_of_ble_eq_true rfl) d_Col_clearKeyedFields_25 ⟨Nat.zero_le _, Nat.zero_le _⟩ (fun r7 σ6 H locs h hI => ?_)
      refine lv_if_eq (tgt := 42) hx hb d_Col_clearKeyedFields_28 (by decide) (fun c8 => ?_) (fun c8 => ?_)
      · have h := h.1 c8
        obtain ⟨z9, ez9⟩ : ∃ y : Int32, y = x1 + 1 := ⟨_, rfl⟩
        have h := h z9 ez9
        refine lv_iinc (v := z9) (lv' := [(1, .int z9), (0, .ref (V.2.2 2))]) hx hb d_Col_clearKeyedFields_42 hl (k := 1) rfl (by rw [ez9]; rfl) (by decide) rfl (fun ls hl => ?_)
        refine lv_goto (tgt := 2) hx hb d_Col_clearKeyedFields_45 (by decide) ?_
        exact hK2 _ _ _ _ _ h hI (lv_sub hl [1, 0] rfl)
      · have h := h.2 c8
        refine lv_aload_n hx hb d_Col_clearKeyedFields_31 rfl (lv_at hl 0 rfl) ?_
        refine x_get C hI (d := 2) (by decide) (xE2 V _) fd_Col_9 rfl d_Col_clearKeyedFields_32 ?_
        refine x_get C hI (d := 1) (by decide) (xE1 V _) fd_Col_91 rfl d_Col_clearKeyedFields_35 ?_
        refine lv_iload_n hx hb d_Col_clearKeyedFields_38 rfl (lv_at hl 1 rfl) ?_
        refine x_callv C hI hl.1 (d := 6) (As := [.int x1]) (rest := []) (by decide) (c_Hea_clearFields h) (xE6 V _) rfl yw_Hea_clearFields ml_Col_123 rfl rfl ⟨Nat.le_of_ble_eq_true rfl, Nat.le_of_ble_eq_true rfl⟩ rfl rfl (Nat.le_of_ble_eq_true rfl) d_Col_clearKeyedFields_39 ⟨Nat.zero_le _, Nat.zero_le _⟩ (fun σ10 H locs h hI => ?_)
        obtain ⟨z11, ez11⟩ : ∃ y : Int32, y = x1 + 1 := ⟨_, rfl⟩
        have h := h z11 ez11
        refine lv_iinc (v := z11) (lv' := [(1, .int z11), (0, .ref (V.2.2 2))]) hx hb d_Col_clearKeyedFields_42 hl (k := 1) rfl (by rw [ez11]; rfl) (by decide) rfl (fun ls hl => ?_)
        refine lv_goto (tgt := 2) hx hb d_Col_clearKeyedFields_45 (by decide) ?_
        exact hK2 _ _ _ _ _ h hI (lv_sub hl [1, 0] rfl)
theorem w_Col_clearKeyedFields_L2 {p : Program} {l : Launch} {e : Env} {s : State} {m : MethodId} {args : Array Value} {below : List Frame} {meth : Method} {c : Code} {V : xV} (C : xC p s m args c cd_Col_clearKeyedFields 2 R_Col V) (hlocks : meth.locks = false) (hr : meth.sig.returnType = none) {Q : xS → Prop} : ∀ (n : Nat) (x1 : Int32) (σ : xS) (H : Heap) (locs : List Loc) (ls : Array Slot), p_Col_clearKeyedFields_L2 Q n x1 σ → xI V s.heap σ H locs → lv_has ls 2 [(0, .ref (V.2.2 2)), (1, .int x1)] → W p l e rm_Col_clearKeyedFields s m args below meth c H locs 0 0 (xZv below V args s Q) (F0 m 2 ls []) := by
  intro n
  induction n with
  | zero =>
    intro x1 σ H locs ls h
    exact False.elim h
  | succ n ih =>
    intro x1 σ H locs ls h hI hl
    exact s_Col_clearKeyedFields_L2 C hlocks hr (K2 := p_Col_clearKeyedFields_L2 Q n) (fun x1 σ H locs ls h hI hl => ih x1 σ H locs ls h hI hl) h hI hl
set_option maxRecDepth 100000 in
set_option maxHeartbeats 4000000 in
theorem c_Col_clearKeyedFields {l : Launch} {V : xV} {σ : xS} {Q : xS → Prop} (h : p_Col_clearKeyedFields σ Q) : xMv l y_Col_clearKeyedFields (.code y_Col_clearKeyedFields cd_Col_clearKeyedFields 2 none :: xG) rm_Col_clearKeyedFields V [.ref (V.2.2 2)] σ Q := by
  refine x_beginv (by decide) (Nat.le_of_ble_eq_true rfl) (fun p e s m below meth c ls C hlocks hr hI hl => ?_)
  have C : xC p s m _ c cd_Col_clearKeyedFields 2 R_Col V := C
  have hx := C.1
  have hb := C.2.1
  have hl : lv_has ls 2 [(0, .ref (V.2.2 2))] := hl
  unfold p_Col_clearKeyedFields at h
  refine lv_iconst (v := 0) hx hb d_Col_clearKeyedFields_0 (by decide) ?_
  refine lv_istore_n (lv' := [(1, .int 0), (0, .ref (V.2.2 2))]) hx hb d_Col_clearKeyedFields_1 rfl hl (by decide) rfl (fun ls hl => ?_)
  obtain ⟨n, h⟩ := h
  exact w_Col_clearKeyedFields_L2 C hlocks hr n _ _ _ _ _ h hI (lv_sub hl [1, 0] rfl)
theorem yw_Col_clearKeyedFields : xY y_Col_clearKeyedFields cd_Col_clearKeyedFields 2 none 0 := ⟨xG_mem 620 (by decide +kernel) (by decide +kernel), xG_mem 11 (by decide +kernel) (by decide +kernel), xG_mem 61 (by decide +kernel) (by decide +kernel), xG_mem 621 (by decide +kernel) (by decide +kernel), by decide, by decide, by decide +kernel⟩
theorem ml_Col_65 : Cond.methodLink R_Col 65 y_Col_clearKeyedFields ∈ xG := xG_mem 618 (by decide +kernel) (by decide +kernel)
theorem yw_Mem_startMoves : xY y_Mem_startMoves cd_Mem_startMoves 2 none 0 := ⟨xG_mem 628 (by decide +kernel) (by decide +kernel), xG_mem 629 (by decide +kernel) (by decide +kernel), xG_mem 55 (by decide +kernel) (by decide +kernel), xG_mem 630 (by decide +kernel) (by decide +kernel), by decide, by decide, by decide +kernel⟩
theorem ml_Col_68 : Cond.methodLink R_Col 68 y_Mem_startMoves ∈ xG := xG_mem 627 (by decide +kernel) (by decide +kernel)
theorem fd_Col_71 : xFd R_Col 71 1 2 := ⟨R_Mem, T_Mem, 6, rfl, in_Mem, by decide, xG_mem 173 (by decide +kernel) (by decide +kernel)⟩
theorem yw_Reg_amount : xY y_Reg_amount cd_Reg_amount 1 (some .int) 0 := ⟨xG_mem 314 (by decide +kernel) (by decide +kernel), xG_mem 315 (by decide +kernel) (by decide +kernel), xG_mem 59 (by decide +kernel) (by decide +kernel), xG_mem 316 (by decide +kernel) (by decide +kernel), by decide, by decide, by decide +kernel⟩
theorem ml_Col_75 : Cond.methodLink R_Col 75 y_Reg_amount ∈ xG := xG_mem 631 (by decide +kernel) (by decide +kernel)
theorem yw_Mem_followAllMoves : xY y_Mem_followAllMoves cd_Mem_followAllMoves 1 none 0 := ⟨xG_mem 670 (by decide +kernel) (by decide +kernel), xG_mem 671 (by decide +kernel) (by decide +kernel), xG_mem 55 (by decide +kernel) (by decide +kernel), xG_mem 672 (by decide +kernel) (by decide +kernel), by decide, by decide, by decide +kernel⟩
theorem ml_Col_84 : Cond.methodLink R_Col 84 y_Mem_followAllMoves ∈ xG := xG_mem 669 (by decide +kernel) (by decide +kernel)
theorem fw_Col_24 : xFw R_Col 24 2 2 := ⟨R_Col, T_Col, 5, t_Col, rfl, in_Col, by decide, xG_mem 223 (by decide +kernel) (by decide +kernel), tk_Col, nm_Col, rfl, by decide +kernel⟩
theorem xP_2_2 (V : xV) (f : Nat → Int32) (x : Int32) : xE V 2 (upd f 2 x) = .inr (2, [.ref (V.2.2 1), .ref (V.2.2 11), .int (f 2), .int (f 3), .int (f 4)].set 2 (.int x)) := rfl
def y_Col_slideRegion : MethodName := ⟨"RegionPool$Collector", "slideRegion", "(I)V"⟩
abbrev cd_Col_slideRegion : ByteArray := prog_2_method_10_code
theorem yw_Reg_startSlide : xY y_Reg_startSlide cd_Reg_startSlide 3 (some .int) 1 := ⟨xG_mem 637 (by decide +kernel) (by decide +kernel), xG_mem 638 (by decide +kernel) (by decide +kernel), xG_mem 59 (by decide +kernel) (by decide +kernel), xG_mem 639 (by decide +kernel) (by decide +kernel), by decide, by decide, by decide +kernel⟩
theorem ml_Col_126 : Cond.methodLink R_Col 126 y_Reg_startSlide ∈ xG := xG_mem 636 (by decide +kernel) (by decide +kernel)
theorem yw_Reg_endSlide : xY y_Reg_endSlide cd_Reg_endSlide 3 none 2 := ⟨xG_mem 666 (by decide +kernel) (by decide +kernel), xG_mem 667 (by decide +kernel) (by decide +kernel), xG_mem 59 (by decide +kernel) (by decide +kernel), xG_mem 668 (by decide +kernel) (by decide +kernel), by decide, by decide, by decide +kernel⟩
theorem ml_Col_140 : Cond.methodLink R_Col 140 y_Reg_endSlide ∈ xG := xG_mem 665 (by decide +kernel) (by decide +kernel)
theorem ml_Col_129 : Cond.methodLink R_Col 129 y_Reg_pageInRow ∈ xG := xG_mem 640 (by decide +kernel) (by decide +kernel)
theorem ml_Col_133 : Cond.methodLink R_Col 133 y_Hea_isObject ∈ xG := xG_mem 641 (by decide +kernel) (by decide +kernel)
def y_Col_slideOrErase : MethodName := ⟨"RegionPool$Collector", "slideOrErase", "(II)V"⟩
abbrev cd_Col_slideOrErase : ByteArray := prog_2_method_11_code
theorem ml_Col_146 : Cond.methodLink R_Col 146 y_Hea_sizeOf ∈ xG := xG_mem 647 (by decide +kernel) (by decide +kernel)
theorem yw_Reg_slidePlaces : xY y_Reg_slidePlaces cd_Reg_slidePlaces 3 (some .int) 2 := ⟨xG_mem 649 (by decide +kernel) (by decide +kernel), xG_mem 650 (by decide +kernel) (by decide +kernel), xG_mem 59 (by decide +kernel) (by decide +kernel), xG_mem 651 (by decide +kernel) (by decide +kernel), by decide, by decide, by decide +kernel⟩
theorem ml_Col_149 : Cond.methodLink R_Col 149 y_Reg_slidePlaces ∈ xG := xG_mem 648 (by decide +kernel) (by decide +kernel)
theorem yw_Hea_carry : xY y_Hea_carry cd_Hea_carry 7 none 2 := ⟨xG_mem 657 (by decide +kernel) (by decide +kernel), xG_mem 658 (by decide +kernel) (by decide +kernel), xG_mem 57 (by decide +kernel) (by decide +kernel), xG_mem 659 (by decide +kernel) (by decide +kernel), by decide, by decide, by decide +kernel⟩
theorem ml_Col_152 : Cond.methodLink R_Col 152 y_Hea_carry ∈ xG := xG_mem 656 (by decide +kernel) (by decide +kernel)
theorem yw_Mem_noteMove : xY y_Mem_noteMove cd_Mem_noteMove 3 none 2 := ⟨xG_mem 662 (by decide +kernel) (by decide +kernel), xG_mem 663 (by decide +kernel) (by decide +kernel), xG_mem 55 (by decide +kernel) (by decide +kernel), xG_mem 664 (by decide +kernel) (by decide +kernel), by decide, by decide, by decide +kernel⟩
theorem ml_Col_155 : Cond.methodLink R_Col 155 y_Mem_noteMove ∈ xG := xG_mem 661 (by decide +kernel) (by decide +kernel)
theorem fw_Col_31 : xFw R_Col 31 2 4 := ⟨R_Col, T_Col, 5, t_Col, rfl, in_Col, by decide, xG_mem 225 (by decide +kernel) (by decide +kernel), tk_Col, nm_Col, rfl, by decide +kernel⟩
theorem xP_2_4 (V : xV) (f : Nat → Int32) (x : Int32) : xE V 2 (upd f 4 x) = .inr (2, [.ref (V.2.2 1), .ref (V.2.2 11), .int (f 2), .int (f 3), .int (f 4)].set 4 (.int x)) := rfl
theorem ml_Col_143 : Cond.methodLink R_Col 143 y_Hea_erase ∈ xG := xG_mem 646 (by decide +kernel) (by decide +kernel)
theorem fw_Col_28 : xFw R_Col 28 2 3 := ⟨R_Col, T_Col, 5, t_Col, rfl, in_Col, by decide, xG_mem 224 (by decide +kernel) (by decide +kernel), tk_Col, nm_Col, rfl, by decide +kernel⟩
theorem xP_2_3 (V : xV) (f : Nat → Int32) (x : Int32) : xE V 2 (upd f 3 x) = .inr (2, [.ref (V.2.2 1), .ref (V.2.2 11), .int (f 2), .int (f 3), .int (f 4)].set 3 (.int x)) := rfl
def p_Col_slideOrErase (x1 x2 : Int32) (σ : xS) (Q : xS → Prop) : Prop :=
  p_Mar_isLive x2 σ (fun r2 σ1 => ((¬ r2 = 0 → p_Hea_sizeOf x2 σ1 (fun r5 σ4 => p_Reg_slidePlaces x1 r5 σ4 (fun r7 σ6 => ((r7 = x2 → Q σ6) ∧ (¬ r7 = x2 → p_Hea_carry x2 r7 σ6 (fun σ9 => p_Mem_noteMove x2 r7 σ9 (fun σ10 => Q (xu σ10 2 4 ((σ10 2 4) + 1))))))))) ∧ (r2 = 0 → p_Hea_erase x2 σ1 (fun σ11 => Q (xu σ11 2 3 ((σ11 2 3) + 1))))))
abbrev rm_Col_slideOrErase : Room := { frames := 3, cells := 0, slots := 0, locals := 68 }
theorem d_Col_slideOrErase_0 : decode cd_Col_slideOrErase 0 = .ok (.aload_n 0, 1) := by decide +kernel
theorem d_Col_slideOrErase_1 : decode cd_Col_slideOrErase 1 = .ok (.getfield 20, 3) := by decide +kernel
theorem d_Col_slideOrErase_4 : decode cd_Col_slideOrErase 4 = .ok (.iload_n 2, 1) := by decide +kernel
theorem d_Col_slideOrErase_5 : decode cd_Col_slideOrErase 5 = .ok (.invokevirtual 87, 3) := by decide +kernel
theorem d_Col_slideOrErase_8 : decode cd_Col_slideOrErase 8 = .ok (.ifCond .ne 25, 3) := by decide +kernel
theorem d_Col_slideOrErase_11 : decode cd_Col_slideOrErase 11 = .ok (.aload_n 0, 1) := by decide +kernel
theorem d_Col_slideOrErase_12 : decode cd_Col_slideOrErase 12 = .ok (.getfield 9, 3) := by decide +kernel
theorem d_Col_slideOrErase_15 : decode cd_Col_slideOrErase 15 = .ok (.getfield 91, 3) := by decide +kernel
theorem d_Col_slideOrErase_18 : decode cd_Col_slideOrErase 18 = .ok (.iload_n 2, 1) := by decide +kernel
theorem d_Col_slideOrErase_19 : decode cd_Col_slideOrErase 19 = .ok (.invokevirtual 143, 3) := by decide +kernel
theorem d_Col_slideOrErase_22 : decode cd_Col_slideOrErase 22 = .ok (.aload_n 0, 1) := by decide +kernel
theorem d_Col_slideOrErase_23 : decode cd_Col_slideOrErase 23 = .ok (.dup, 1) := by decide +kernel
theorem d_Col_slideOrErase_24 : decode cd_Col_slideOrErase 24 = .ok (.getfield 28, 3) := by decide +kernel
theorem d_Col_slideOrErase_27 : decode cd_Col_slideOrErase 27 = .ok (.iconst 1, 1) := by decide +kernel
theorem d_Col_slideOrErase_28 : decode cd_Col_slideOrErase 28 = .ok (.iadd, 1) := by decide +kernel
theorem d_Col_slideOrErase_29 : decode cd_Col_slideOrErase 29 = .ok (.putfield 28, 3) := by decide +kernel
theorem d_Col_slideOrErase_32 : decode cd_Col_slideOrErase 32 = .ok (.return_, 1) := by decide +kernel
theorem d_Col_slideOrErase_33 : decode cd_Col_slideOrErase 33 = .ok (.aload_n 0, 1) := by decide +kernel
theorem d_Col_slideOrErase_34 : decode cd_Col_slideOrErase 34 = .ok (.getfield 9, 3) := by decide +kernel
theorem d_Col_slideOrErase_37 : decode cd_Col_slideOrErase 37 = .ok (.getfield 71, 3) := by decide +kernel
theorem d_Col_slideOrErase_40 : decode cd_Col_slideOrErase 40 = .ok (.iload_n 1, 1) := by decide +kernel
theorem d_Col_slideOrErase_41 : decode cd_Col_slideOrErase 41 = .ok (.aload_n 0, 1) := by decide +kernel
theorem d_Col_slideOrErase_42 : decode cd_Col_slideOrErase 42 = .ok (.getfield 9, 3) := by decide +kernel
theorem d_Col_slideOrErase_45 : decode cd_Col_slideOrErase 45 = .ok (.getfield 91, 3) := by decide +kernel
theorem d_Col_slideOrErase_48 : decode cd_Col_slideOrErase 48 = .ok (.iload_n 2, 1) := by decide +kernel
theorem d_Col_slideOrErase_49 : decode cd_Col_slideOrErase 49 = .ok (.invokevirtual 146, 3) := by decide +kernel
theorem d_Col_slideOrErase_52 : decode cd_Col_slideOrErase 52 = .ok (.invokevirtual 149, 3) := by decide +kernel
theorem d_Col_slideOrErase_55 : decode cd_Col_slideOrErase 55 = .ok (.istore_n 3, 1) := by decide +kernel
theorem d_Col_slideOrErase_56 : decode cd_Col_slideOrErase 56 = .ok (.iload_n 3, 1) := by decide +kernel
theorem d_Col_slideOrErase_57 : decode cd_Col_slideOrErase 57 = .ok (.iload_n 2, 1) := by decide +kernel
theorem d_Col_slideOrErase_58 : decode cd_Col_slideOrErase 58 = .ok (.if_icmp .eq 34, 3) := by decide +kernel
theorem d_Col_slideOrErase_61 : decode cd_Col_slideOrErase 61 = .ok (.aload_n 0, 1) := by decide +kernel
theorem d_Col_slideOrErase_62 : decode cd_Col_slideOrErase 62 = .ok (.getfield 9, 3) := by decide +kernel
theorem d_Col_slideOrErase_65 : decode cd_Col_slideOrErase 65 = .ok (.getfield 91, 3) := by decide +kernel
theorem d_Col_slideOrErase_68 : decode cd_Col_slideOrErase 68 = .ok (.iload_n 2, 1) := by decide +kernel
theorem d_Col_slideOrErase_69 : decode cd_Col_slideOrErase 69 = .ok (.iload_n 3, 1) := by decide +kernel
theorem d_Col_slideOrErase_70 : decode cd_Col_slideOrErase 70 = .ok (.invokevirtual 152, 3) := by decide +kernel
theorem d_Col_slideOrErase_73 : decode cd_Col_slideOrErase 73 = .ok (.aload_n 0, 1) := by decide +kernel
theorem d_Col_slideOrErase_74 : decode cd_Col_slideOrErase 74 = .ok (.getfield 9, 3) := by decide +kernel
theorem d_Col_slideOrErase_77 : decode cd_Col_slideOrErase 77 = .ok (.iload_n 2, 1) := by decide +kernel
theorem d_Col_slideOrErase_78 : decode cd_Col_slideOrErase 78 = .ok (.iload_n 3, 1) := by decide +kernel
theorem d_Col_slideOrErase_79 : decode cd_Col_slideOrErase 79 = .ok (.invokevirtual 155, 3) := by decide +kernel
theorem d_Col_slideOrErase_82 : decode cd_Col_slideOrErase 82 = .ok (.aload_n 0, 1) := by decide +kernel
theorem d_Col_slideOrErase_83 : decode cd_Col_slideOrErase 83 = .ok (.dup, 1) := by decide +kernel
theorem d_Col_slideOrErase_84 : decode cd_Col_slideOrErase 84 = .ok (.getfield 31, 3) := by decide +kernel
theorem d_Col_slideOrErase_87 : decode cd_Col_slideOrErase 87 = .ok (.iconst 1, 1) := by decide +kernel
theorem d_Col_slideOrErase_88 : decode cd_Col_slideOrErase 88 = .ok (.iadd, 1) := by decide +kernel
theorem d_Col_slideOrErase_89 : decode cd_Col_slideOrErase 89 = .ok (.putfield 31, 3) := by decide +kernel
theorem d_Col_slideOrErase_92 : decode cd_Col_slideOrErase 92 = .ok (.return_, 1) := by decide +kernel
set_option maxRecDepth 100000 in
set_option maxHeartbeats 4000000 in
theorem c_Col_slideOrErase {l : Launch} {V : xV} {σ : xS} {x1 x2 : Int32} {Q : xS → Prop} (h : p_Col_slideOrErase x1 x2 σ Q) : xMv l y_Col_slideOrErase (.code y_Col_slideOrErase cd_Col_slideOrErase 4 none :: xG) rm_Col_slideOrErase V [.ref (V.2.2 2), .int x1, .int x2] σ Q := by
  refine x_beginv (by decide) (Nat.le_of_ble_eq_true rfl) (fun p e s m below meth c ls C hlocks hr hI hl => ?_)
  have C : xC p s m _ c cd_Col_slideOrErase 4 R_Col V := C
  have hx := C.1
  have hb := C.2.1
  have hl : lv_has ls 4 [(0, .ref (V.2.2 2)), (1, .int x1), (2, .int x2)] := hl
  unfold p_Col_slideOrErase at h
  refine lv_aload_n hx hb d_Col_slideOrErase_0 rfl (lv_at hl 0 rfl) ?_
  refine x_get C hI (d := 2) (by decide) (xE2 V _) fd_Col_20 rfl d_Col_slideOrErase_1 ?_
  refine lv_iload_n hx hb d_Col_slideOrErase_4 rfl (lv_at hl 2 rfl) ?_
  refine x_calli C hI hl.1 (d := 11) (As := [.int x2]) (rest := []) (by decide) (c_Mar_isLive h) (xE11 V _) rfl yw_Mar_isLive ml_Col_87 rfl rfl ⟨Nat.le_of_ble_eq_true rfl, Nat.le_of_ble_eq_true rfl⟩ rfl rfl (Nat.le_of_ble_eq_true rfl) d_Col_slideOrErase_5 ⟨Nat.zero_le _, Nat.zero_le _⟩ (fun r2 σ1 H locs h hI => ?_)
  refine lv_if_ne (tgt := 33) hx hb d_Col_slideOrErase_8 (by decide) (fun c3 => ?_) (fun c3 => ?_)
  · have h := h.1 c3
    refine lv_aload_n hx hb d_Col_slideOrErase_33 rfl (lv_at hl 0 rfl) ?_
    refine x_get C hI (d := 2) (by decide) (xE2 V _) fd_Col_9 rfl d_Col_slideOrErase_34 ?_
    refine x_get C hI (d := 1) (by decide) (xE1 V _) fd_Col_71 rfl d_Col_slideOrErase_37 ?_
    refine lv_iload_n hx hb d_Col_slideOrErase_40 rfl (lv_at hl 1 rfl) ?_
    refine lv_aload_n hx hb d_Col_slideOrErase_41 rfl (lv_at hl 0 rfl) ?_
    refine x_get C hI (d := 2) (by decide) (xE2 V _) fd_Col_9 rfl d_Col_slideOrErase_42 ?_
    refine x_get C hI (d := 1) (by decide) (xE1 V _) fd_Col_91 rfl d_Col_slideOrErase_45 ?_
    refine lv_iload_n hx hb d_Col_slideOrErase_48 rfl (lv_at hl 2 rfl) ?_
    refine x_calli C hI hl.1 (d := 6) (As := [.int x2]) (rest := [.int x1, .ref (V.2.2 7)]) (by decide) (c_Hea_sizeOf h) (xE6 V _) rfl yw_Hea_sizeOf ml_Col_146 rfl rfl ⟨Nat.le_of_ble_eq_true rfl, Nat.le_of_ble_eq_true rfl⟩ rfl rfl (Nat.le_of_ble_eq_true rfl) d_Col_slideOrErase_49 ⟨Nat.zero_le _, Nat.zero_le _⟩ (fun r5 σ4 H locs h hI => ?_)
    refine x_calli C hI hl.1 (d := 7) (As := [.int x1, .int r5]) (rest := []) (by decide) (c_Reg_slidePlaces h) (xE7 V _) rfl yw_Reg_slidePlaces ml_Col_149 rfl rfl ⟨Nat.le_of_ble_eq_true rfl, Nat.le_of_ble_eq_true rfl⟩ rfl rfl (Nat.le_of_ble_eq_true rfl) d_Col_slideOrErase_52 ⟨Nat.zero_le _, Nat.zero_le _⟩ (fun r7 σ6 H locs h hI => ?_)
    refine lv_istore_n (lv' := [(3, .int r7), (0, .ref (V.2.2 2)), (1, .int x1), (2, .int x2)]) hx hb d_Col_slideOrErase_55 rfl hl (by decide) rfl (fun ls hl => ?_)
    refine lv_iload_n hx hb d_Col_slideOrErase_56 rfl (lv_at hl 0 rfl) ?_
    refine lv_iload_n hx hb d_Col_slideOrErase_57 rfl (lv_at hl 3 rfl) ?_
    refine lv_icmp_eq (tgt := 92) hx hb d_Col_slideOrErase_58 (by decide) (fun c8 => ?_) (fun c8 => ?_)
    · have h := h.1 c8
      exact x_vret C hlocks hr hI h d_Col_slideOrErase_92
    · have h := h.2 c8
      refine lv_aload_n hx hb d_Col_slideOrErase_61 rfl (lv_at hl 1 rfl) ?_
      refine x_get C hI (d := 2) (by decide) (xE2 V _) fd_Col_9 rfl d_Col_slideOrErase_62 ?_
      refine x_get C hI (d := 1) (by decide) (xE1 V _) fd_Col_91 rfl d_Col_slideOrErase_65 ?_
      refine lv_iload_n hx hb d_Col_slideOrErase_68 rfl (lv_at hl 3 rfl) ?_
      refine lv_iload_n hx hb d_Col_slideOrErase_69 rfl (lv_at hl 0 rfl) ?_
      refine x_callv C hI hl.1 (d := 6) (As := [.int x2, .int r7]) (rest := []) (by decide) (c_Hea_carry h) (xE6 V _) rfl yw_Hea_carry ml_Col_152 rfl rfl ⟨Nat.le_of_ble_eq_true rfl, Nat.le_of_ble_eq_true rfl⟩ rfl rfl (Nat.le_of_ble_eq_true rfl) d_Col_slideOrErase_70 ⟨Nat.zero_le _, Nat.zero_le _⟩ (fun σ9 H locs h hI => ?_)
      refine lv_aload_n hx hb d_Col_slideOrErase_73 rfl (lv_at hl 1 rfl) ?_
      refine x_get C hI (d := 2) (by decide) (xE2 V _) fd_Col_9 rfl d_Col_slideOrErase_74 ?_
      refine lv_iload_n hx hb d_Col_slideOrErase_77 rfl (lv_at hl 3 rfl) ?_
      refine lv_iload_n hx hb d_Col_slideOrErase_78 rfl (lv_at hl 0 rfl) ?_
      refine x_callv C hI hl.1 (d := 1) (As := [.int x2, .int r7]) (rest := []) (by decide) (c_Mem_noteMove h) (xE1 V _) rfl yw_Mem_noteMove ml_Col_155 rfl rfl ⟨Nat.le_of_ble_eq_true rfl, Nat.le_of_ble_eq_true rfl⟩ rfl rfl (Nat.le_of_ble_eq_true rfl) d_Col_slideOrErase_79 ⟨Nat.zero_le _, Nat.zero_le _⟩ (fun σ10 H locs h hI => ?_)
      refine lv_aload_n hx hb d_Col_slideOrErase_82 rfl (lv_at hl 1 rfl) ?_
      refine lv_dup hx hb d_Col_slideOrErase_83 rfl ?_
      refine x_get C hI (d := 2) (by decide) (xE2 V _) fd_Col_31 rfl d_Col_slideOrErase_84 ?_
      refine lv_iconst (v := 1) hx hb d_Col_slideOrErase_87 (by decide) ?_
      refine lv_iadd hx hb d_Col_slideOrErase_88 ?_
      refine x_put C hI (d := 2) (by decide) (xE2 V _) (xP_2_4 V _ _) fw_Col_31 (Nat.le_of_ble_eq_true rfl) d_Col_slideOrErase_89 (fun H locs hI => ?_)
      exact x_vret C hlocks hr hI h d_Col_slideOrErase_92
  · have h := h.2 c3
    refine lv_aload_n hx hb d_Col_slideOrErase_11 rfl (lv_at hl 0 rfl) ?_
    refine x_get C hI (d := 2) (by decide) (xE2 V _) fd_Col_9 rfl d_Col_slideOrErase_12 ?_
    refine x_get C hI (d := 1) (by decide) (xE1 V _) fd_Col_91 rfl d_Col_slideOrErase_15 ?_
    refine lv_iload_n hx hb d_Col_slideOrErase_18 rfl (lv_at hl 2 rfl) ?_
    refine x_callv C hI hl.1 (d := 6) (As := [.int x2]) (rest := []) (by decide) (c_Hea_erase h) (xE6 V _) rfl yw_Hea_erase ml_Col_143 rfl rfl ⟨Nat.le_of_ble_eq_true rfl, Nat.le_of_ble_eq_true rfl⟩ rfl rfl (Nat.le_of_ble_eq_true rfl) d_Col_slideOrErase_19 ⟨Nat.zero_le _, Nat.zero_le _⟩ (fun σ11 H locs h hI => ?_)
    refine lv_aload_n hx hb d_Col_slideOrErase_22 rfl (lv_at hl 0 rfl) ?_
    refine lv_dup hx hb d_Col_slideOrErase_23 rfl ?_
    refine x_get C hI (d := 2) (by decide) (xE2 V _) fd_Col_28 rfl d_Col_slideOrErase_24 ?_
    refine lv_iconst (v := 1) hx hb d_Col_slideOrErase_27 (by decide) ?_
    refine lv_iadd hx hb d_Col_slideOrErase_28 ?_
    refine x_put C hI (d := 2) (by decide) (xE2 V _) (xP_2_3 V _ _) fw_Col_28 (Nat.le_of_ble_eq_true rfl) d_Col_slideOrErase_29 (fun H locs hI => ?_)
    exact x_vret C hlocks hr hI h d_Col_slideOrErase_32
theorem yw_Col_slideOrErase : xY y_Col_slideOrErase cd_Col_slideOrErase 4 none 2 := ⟨xG_mem 644 (by decide +kernel) (by decide +kernel), xG_mem 13 (by decide +kernel) (by decide +kernel), xG_mem 61 (by decide +kernel) (by decide +kernel), xG_mem 645 (by decide +kernel) (by decide +kernel), by decide, by decide, by decide +kernel⟩
theorem ml_Col_136 : Cond.methodLink R_Col 136 y_Col_slideOrErase ∈ xG := xG_mem 642 (by decide +kernel) (by decide +kernel)
def b_Col_slideRegion_L39 (K14 : Int32 → Int32 → Int32 → xS → Prop) (K39 : Int32 → Int32 → Int32 → Int32 → Int32 → xS → Prop) (Q : xS → Prop) (x1 x2 x3 x4 x5 : Int32) (σ : xS) : Prop :=
  ((16 ≤ x5 → (∀ z9 : Int32, z9 = x3 + 1 → K14 x1 x2 z9 σ)) ∧ (¬ 16 ≤ x5 → p_Hea_isObject (x4 + x5) σ (fun r11 σ10 => ((r11 = 0 → (∀ z13 : Int32, z13 = x5 + 1 → K39 x1 x2 x3 x4 z13 σ10)) ∧ (¬ r11 = 0 → p_Col_slideOrErase x1 (x4 + x5) σ10 (fun σ14 => (∀ z15 : Int32, z15 = x5 + 1 → K39 x1 x2 x3 x4 z15 σ14)))))))
def p_Col_slideRegion_L39 (K14 : Int32 → Int32 → Int32 → xS → Prop) (Q : xS → Prop) (n : Nat) : Int32 → Int32 → Int32 → Int32 → Int32 → xS → Prop := Nat.rec (motive := fun _ => Int32 → Int32 → Int32 → Int32 → Int32 → xS → Prop) (fun _ _ _ _ _ _ => False) (fun _ K x1 x2 x3 x4 x5 σ => b_Col_slideRegion_L39 K14 K Q x1 x2 x3 x4 x5 σ) n
def b_Col_slideRegion_L14 (K14 : Int32 → Int32 → Int32 → xS → Prop) (Q : xS → Prop) (x1 x2 x3 : Int32) (σ : xS) : Prop :=
  ((x2 ≤ x3 → p_Reg_endSlide x1 x2 σ (fun σ4 => Q σ4)) ∧ (¬ x2 ≤ x3 → p_Reg_pageInRow x1 x3 σ (fun r6 σ5 => (∀ z7 : Int32, z7 = (r6 * 16) → (∃ n, p_Col_slideRegion_L39 K14 Q n x1 x2 x3 z7 0 σ5)))))
def p_Col_slideRegion_L14 (Q : xS → Prop) (n : Nat) : Int32 → Int32 → Int32 → xS → Prop := Nat.rec (motive := fun _ => Int32 → Int32 → Int32 → xS → Prop) (fun _ _ _ _ => False) (fun _ K x1 x2 x3 σ => b_Col_slideRegion_L14 K Q x1 x2 x3 σ) n
def p_Col_slideRegion (x1 : Int32) (σ : xS) (Q : xS → Prop) : Prop :=
  p_Reg_startSlide x1 σ (fun r2 σ1 => (∃ n, p_Col_slideRegion_L14 Q n x1 r2 0 σ1))
abbrev rm_Col_slideRegion : Room := { frames := 4, cells := 0, slots := 0, locals := 91 }
theorem d_Col_slideRegion_0 : decode cd_Col_slideRegion 0 = .ok (.aload_n 0, 1) := by decide +kernel
theorem d_Col_slideRegion_1 : decode cd_Col_slideRegion 1 = .ok (.getfield 9, 3) := by decide +kernel
theorem d_Col_slideRegion_4 : decode cd_Col_slideRegion 4 = .ok (.getfield 71, 3) := by decide +kernel
theorem d_Col_slideRegion_7 : decode cd_Col_slideRegion 7 = .ok (.iload_n 1, 1) := by decide +kernel
theorem d_Col_slideRegion_8 : decode cd_Col_slideRegion 8 = .ok (.invokevirtual 126, 3) := by decide +kernel
theorem d_Col_slideRegion_11 : decode cd_Col_slideRegion 11 = .ok (.istore_n 2, 1) := by decide +kernel
theorem d_Col_slideRegion_12 : decode cd_Col_slideRegion 12 = .ok (.iconst 0, 1) := by decide +kernel
theorem d_Col_slideRegion_13 : decode cd_Col_slideRegion 13 = .ok (.istore_n 3, 1) := by decide +kernel
theorem d_Col_slideRegion_14 : decode cd_Col_slideRegion 14 = .ok (.iload_n 3, 1) := by decide +kernel
theorem d_Col_slideRegion_15 : decode cd_Col_slideRegion 15 = .ok (.iload_n 2, 1) := by decide +kernel
theorem d_Col_slideRegion_16 : decode cd_Col_slideRegion 16 = .ok (.if_icmp .ge 70, 3) := by decide +kernel
theorem d_Col_slideRegion_19 : decode cd_Col_slideRegion 19 = .ok (.aload_n 0, 1) := by decide +kernel
theorem d_Col_slideRegion_20 : decode cd_Col_slideRegion 20 = .ok (.getfield 9, 3) := by decide +kernel
theorem d_Col_slideRegion_23 : decode cd_Col_slideRegion 23 = .ok (.getfield 71, 3) := by decide +kernel
theorem d_Col_slideRegion_26 : decode cd_Col_slideRegion 26 = .ok (.iload_n 1, 1) := by decide +kernel
theorem d_Col_slideRegion_27 : decode cd_Col_slideRegion 27 = .ok (.iload_n 3, 1) := by decide +kernel
theorem d_Col_slideRegion_28 : decode cd_Col_slideRegion 28 = .ok (.invokevirtual 129, 3) := by decide +kernel
theorem d_Col_slideRegion_31 : decode cd_Col_slideRegion 31 = .ok (.bipush 16, 2) := by decide +kernel
theorem d_Col_slideRegion_33 : decode cd_Col_slideRegion 33 = .ok (.imul, 1) := by decide +kernel
theorem d_Col_slideRegion_34 : decode cd_Col_slideRegion 34 = .ok (.istore 4, 2) := by decide +kernel
theorem d_Col_slideRegion_36 : decode cd_Col_slideRegion 36 = .ok (.iconst 0, 1) := by decide +kernel
theorem d_Col_slideRegion_37 : decode cd_Col_slideRegion 37 = .ok (.istore 5, 2) := by decide +kernel
theorem d_Col_slideRegion_39 : decode cd_Col_slideRegion 39 = .ok (.iload 5, 2) := by decide +kernel
theorem d_Col_slideRegion_41 : decode cd_Col_slideRegion 41 = .ok (.bipush 16, 2) := by decide +kernel
theorem d_Col_slideRegion_43 : decode cd_Col_slideRegion 43 = .ok (.if_icmp .ge 37, 3) := by decide +kernel
theorem d_Col_slideRegion_46 : decode cd_Col_slideRegion 46 = .ok (.aload_n 0, 1) := by decide +kernel
theorem d_Col_slideRegion_47 : decode cd_Col_slideRegion 47 = .ok (.getfield 9, 3) := by decide +kernel
theorem d_Col_slideRegion_50 : decode cd_Col_slideRegion 50 = .ok (.getfield 91, 3) := by decide +kernel
theorem d_Col_slideRegion_53 : decode cd_Col_slideRegion 53 = .ok (.iload 4, 2) := by decide +kernel
theorem d_Col_slideRegion_55 : decode cd_Col_slideRegion 55 = .ok (.iload 5, 2) := by decide +kernel
theorem d_Col_slideRegion_57 : decode cd_Col_slideRegion 57 = .ok (.iadd, 1) := by decide +kernel
theorem d_Col_slideRegion_58 : decode cd_Col_slideRegion 58 = .ok (.invokevirtual 133, 3) := by decide +kernel
theorem d_Col_slideRegion_61 : decode cd_Col_slideRegion 61 = .ok (.ifCond .eq 13, 3) := by decide +kernel
theorem d_Col_slideRegion_64 : decode cd_Col_slideRegion 64 = .ok (.aload_n 0, 1) := by decide +kernel
theorem d_Col_slideRegion_65 : decode cd_Col_slideRegion 65 = .ok (.iload_n 1, 1) := by decide +kernel
theorem d_Col_slideRegion_66 : decode cd_Col_slideRegion 66 = .ok (.iload 4, 2) := by decide +kernel
theorem d_Col_slideRegion_68 : decode cd_Col_slideRegion 68 = .ok (.iload 5, 2) := by decide +kernel
theorem d_Col_slideRegion_70 : decode cd_Col_slideRegion 70 = .ok (.iadd, 1) := by decide +kernel
theorem d_Col_slideRegion_71 : decode cd_Col_slideRegion 71 = .ok (.invokevirtual 136, 3) := by decide +kernel
theorem d_Col_slideRegion_74 : decode cd_Col_slideRegion 74 = .ok (.iinc 5 1, 3) := by decide +kernel
theorem d_Col_slideRegion_77 : decode cd_Col_slideRegion 77 = .ok (.goto (-38), 3) := by decide +kernel
theorem d_Col_slideRegion_80 : decode cd_Col_slideRegion 80 = .ok (.iinc 3 1, 3) := by decide +kernel
theorem d_Col_slideRegion_83 : decode cd_Col_slideRegion 83 = .ok (.goto (-69), 3) := by decide +kernel
theorem d_Col_slideRegion_86 : decode cd_Col_slideRegion 86 = .ok (.aload_n 0, 1) := by decide +kernel
theorem d_Col_slideRegion_87 : decode cd_Col_slideRegion 87 = .ok (.getfield 9, 3) := by decide +kernel
theorem d_Col_slideRegion_90 : decode cd_Col_slideRegion 90 = .ok (.getfield 71, 3) := by decide +kernel
theorem d_Col_slideRegion_93 : decode cd_Col_slideRegion 93 = .ok (.iload_n 1, 1) := by decide +kernel
theorem d_Col_slideRegion_94 : decode cd_Col_slideRegion 94 = .ok (.iload_n 2, 1) := by decide +kernel
theorem d_Col_slideRegion_95 : decode cd_Col_slideRegion 95 = .ok (.invokevirtual 140, 3) := by decide +kernel
theorem d_Col_slideRegion_98 : decode cd_Col_slideRegion 98 = .ok (.return_, 1) := by decide +kernel
set_option maxRecDepth 100000 in
set_option maxHeartbeats 4000000 in
theorem s_Col_slideRegion_L39 {p : Program} {l : Launch} {e : Env} {s : State} {m : MethodId} {args : Array Value} {below : List Frame} {meth : Method} {c : Code} {V : xV} (C : xC p s m args c cd_Col_slideRegion 6 R_Col V) (hlocks : meth.locks = false) (hr : meth.sig.returnType = none) {Q : xS → Prop} {K14 : Int32 → Int32 → Int32 → xS → Prop} {K39 : Int32 → Int32 → Int32 → Int32 → Int32 → xS → Prop} (hK14 : ∀ (x1 : Int32) (x2 : Int32) (x3 : Int32) (σ : xS) (H : Heap) (locs : List Loc) (ls : Array Slot), K14 x1 x2 x3 σ → xI V s.heap σ H locs → lv_has ls 6 [(0, .ref (V.2.2 2)), (1, .int x1), (2, .int x2), (3, .int x3)] → W p l e rm_Col_slideRegion s m args below meth c H locs 0 0 (xZv below V args s Q) (F0 m 14 ls [])) (hK39 : ∀ (x1 : Int32) (x2 : Int32) (x3 : Int32) (x4 : Int32) (x5 : Int32) (σ : xS) (H : Heap) (locs : List Loc) (ls : Array Slot), K39 x1 x2 x3 x4 x5 σ → xI V s.heap σ H locs → lv_has ls 6 [(0, .ref (V.2.2 2)), (1, .int x1), (2, .int x2), (3, .int x3), (4, .int x4), (5, .int x5)] → W p l e rm_Col_slideRegion s m args below meth c H locs 0 0 (xZv below V args s Q) (F0 m 39 ls [])) {x1 x2 x3 x4 x5 : Int32} {σ : xS} {H : Heap} {locs : List Loc} {ls : Array Slot} (h : b_Col_slideRegion_L39 K14 K39 Q x1 x2 x3 x4 x5 σ) (hI : xI V s.heap σ H locs) (hl : lv_has ls 6 [(0, .ref (V.2.2 2)), (1, .int x1), (2, .int x2), (3, .int x3), (4, .int x4), (5, .int x5)]) : W p l e rm_Col_slideRegion s m args below meth c H locs 0 0 (xZv below V args s Q) (F0 m 39 ls []) := by
  have hx := C.1
  have hb := C.2.1
  unfold b_Col_slideRegion_L39 at h
  refine lv_iload hx hb d_Col_slideRegion_39 (lv_at hl 5 rfl) ?_
  refine lv_bipush (v := 16) hx hb d_Col_slideRegion_41 (by decide) ?_
  refine lv_icmp_ge (tgt := 80) hx hb d_Col_slideRegion_43 (by decide) (fun c8 => ?_) (fun c8 => ?_)
  · have h := h.1 c8
    obtain ⟨z9, ez9⟩ : ∃ y : Int32, y = x3 + 1 := ⟨_, rfl⟩
    have h := h z9 ez9
    refine lv_iinc (v := z9) (lv' := [(3, .int z9), (0, .ref (V.2.2 2)), (1, .int x1), (2, .int x2), (4, .int x4), (5, .int x5)]) hx hb d_Col_slideRegion_80 hl (k := 3) rfl (by rw [ez9]; rfl) (by decide) rfl (fun ls hl => ?_)
    refine lv_goto (tgt := 14) hx hb d_Col_slideRegion_83 (by decide) ?_
    exact hK14 _ _ _ _ _ _ _ h hI (lv_sub hl [1, 2, 3, 0] rfl)
  · have h := h.2 c8
    refine lv_aload_n hx hb d_Col_slideRegion_46 rfl (lv_at hl 0 rfl) ?_
    refine x_get C hI (d := 2) (by decide) (xE2 V _) fd_Col_9 rfl d_Col_slideRegion_47 ?_
    refine x_get C hI (d := 1) (by decide) (xE1 V _) fd_Col_91 rfl d_Col_slideRegion_50 ?_
    refine lv_iload hx hb d_Col_slideRegion_53 (lv_at hl 4 rfl) ?_
    refine lv_iload hx hb d_Col_slideRegion_55 (lv_at hl 5 rfl) ?_
    refine lv_iadd hx hb d_Col_slideRegion_57 ?_
    refine x_calli C hI hl.1 (d := 6) (As := [.int (x4 + x5)]) (rest := []) (by decide) (c_Hea_isObject h) (xE6 V _) rfl yw_Hea_isObject ml_Col_133 rfl rfl ⟨Nat.le_of_ble_eq_true rfl, Nat.le_of_ble_eq_true rfl⟩ rfl rfl (Nat.le_of_ble_eq_true rfl) d_Col_slideRegion_58 ⟨Nat.zero_le _, Nat.zero_le _⟩ (fun r11 σ10 H locs h hI => ?_)
    refine lv_if_eq (tgt := 74) hx hb d_Col_slideRegion_61 (by decide) (fun c12 => ?_) (fun c12 => ?_)
    · have h := h.1 c12
      obtain ⟨z13, ez13⟩ : ∃ y : Int32, y = x5 + 1 := ⟨_, rfl⟩
      have h := h z13 ez13
      refine lv_iinc (v := z13) (lv' := [(5, .int z13), (0, .ref (V.2.2 2)), (1, .int x1), (2, .int x2), (3, .int x3), (4, .int x4)]) hx hb d_Col_slideRegion_74 hl (k := 5) rfl (by rw [ez13]; rfl) (by decide) rfl (fun ls hl => ?_)
      refine lv_goto (tgt := 39) hx hb d_Col_slideRegion_77 (by decide) ?_
      exact hK39 _ _ _ _ _ _ _ _ _ h hI (lv_sub hl [1, 2, 3, 4, 5, 0] rfl)
    · have h := h.2 c12
      refine lv_aload_n hx hb d_Col_slideRegion_64 rfl (lv_at hl 0 rfl) ?_
      refine lv_iload_n hx hb d_Col_slideRegion_65 rfl (lv_at hl 1 rfl) ?_
      refine lv_iload hx hb d_Col_slideRegion_66 (lv_at hl 4 rfl) ?_
      refine lv_iload hx hb d_Col_slideRegion_68 (lv_at hl 5 rfl) ?_
      refine lv_iadd hx hb d_Col_slideRegion_70 ?_
      refine x_callv C hI hl.1 (d := 2) (As := [.int x1, .int (x4 + x5)]) (rest := []) (by decide) (c_Col_slideOrErase h) (xE2 V _) rfl yw_Col_slideOrErase ml_Col_136 rfl rfl ⟨Nat.le_of_ble_eq_true rfl, Nat.le_of_ble_eq_true rfl⟩ rfl rfl (Nat.le_of_ble_eq_true rfl) d_Col_slideRegion_71 ⟨Nat.zero_le _, Nat.zero_le _⟩ (fun σ14 H locs h hI => ?_)
      obtain ⟨z15, ez15⟩ : ∃ y : Int32, y = x5 + 1 := ⟨_, rfl⟩
      have h := h z15 ez15
      refine lv_iinc (v := z15) (lv' := [(5, .int z15), (0, .ref (V.2.2 2)), (1, .int x1), (2, .int x2), (3, .int x3), (4, .int x4)]) hx hb d_Col_slideRegion_74 hl (k := 5) rfl (by rw [ez15]; rfl) (by decide) rfl (fun ls hl => ?_)
      refine lv_goto (tgt := 39) hx hb d_Col_slideRegion_77 (by decide) ?_
      exact hK39 _ _ _ _ _ _ _ _ _ h hI (lv_sub hl [1, 2, 3, 4, 5, 0] rfl)
theorem w_Col_slideRegion_L39 {p : Program} {l : Launch} {e : Env} {s : State} {m : MethodId} {args : Array Value} {below : List Frame} {meth : Method} {c : Code} {V : xV} (C : xC p s m args c cd_Col_slideRegion 6 R_Col V) (hlocks : meth.locks = false) (hr : meth.sig.returnType = none) {Q : xS → Prop} {K14 : Int32 → Int32 → Int32 → xS → Prop} (hK14 : ∀ (x1 : Int32) (x2 : Int32) (x3 : Int32) (σ : xS) (H : Heap) (locs : List Loc) (ls : Array Slot), K14 x1 x2 x3 σ → xI V s.heap σ H locs → lv_has ls 6 [(0, .ref (V.2.2 2)), (1, .int x1), (2, .int x2), (3, .int x3)] → W p l e rm_Col_slideRegion s m args below meth c H locs 0 0 (xZv below V args s Q) (F0 m 14 ls [])) : ∀ (n : Nat) (x1 : Int32) (x2 : Int32) (x3 : Int32) (x4 : Int32) (x5 : Int32) (σ : xS) (H : Heap) (locs : List Loc) (ls : Array Slot), p_Col_slideRegion_L39 K14 Q n x1 x2 x3 x4 x5 σ → xI V s.heap σ H locs → lv_has ls 6 [(0, .ref (V.2.2 2)), (1, .int x1), (2, .int x2), (3, .int x3), (4, .int x4), (5, .int x5)] → W p l e rm_Col_slideRegion s m args below meth c H locs 0 0 (xZv below V args s Q) (F0 m 39 ls []) := by
  intro n
  induction n with
  | zero =>
    intro x1 x2 x3 x4 x5 σ H locs ls h
    exact False.elim h
  | succ n ih =>
    intro x1 x2 x3 x4 x5 σ H locs ls h hI hl
    exact s_Col_slideRegion_L39 C hlocks hr hK14 (K39 := p_Col_slideRegion_L39 K14 Q n) (fun x1 x2 x3 x4 x5 σ H locs ls h hI hl => ih x1 x2 x3 x4 x5 σ H locs ls h hI hl) h hI hl
set_option maxRecDepth 100000 in
set_option maxHeartbeats 4000000 in
theorem s_Col_slideRegion_L14 {p : Program} {l : Launch} {e : Env} {s : State} {m : MethodId} {args : Array Value} {below : List Frame} {meth : Method} {c : Code} {V : xV} (C : xC p s m args c cd_Col_slideRegion 6 R_Col V) (hlocks : meth.locks = false) (hr : meth.sig.returnType = none) {Q : xS → Prop} {K14 : Int32 → Int32 → Int32 → xS → Prop} (hK14 : ∀ (x1 : Int32) (x2 : Int32) (x3 : Int32) (σ : xS) (H : Heap) (locs : List Loc) (ls : Array Slot), K14 x1 x2 x3 σ → xI V s.heap σ H locs → lv_has ls 6 [(0, .ref (V.2.2 2)), (1, .int x1), (2, .int x2), (3, .int x3)] → W p l e rm_Col_slideRegion s m args below meth c H locs 0 0 (xZv below V args s Q) (F0 m 14 ls [])) {x1 x2 x3 : Int32} {σ : xS} {H : Heap} {locs : List Loc} {ls : Array Slot} (h : b_Col_slideRegion_L14 K14 Q x1 x2 x3 σ) (hI : xI V s.heap σ H locs) (hl : lv_has ls 6 [(0, .ref (V.2.2 2)), (1, .int x1), (2, .int x2), (3, .int x3)]) : W p l e rm_Col_slideRegion s m args below meth c H locs 0 0 (xZv below V args s Q) (F0 m 14 ls []) := by
  have hx := C.1
  have hb := C.2.1
  unfold b_Col_slideRegion_L14 at h
  refine lv_iload_n hx hb d_Col_slideRegion_14 rfl (lv_at hl 3 rfl) ?_
  refine lv_iload_n hx hb d_Col_slideRegion_15 rfl (lv_at hl 2 rfl) ?_
  refine lv_icmp_ge (tgt := 86) hx hb d_Col_slideRegion_16 (by decide) (fun c3 => ?_) (fun c3 => ?_)
  · have h := h.1 c3
    refine lv_aload_n hx hb d_Col_slideRegion_86 rfl (lv_at hl 0 rfl) ?_
    refine x_get C hI (d := 2) (by decide) (xE2 V _) fd_Col_9 rfl d_Col_slideRegion_87 ?_
    refine x_get C hI (d := 1) (by decide) (xE1 V _) fd_Col_71 rfl d_Col_slideRegion_90 ?_
    refine lv_iload_n hx hb d_Col_slideRegion_93 rfl (lv_at hl 1 rfl) ?_
    refine lv_iload_n hx hb d_Col_slideRegion_94 rfl (lv_at hl 2 rfl) ?_
    refine x_callv C hI hl.1 (d := 7) (As := [.int x1, .int x2]) (rest := []) (by decide) (c_Reg_endSlide h) (xE7 V _) rfl yw_Reg_endSlide ml_Col_140 rfl rfl ⟨Nat.le_of_ble_eq_true rfl, Nat.le_of_ble_eq_true rfl⟩ rfl rfl (Nat.le_of_ble_eq_true rfl) d_Col_slideRegion_95 ⟨Nat.zero_le _, Nat.zero_le _⟩ (fun σ4 H locs h hI => ?_)
    exact x_vret C hlocks hr hI h d_Col_slideRegion_98
  · have h := h.2 c3
    refine lv_aload_n hx hb d_Col_slideRegion_19 rfl (lv_at hl 0 rfl) ?_
    refine x_get C hI (d := 2) (by decide) (xE2 V _) fd_Col_9 rfl d_Col_slideRegion_20 ?_
    refine x_get C hI (d := 1) (by decide) (xE1 V _) fd_Col_71 rfl d_Col_slideRegion_23 ?_
    refine lv_iload_n hx hb d_Col_slideRegion_26 rfl (lv_at hl 1 rfl) ?_
    refine lv_iload_n hx hb d_Col_slideRegion_27 rfl (lv_at hl 3 rfl) ?_
    refine x_calli C hI hl.1 (d := 7) (As := [.int x1, .int x3]) (rest := []) (by decide) (c_Reg_pageInRow h) (xE7 V _) rfl yw_Reg_pageInRow ml_Col_129 rfl rfl ⟨Nat.le_of_ble_eq_true rfl, Nat.le_of_ble_eq_true rfl⟩ rfl rfl (Nat.le_of_ble_eq_true rfl) d_Col_slideRegion_28 ⟨Nat.zero_le _, Nat.zero_le _⟩ (fun r6 σ5 H locs h hI => ?_)
    refine lv_bipush (v := 16) hx hb d_Col_slideRegion_31 (by decide) ?_
    refine lv_imul hx hb d_Col_slideRegion_33 ?_
    refine lv_topi (fun z7 ez7 => ?_)
    have h := h z7 ez7
    refine lv_istore (lv' := [(4, .int z7), (0, .ref (V.2.2 2)), (1, .int x1), (2, .int x2), (3, .int x3)]) hx hb d_Col_slideRegion_34 hl (by decide) rfl (fun ls hl => ?_)
    refine lv_iconst (v := 0) hx hb d_Col_slideRegion_36 (by decide) ?_
    refine lv_istore (lv' := [(5, .int 0), (4, .int z7), (0, .ref (V.2.2 2)), (1, .int x1), (2, .int x2), (3, .int x3)]) hx hb d_Col_slideRegion_37 hl (by decide) rfl (fun ls hl => ?_)
    obtain ⟨n, h⟩ := h
    exact w_Col_slideRegion_L39 C hlocks hr hK14 n _ _ _ _ _ _ _ _ _ h hI (lv_sub hl [2, 3, 4, 5, 1, 0] rfl)
theorem w_Col_slideRegion_L14 {p : Program} {l : Launch} {e : Env} {s : State} {m : MethodId} {args : Array Value} {below : List Frame} {meth : Method} {c : Code} {V : xV} (C : xC p s m args c cd_Col_slideRegion 6 R_Col V) (hlocks : meth.locks = false) (hr : meth.sig.returnType = none) {Q : xS → Prop} : ∀ (n : Nat) (x1 : Int32) (x2 : Int32) (x3 : Int32) (σ : xS) (H : Heap) (locs : List Loc) (ls : Array Slot), p_Col_slideRegion_L14 Q n x1 x2 x3 σ → xI V s.heap σ H locs → lv_has ls 6 [(0, .ref (V.2.2 2)), (1, .int x1), (2, .int x2), (3, .int x3)] → W p l e rm_Col_slideRegion s m args below meth c H locs 0 0 (xZv below V args s Q) (F0 m 14 ls []) := by
  intro n
  induction n with
  | zero =>
    intro x1 x2 x3 σ H locs ls h
    exact False.elim h
  | succ n ih =>
    intro x1 x2 x3 σ H locs ls h hI hl
    exact s_Col_slideRegion_L14 C hlocks hr (K14 := p_Col_slideRegion_L14 Q n) (fun x1 x2 x3 σ H locs ls h hI hl => ih x1 x2 x3 σ H locs ls h hI hl) h hI hl
set_option maxRecDepth 100000 in
set_option maxHeartbeats 4000000 in
theorem c_Col_slideRegion {l : Launch} {V : xV} {σ : xS} {x1 : Int32} {Q : xS → Prop} (h : p_Col_slideRegion x1 σ Q) : xMv l y_Col_slideRegion (.code y_Col_slideRegion cd_Col_slideRegion 6 none :: xG) rm_Col_slideRegion V [.ref (V.2.2 2), .int x1] σ Q := by
  refine x_beginv (by decide) (Nat.le_of_ble_eq_true rfl) (fun p e s m below meth c ls C hlocks hr hI hl => ?_)
  have C : xC p s m _ c cd_Col_slideRegion 6 R_Col V := C
  have hx := C.1
  have hb := C.2.1
  have hl : lv_has ls 6 [(0, .ref (V.2.2 2)), (1, .int x1)] := hl
  unfold p_Col_slideRegion at h
  refine lv_aload_n hx hb d_Col_slideRegion_0 rfl (lv_at hl 0 rfl) ?_
  refine x_get C hI (d := 2) (by decide) (xE2 V _) fd_Col_9 rfl d_Col_slideRegion_1 ?_
  refine x_get C hI (d := 1) (by decide) (xE1 V _) fd_Col_71 rfl d_Col_slideRegion_4 ?_
  refine lv_iload_n hx hb d_Col_slideRegion_7 rfl (lv_at hl 1 rfl) ?_
  refine x_calli C hI hl.1 (d := 7) (As := [.int x1]) (rest := []) (by decide) (c_Reg_startSlide h) (xE7 V _) rfl yw_Reg_startSlide ml_Col_126 rfl rfl ⟨Nat.le_of_ble_eq_true rfl, Nat.le_of_ble_eq_true rfl⟩ rfl rfl (Nat.le_of_ble_eq_true rfl) d_Col_slideRegion_8 ⟨Nat.zero_le _, Nat.zero_le _⟩ (fun r2 σ1 H locs h hI => ?_)
  refine lv_istore_n (lv' := [(2, .int r2), (0, .ref (V.2.2 2)), (1, .int x1)]) hx hb d_Col_slideRegion_11 rfl hl (by decide) rfl (fun ls hl => ?_)
  refine lv_iconst (v := 0) hx hb d_Col_slideRegion_12 (by decide) ?_
  refine lv_istore_n (lv' := [(3, .int 0), (2, .int r2), (0, .ref (V.2.2 2)), (1, .int x1)]) hx hb d_Col_slideRegion_13 rfl hl (by decide) rfl (fun ls hl => ?_)
  obtain ⟨n, h⟩ := h
  exact w_Col_slideRegion_L14 C hlocks hr n _ _ _ _ _ _ _ h hI (lv_sub hl [2, 3, 1, 0] rfl)
theorem yw_Col_slideRegion : xY y_Col_slideRegion cd_Col_slideRegion 6 none 1 := ⟨xG_mem 634 (by decide +kernel) (by decide +kernel), xG_mem 12 (by decide +kernel) (by decide +kernel), xG_mem 61 (by decide +kernel) (by decide +kernel), xG_mem 635 (by decide +kernel) (by decide +kernel), by decide, by decide, by decide +kernel⟩
theorem ml_Col_81 : Cond.methodLink R_Col 81 y_Col_slideRegion ∈ xG := xG_mem 632 (by decide +kernel) (by decide +kernel)
def b_Col_run_L90 (K90 : Int32 → Int32 → xS → Prop) (Q : Int32 → xS → Prop) (x2 x3 : Int32) (σ : xS) : Prop :=
  p_Reg_amount σ (fun r14 σ13 => ((r14 ≤ x3 → p_Mem_followAllMoves σ13 (fun σ16 => Q (((xu σ16 2 2 ((σ16 2 2) + 1)) 2 3) - x2) (xu σ16 2 2 ((σ16 2 2) + 1)))) ∧ (¬ r14 ≤ x3 → p_Col_slideRegion x3 σ13 (fun σ17 => (∀ z18 : Int32, z18 = x3 + 1 → K90 x2 z18 σ17)))))
def p_Col_run_L90 (Q : Int32 → xS → Prop) (n : Nat) : Int32 → Int32 → xS → Prop := Nat.rec (motive := fun _ => Int32 → Int32 → xS → Prop) (fun _ _ _ => False) (fun _ K x2 x3 σ => b_Col_run_L90 K Q x2 x3 σ) n
def p_Col_run (x1 : Int32) (σ : xS) (Q : Int32 → xS → Prop) : Prop :=
  (∀ z1 : Int32, z1 = (σ 2 3) → p_Mar_start x1 σ (fun σ2 => p_Mar_reachRoots σ2 (fun σ3 => p_Mar_reachQueue σ3 (fun σ4 => p_Mar_spread σ4 (fun σ5 => p_Col_clearWeakFields σ5 (fun σ6 => p_Lin_handOverDead_9_11_8 σ6 (fun σ7 => p_Mar_reachQueue σ7 (fun σ8 => p_Mar_spread σ8 (fun σ9 => p_Col_clearKeyedFields σ9 (fun σ10 => p_Col_clearWeakFields σ10 (fun σ11 => p_Mem_startMoves σ11 (fun σ12 => (∃ n, p_Col_run_L90 Q n z1 x1 σ12)))))))))))))
abbrev rm_Col_run : Room := { frames := 5, cells := 0, slots := 0, locals := 116 }
theorem d_Col_run_0 : decode cd_Col_run 0 = .ok (.aload_n 0, 1) := by decide +kernel
theorem d_Col_run_1 : decode cd_Col_run 1 = .ok (.getfield 28, 3) := by decide +kernel
theorem d_Col_run_4 : decode cd_Col_run 4 = .ok (.istore_n 2, 1) := by decide +kernel
theorem d_Col_run_5 : decode cd_Col_run 5 = .ok (.aload_n 0, 1) := by decide +kernel
theorem d_Col_run_6 : decode cd_Col_run 6 = .ok (.getfield 20, 3) := by decide +kernel
theorem d_Col_run_9 : decode cd_Col_run 9 = .ok (.iload_n 1, 1) := by decide +kernel
theorem d_Col_run_10 : decode cd_Col_run 10 = .ok (.invokevirtual 34, 3) := by decide +kernel
theorem d_Col_run_13 : decode cd_Col_run 13 = .ok (.aload_n 0, 1) := by decide +kernel
theorem d_Col_run_14 : decode cd_Col_run 14 = .ok (.getfield 20, 3) := by decide +kernel
theorem d_Col_run_17 : decode cd_Col_run 17 = .ok (.invokevirtual 38, 3) := by decide +kernel
theorem d_Col_run_20 : decode cd_Col_run 20 = .ok (.aload_n 0, 1) := by decide +kernel
theorem d_Col_run_21 : decode cd_Col_run 21 = .ok (.getfield 20, 3) := by decide +kernel
theorem d_Col_run_24 : decode cd_Col_run 24 = .ok (.invokevirtual 41, 3) := by decide +kernel
theorem d_Col_run_27 : decode cd_Col_run 27 = .ok (.aload_n 0, 1) := by decide +kernel
theorem d_Col_run_28 : decode cd_Col_run 28 = .ok (.getfield 20, 3) := by decide +kernel
theorem d_Col_run_31 : decode cd_Col_run 31 = .ok (.invokevirtual 44, 3) := by decide +kernel
theorem d_Col_run_34 : decode cd_Col_run 34 = .ok (.aload_n 0, 1) := by decide +kernel
theorem d_Col_run_35 : decode cd_Col_run 35 = .ok (.invokevirtual 47, 3) := by decide +kernel
theorem d_Col_run_38 : decode cd_Col_run 38 = .ok (.aload_n 0, 1) := by decide +kernel
theorem d_Col_run_39 : decode cd_Col_run 39 = .ok (.getfield 9, 3) := by decide +kernel
theorem d_Col_run_42 : decode cd_Col_run 42 = .ok (.getfield 50, 3) := by decide +kernel
theorem d_Col_run_45 : decode cd_Col_run 45 = .ok (.aload_n 0, 1) := by decide +kernel
theorem d_Col_run_46 : decode cd_Col_run 46 = .ok (.getfield 20, 3) := by decide +kernel
theorem d_Col_run_49 : decode cd_Col_run 49 = .ok (.aload_n 0, 1) := by decide +kernel
theorem d_Col_run_50 : decode cd_Col_run 50 = .ok (.getfield 9, 3) := by decide +kernel
theorem d_Col_run_53 : decode cd_Col_run 53 = .ok (.getfield 56, 3) := by decide +kernel
theorem d_Col_run_56 : decode cd_Col_run 56 = .ok (.invokevirtual 59, 3) := by decide +kernel
theorem d_Col_run_59 : decode cd_Col_run 59 = .ok (.aload_n 0, 1) := by decide +kernel
theorem d_Col_run_60 : decode cd_Col_run 60 = .ok (.getfield 20, 3) := by decide +kernel
theorem d_Col_run_63 : decode cd_Col_run 63 = .ok (.invokevirtual 41, 3) := by decide +kernel
theorem d_Col_run_66 : decode cd_Col_run 66 = .ok (.aload_n 0, 1) := by decide +kernel
theorem d_Col_run_67 : decode cd_Col_run 67 = .ok (.getfield 20, 3) := by decide +kernel
theorem d_Col_run_70 : decode cd_Col_run 70 = .ok (.invokevirtual 44, 3) := by decide +kernel
theorem d_Col_run_73 : decode cd_Col_run 73 = .ok (.aload_n 0, 1) := by decide +kernel
theorem d_Col_run_74 : decode cd_Col_run 74 = .ok (.invokevirtual 65, 3) := by decide +kernel
theorem d_Col_run_77 : decode cd_Col_run 77 = .ok (.aload_n 0, 1) := by decide +kernel
theorem d_Col_run_78 : decode cd_Col_run 78 = .ok (.invokevirtual 47, 3) := by decide +kernel
theorem d_Col_run_81 : decode cd_Col_run 81 = .ok (.aload_n 0, 1) := by decide +kernel
theorem d_Col_run_82 : decode cd_Col_run 82 = .ok (.getfield 9, 3) := by decide +kernel
theorem d_Col_run_85 : decode cd_Col_run 85 = .ok (.invokevirtual 68, 3) := by decide +kernel
theorem d_Col_run_88 : decode cd_Col_run 88 = .ok (.iload_n 1, 1) := by decide +kernel
theorem d_Col_run_89 : decode cd_Col_run 89 = .ok (.istore_n 3, 1) := by decide +kernel
theorem d_Col_run_90 : decode cd_Col_run 90 = .ok (.iload_n 3, 1) := by decide +kernel
theorem d_Col_run_91 : decode cd_Col_run 91 = .ok (.aload_n 0, 1) := by decide +kernel
theorem d_Col_run_92 : decode cd_Col_run 92 = .ok (.getfield 9, 3) := by decide +kernel
theorem d_Col_run_95 : decode cd_Col_run 95 = .ok (.getfield 71, 3) := by decide +kernel
theorem d_Col_run_98 : decode cd_Col_run 98 = .ok (.invokevirtual 75, 3) := by decide +kernel
theorem d_Col_run_101 : decode cd_Col_run 101 = .ok (.if_icmp .ge 14, 3) := by decide +kernel
theorem d_Col_run_104 : decode cd_Col_run 104 = .ok (.aload_n 0, 1) := by decide +kernel
theorem d_Col_run_105 : decode cd_Col_run 105 = .ok (.iload_n 3, 1) := by decide +kernel
theorem d_Col_run_106 : decode cd_Col_run 106 = .ok (.invokevirtual 81, 3) := by decide +kernel
theorem d_Col_run_109 : decode cd_Col_run 109 = .ok (.iinc 3 1, 3) := by decide +kernel
theorem d_Col_run_112 : decode cd_Col_run 112 = .ok (.goto (-22), 3) := by decide +kernel
theorem d_Col_run_115 : decode cd_Col_run 115 = .ok (.aload_n 0, 1) := by decide +kernel
theorem d_Col_run_116 : decode cd_Col_run 116 = .ok (.getfield 9, 3) := by decide +kernel
theorem d_Col_run_119 : decode cd_Col_run 119 = .ok (.invokevirtual 84, 3) := by decide +kernel
theorem d_Col_run_122 : decode cd_Col_run 122 = .ok (.aload_n 0, 1) := by decide +kernel
theorem d_Col_run_123 : decode cd_Col_run 123 = .ok (.dup, 1) := by decide +kernel
theorem d_Col_run_124 : decode cd_Col_run 124 = .ok (.getfield 24, 3) := by decide +kernel
theorem d_Col_run_127 : decode cd_Col_run 127 = .ok (.iconst 1, 1) := by decide +kernel
theorem d_Col_run_128 : decode cd_Col_run 128 = .ok (.iadd, 1) := by decide +kernel
theorem d_Col_run_129 : decode cd_Col_run 129 = .ok (.putfield 24, 3) := by decide +kernel
theorem d_Col_run_132 : decode cd_Col_run 132 = .ok (.aload_n 0, 1) := by decide +kernel
theorem d_Col_run_133 : decode cd_Col_run 133 = .ok (.getfield 28, 3) := by decide +kernel
theorem d_Col_run_136 : decode cd_Col_run 136 = .ok (.iload_n 2, 1) := by decide +kernel
theorem d_Col_run_137 : decode cd_Col_run 137 = .ok (.isub, 1) := by decide +kernel
theorem d_Col_run_138 : decode cd_Col_run 138 = .ok (.ireturn, 1) := by decide +kernel
set_option maxRecDepth 100000 in
set_option maxHeartbeats 4000000 in
theorem s_Col_run_L90 {p : Program} {l : Launch} {e : Env} {s : State} {m : MethodId} {args : Array Value} {below : List Frame} {meth : Method} {c : Code} {V : xV} (C : xC p s m args c cd_Col_run 4 R_Col V) (hlocks : meth.locks = false) (hr : meth.sig.returnType = (some .int)) {Q : Int32 → xS → Prop} {K90 : Int32 → Int32 → xS → Prop} (hK90 : ∀ (x2 : Int32) (x3 : Int32) (σ : xS) (H : Heap) (locs : List Loc) (ls : Array Slot), K90 x2 x3 σ → xI V s.heap σ H locs → lv_has ls 4 [(0, .ref (V.2.2 2)), (2, .int x2), (3, .int x3)] → W p l e rm_Col_run s m args below meth c H locs 0 0 (xZi below V args s Q) (F0 m 90 ls [])) {x2 x3 : Int32} {σ : xS} {H : Heap} {locs : List Loc} {ls : Array Slot} (h : b_Col_run_L90 K90 Q x2 x3 σ) (hI : xI V s.heap σ H locs) (hl : lv_has ls 4 [(0, .ref (V.2.2 2)), (2, .int x2), (3, .int x3)]) : W p l e rm_Col_run s m args below meth c H locs 0 0 (xZi below V args s Q) (F0 m 90 ls []) := by
  have hx := C.1
  have hb := C.2.1
  unfold b_Col_run_L90 at h
  refine lv_iload_n hx hb d_Col_run_90 rfl (lv_at hl 2 rfl) ?_
  refine lv_aload_n hx hb d_Col_run_91 rfl (lv_at hl 0 rfl) ?_
  refine x_get C hI (d := 2) (by decide) (xE2 V _) fd_Col_9 rfl d_Col_run_92 ?_
  refine x_get C hI (d := 1) (by decide) (xE1 V _) fd_Col_71 rfl d_Col_run_95 ?_
  refine x_calli C hI hl.1 (d := 7) (As := []) (rest := [.int x3]) (by decide) (c_Reg_amount h) (xE7 V _) rfl yw_Reg_amount ml_Col_75 rfl rfl ⟨Nat.le_of_ble_eq_true rfl, Nat.le_of_ble_eq_true rfl⟩ rfl rfl (Nat.le_of_ble_eq_true rfl) d_Col_run_98 ⟨Nat.zero_le _, Nat.zero_le _⟩ (fun r14 σ13 H locs h hI => ?_)
  refine lv_icmp_ge (tgt := 115) hx hb d_Col_run_101 (by decide) (fun c15 => ?_) (fun c15 => ?_)
  · have h := h.1 c15
    refine lv_aload_n hx hb d_Col_run_115 rfl (lv_at hl 0 rfl) ?_
    refine x_get C hI (d := 2) (by decide) (xE2 V _) fd_Col_9 rfl d_Col_run_116 ?_
    refine x_callv C hI hl.1 (d := 1) (As := []) (rest := []) (by decide) (c_Mem_followAllMoves h) (xE1 V _) rfl yw_Mem_followAllMoves ml_Col_84 rfl rfl ⟨Nat.le_of_ble_eq_true rfl, Nat.le_of_ble_eq_true rfl⟩ rfl rfl (Nat.le_of_ble_eq_true rfl) d_Col_run_119 ⟨Nat.zero_le _, Nat.zero_le _⟩ (fun σ16 H locs h hI => ?_)
    refine lv_aload_n hx hb d_Col_run_122 rfl (lv_at hl 0 rfl) ?_
    refine lv_dup hx hb d_Col_run_123 rfl ?_
    refine x_get C hI (d := 2) (by decide) (xE2 V _) fd_Col_24 rfl d_Col_run_124 ?_
    refine lv_iconst (v := 1) hx hb d_Col_run_127 (by decide) ?_
    refine lv_iadd hx hb d_Col_run_128 ?_
    refine x_put C hI (d := 2) (by decide) (xE2 V _) (xP_2_2 V _ _) fw_Col_24 (Nat.le_of_ble_eq_true rfl) d_Col_run_129 (fun H locs hI => ?_)
    refine lv_aload_n hx hb d_Col_run_132 rfl (lv_at hl 0 rfl) ?_
    refine x_get C hI (d := 2) (by decide) (xE2 V _) fd_Col_28 rfl d_Col_run_133 ?_
    refine lv_iload_n hx hb d_Col_run_136 rfl (lv_at hl 1 rfl) ?_
    refine lv_isub hx hb d_Col_run_137 ?_
    exact x_iret C hlocks hr hI h d_Col_run_138
  · have h := h.2 c15
    refine lv_aload_n hx hb d_Col_run_104 rfl (lv_at hl 0 rfl) ?_
    refine lv_iload_n hx hb d_Col_run_105 rfl (lv_at hl 2 rfl) ?_
    refine x_callv C hI hl.1 (d := 2) (As := [.int x3]) (rest := []) (by decide) (c_Col_slideRegion h) (xE2 V _) rfl yw_Col_slideRegion ml_Col_81 rfl rfl ⟨Nat.le_of_ble_eq_true rfl, Nat.le_of_ble_eq_true rfl⟩ rfl rfl (Nat.le_of_ble_eq_true rfl) d_Col_run_106 ⟨Nat.zero_le _, Nat.zero_le _⟩ (fun σ17 H locs h hI => ?_)
    obtain ⟨z18, ez18⟩ : ∃ y : Int32, y = x3 + 1 := ⟨_, rfl⟩
    have h := h z18 ez18
    refine lv_iinc (v := z18) (lv' := [(3, .int z18), (0, .ref (V.2.2 2)), (2, .int x2)]) hx hb d_Col_run_109 hl (k := 2) rfl (by rw [ez18]; rfl) (by decide) rfl (fun ls hl => ?_)
    refine lv_goto (tgt := 90) hx hb d_Col_run_112 (by decide) ?_
    exact hK90 _ _ _ _ _ _ h hI (lv_sub hl [1, 2, 0] rfl)
theorem w_Col_run_L90 {p : Program} {l : Launch} {e : Env} {s : State} {m : MethodId} {args : Array Value} {below : List Frame} {meth : Method} {c : Code} {V : xV} (C : xC p s m args c cd_Col_run 4 R_Col V) (hlocks : meth.locks = false) (hr : meth.sig.returnType = (some .int)) {Q : Int32 → xS → Prop} : ∀ (n : Nat) (x2 : Int32) (x3 : Int32) (σ : xS) (H : Heap) (locs : List Loc) (ls : Array Slot), p_Col_run_L90 Q n x2 x3 σ → xI V s.heap σ H locs → lv_has ls 4 [(0, .ref (V.2.2 2)), (2, .int x2), (3, .int x3)] → W p l e rm_Col_run s m args below meth c H locs 0 0 (xZi below V args s Q) (F0 m 90 ls []) := by
  intro n
  induction n with
  | zero =>
    intro x2 x3 σ H locs ls h
    exact False.elim h
  | succ n ih =>
    intro x2 x3 σ H locs ls h hI hl
    exact s_Col_run_L90 C hlocks hr (K90 := p_Col_run_L90 Q n) (fun x2 x3 σ H locs ls h hI hl => ih x2 x3 σ H locs ls h hI hl) h hI hl
set_option maxRecDepth 100000 in
set_option maxHeartbeats 4000000 in
theorem c_Col_run {l : Launch} {V : xV} {σ : xS} {x1 : Int32} {Q : Int32 → xS → Prop} (h : p_Col_run x1 σ Q) : xMi l y_Col_run (.code y_Col_run cd_Col_run 4 (some .int) :: xG) rm_Col_run V [.ref (V.2.2 2), .int x1] σ Q := by
  refine x_begini (by decide) (Nat.le_of_ble_eq_true rfl) (fun p e s m below meth c ls C hlocks hr hI hl => ?_)
  have C : xC p s m _ c cd_Col_run 4 R_Col V := C
  have hx := C.1
  have hb := C.2.1
  have hl : lv_has ls 4 [(0, .ref (V.2.2 2)), (1, .int x1)] := hl
  unfold p_Col_run at h
  refine lv_aload_n hx hb d_Col_run_0 rfl (lv_at hl 0 rfl) ?_
  refine x_get C hI (d := 2) (by decide) (xE2 V _) fd_Col_28 rfl d_Col_run_1 ?_
  refine lv_topi (fun z1 ez1 => ?_)
  have h := h z1 ez1
  refine lv_istore_n (lv' := [(2, .int z1), (0, .ref (V.2.2 2)), (1, .int x1)]) hx hb d_Col_run_4 rfl hl (by decide) rfl (fun ls hl => ?_)
  refine lv_aload_n hx hb d_Col_run_5 rfl (lv_at hl 1 rfl) ?_
  refine x_get C hI (d := 2) (by decide) (xE2 V _) fd_Col_20 rfl d_Col_run_6 ?_
  refine lv_iload_n hx hb d_Col_run_9 rfl (lv_at hl 2 rfl) ?_
  refine x_callv C hI hl.1 (d := 11) (As := [.int x1]) (rest := []) (by decide) (c_Mar_start h) (xE11 V _) rfl yw_Mar_start ml_Col_34 rfl rfl ⟨Nat.le_of_ble_eq_true rfl, Nat.le_of_ble_eq_true rfl⟩ rfl rfl (Nat.le_of_ble_eq_true rfl) d_Col_run_10 ⟨Nat.zero_le _, Nat.zero_le _⟩ (fun σ2 H locs h hI => ?_)
  refine lv_aload_n hx hb d_Col_run_13 rfl (lv_at hl 1 rfl) ?_
  refine x_get C hI (d := 2) (by decide) (xE2 V _) fd_Col_20 rfl d_Col_run_14 ?_
  refine x_callv C hI hl.1 (d := 11) (As := []) (rest := []) (by decide) (c_Mar_reachRoots h) (xE11 V _) rfl yw_Mar_reachRoots ml_Col_38 rfl rfl ⟨Nat.le_of_ble_eq_true rfl, Nat.le_of_ble_eq_true rfl⟩ rfl rfl (Nat.le_of_ble_eq_true rfl) d_Col_run_17 ⟨Nat.zero_le _, Nat.zero_le _⟩ (fun σ3 H locs h hI => ?_)
  refine lv_aload_n hx hb d_Col_run_20 rfl (lv_at hl 1 rfl) ?_
  refine x_get C hI (d := 2) (by decide) (xE2 V _) fd_Col_20 rfl d_Col_run_21 ?_
  refine x_callv C hI hl.1 (d := 11) (As := []) (rest := []) (by decide) (c_Mar_reachQueue h) (xE11 V _) rfl yw_Mar_reachQueue ml_Col_41 rfl rfl ⟨Nat.le_of_ble_eq_true rfl, Nat.le_of_ble_eq_true rfl⟩ rfl rfl (Nat.le_of_ble_eq_true rfl) d_Col_run_24 ⟨Nat.zero_le _, Nat.zero_le _⟩ (fun σ4 H locs h hI => ?_)
  refine lv_aload_n hx hb d_Col_run_27 rfl (lv_at hl 1 rfl) ?_
  refine x_get C hI (d := 2) (by decide) (xE2 V _) fd_Col_20 rfl d_Col_run_28 ?_
  refine x_callv C hI hl.1 (d := 11) (As := []) (rest := []) (by decide) (c_Mar_spread h) (xE11 V _) rfl yw_Mar_spread ml_Col_44 rfl rfl ⟨Nat.le_of_ble_eq_true rfl, Nat.le_of_ble_eq_true rfl⟩ rfl rfl (Nat.le_of_ble_eq_true rfl) d_Col_run_31 ⟨Nat.zero_le _, Nat.zero_le _⟩ (fun σ5 H locs h hI => ?_)
  refine lv_aload_n hx hb d_Col_run_34 rfl (lv_at hl 1 rfl) ?_
  refine x_callv C hI hl.1 (d := 2) (As := []) (rest := []) (by decide) (c_Col_clearWeakFields h) (xE2 V _) rfl yw_Col_clearWeakFields ml_Col_47 rfl rfl ⟨Nat.le_of_ble_eq_true rfl, Nat.le_of_ble_eq_true rfl⟩ rfl rfl (Nat.le_of_ble_eq_true rfl) d_Col_run_35 ⟨Nat.zero_le _, Nat.zero_le _⟩ (fun σ6 H locs h hI => ?_)
  refine lv_aload_n hx hb d_Col_run_38 rfl (lv_at hl 1 rfl) ?_
  refine x_get C hI (d := 2) (by decide) (xE2 V _) fd_Col_9 rfl d_Col_run_39 ?_
  refine x_get C hI (d := 1) (by decide) (xE1 V _) fd_Col_50 rfl d_Col_run_42 ?_
  refine lv_aload_n hx hb d_Col_run_45 rfl (lv_at hl 1 rfl) ?_
  refine x_get C hI (d := 2) (by decide) (xE2 V _) fd_Col_20 rfl d_Col_run_46 ?_
  refine lv_aload_n hx hb d_Col_run_49 rfl (lv_at hl 1 rfl) ?_
  refine x_get C hI (d := 2) (by decide) (xE2 V _) fd_Col_9 rfl d_Col_run_50 ?_
  refine x_get C hI (d := 1) (by decide) (xE1 V _) fd_Col_56 rfl d_Col_run_53 ?_
  refine x_callv C hI hl.1 (d := 9) (As := [.ref (V.2.2 11), .ref (V.2.2 8)]) (rest := []) (by decide) (c_Lin_handOverDead_9_11_8 h) (xE9 V _) rfl yw_Lin_handOverDead ml_Col_59 rfl rfl ⟨Nat.le_of_ble_eq_true rfl, Nat.le_of_ble_eq_true rfl⟩ rfl rfl (Nat.le_of_ble_eq_true rfl) d_Col_run_56 ⟨Nat.zero_le _, Nat.zero_le _⟩ (fun σ7 H locs h hI => ?_)
  refine lv_aload_n hx hb d_Col_run_59 rfl (lv_at hl 1 rfl) ?_
  refine x_get C hI (d := 2) (by decide) (xE2 V _) fd_Col_20 rfl d_Col_run_60 ?_
  refine x_callv C hI hl.1 (d := 11) (As := []) (rest := []) (by decide) (c_Mar_reachQueue h) (xE11 V _) rfl yw_Mar_reachQueue ml_Col_41 rfl rfl ⟨Nat.le_of_ble_eq_true rfl, Nat.le_of_ble_eq_true rfl⟩ rfl rfl (Nat.le_of_ble_eq_true rfl) d_Col_run_63 ⟨Nat.zero_le _, Nat.zero_le _⟩ (fun σ8 H locs h hI => ?_)
  refine lv_aload_n hx hb d_Col_run_66 rfl (lv_at hl 1 rfl) ?_
  refine x_get C hI (d := 2) (by decide) (xE2 V _) fd_Col_20 rfl d_Col_run_67 ?_
  refine x_callv C hI hl.1 (d := 11) (As := []) (rest := []) (by decide) (c_Mar_spread h) (xE11 V _) rfl yw_Mar_spread ml_Col_44 rfl rfl ⟨Nat.le_of_ble_eq_true rfl, Nat.le_of_ble_eq_true rfl⟩ rfl rfl (Nat.le_of_ble_eq_true rfl) d_Col_run_70 ⟨Nat.zero_le _, Nat.zero_le _⟩ (fun σ9 H locs h hI => ?_)
  refine lv_aload_n hx hb d_Col_run_73 rfl (lv_at hl 1 rfl) ?_
  refine x_callv C hI hl.1 (d := 2) (As := []) (rest := []) (by decide) (c_Col_clearKeyedFields h) (xE2 V _) rfl yw_Col_clearKeyedFields ml_Col_65 rfl rfl ⟨Nat.le_of_ble_eq_true rfl, Nat.le_of_ble_eq_true rfl⟩ rfl rfl (Nat.le_of_ble_eq_true rfl) d_Col_run_74 ⟨Nat.zero_le _, Nat.zero_le _⟩ (fun σ10 H locs h hI => ?_)
  refine lv_aload_n hx hb d_Col_run_77 rfl (lv_at hl 1 rfl) ?_
  refine x_callv C hI hl.1 (d := 2) (As := []) (rest := []) (by decide) (c_Col_clearWeakFields h) (xE2 V _) rfl yw_Col_clearWeakFields ml_Col_47 rfl rfl ⟨Nat.le_of_ble_eq_true rfl, Nat.le_of_ble_eq_true rfl⟩ rfl rfl (Nat.le_of_ble_eq_true rfl) d_Col_run_78 ⟨Nat.zero_le _, Nat.zero_le _⟩ (fun σ11 H locs h hI => ?_)
  refine lv_aload_n hx hb d_Col_run_81 rfl (lv_at hl 1 rfl) ?_
  refine x_get C hI (d := 2) (by decide) (xE2 V _) fd_Col_9 rfl d_Col_run_82 ?_
  refine x_callv C hI hl.1 (d := 1) (As := []) (rest := []) (by decide) (c_Mem_startMoves h) (xE1 V _) rfl yw_Mem_startMoves ml_Col_68 rfl rfl ⟨Nat.le_of_ble_eq_true rfl, Nat.le_of_ble_eq_true rfl⟩ rfl rfl (Nat.le_of_ble_eq_true rfl) d_Col_run_85 ⟨Nat.zero_le _, Nat.zero_le _⟩ (fun σ12 H locs h hI => ?_)
  refine lv_iload_n hx hb d_Col_run_88 rfl (lv_at hl 2 rfl) ?_
  refine lv_istore_n (lv' := [(3, .int x1), (2, .int z1), (0, .ref (V.2.2 2)), (1, .int x1)]) hx hb d_Col_run_89 rfl hl (by decide) rfl (fun ls hl => ?_)
  obtain ⟨n, h⟩ := h
  exact w_Col_run_L90 C hlocks hr n _ _ _ _ _ _ h hI (lv_sub hl [2, 1, 0] rfl)
