def y_Mem_refersBeyond : MethodName := ⟨"RegionPool$Memory", "refersBeyond", "(LRegionPool$Values;II)Z"⟩
abbrev cd_Mem_refersBeyond : ByteArray := prog_7_method_2_code
theorem yw_Val_isReference : xY y_Val_isReference cd_Val_isReference 2 (some .boolean) 1 := ⟨xG_mem 326 (by decide +kernel) (by decide +kernel), xG_mem 327 (by decide +kernel) (by decide +kernel), xG_mem 56 (by decide +kernel) (by decide +kernel), xG_mem 328 (by decide +kernel) (by decide +kernel), by decide, by decide, by decide +kernel⟩
theorem ml_Mem_48 : Cond.methodLink R_Mem 48 y_Val_isReference ∈ xG := xG_mem 325 (by decide +kernel) (by decide +kernel)
theorem fd_Mem_30 : xFd R_Mem 30 1 2 := ⟨R_Mem, T_Mem, 6, rfl, in_Mem, by decide, xG_mem 169 (by decide +kernel) (by decide +kernel)⟩
theorem ml_Mem_52 : Cond.methodLink R_Mem 52 y_Val_contentOf ∈ xG := xG_mem 329 (by decide +kernel) (by decide +kernel)
theorem ml_Mem_56 : Cond.methodLink R_Mem 56 y_Reg_ofPlace ∈ xG := xG_mem 333 (by decide +kernel) (by decide +kernel)
def p_Mem_refersBeyond_1_5 (x2 x3 : Int32) (σ : xS) (Q : Int32 → xS → Prop) : Prop :=
  p_Val_isReference_5 x2 σ (fun r2 σ1 => ((r2 = 0 → Q 0 σ1) ∧ (¬ r2 = 0 → p_Val_contentOf_5 x2 σ1 (fun r5 σ4 => p_Reg_ofPlace r5 σ4 (fun r7 σ6 => ((r7 ≤ x3 → Q 0 σ6) ∧ (¬ r7 ≤ x3 → Q 1 σ6)))))))
abbrev rm_Mem_refersBeyond_1_5 : Room := { frames := 1, cells := 0, slots := 0, locals := 21 }
theorem d_Mem_refersBeyond_0 : decode cd_Mem_refersBeyond 0 = .ok (.aload_n 1, 1) := by decide +kernel
theorem d_Mem_refersBeyond_1 : decode cd_Mem_refersBeyond 1 = .ok (.iload_n 2, 1) := by decide +kernel
theorem d_Mem_refersBeyond_2 : decode cd_Mem_refersBeyond 2 = .ok (.invokevirtual 48, 3) := by decide +kernel
theorem d_Mem_refersBeyond_5 : decode cd_Mem_refersBeyond 5 = .ok (.ifCond .eq 23, 3) := by decide +kernel
theorem d_Mem_refersBeyond_8 : decode cd_Mem_refersBeyond 8 = .ok (.aload_n 0, 1) := by decide +kernel
theorem d_Mem_refersBeyond_9 : decode cd_Mem_refersBeyond 9 = .ok (.getfield 30, 3) := by decide +kernel
theorem d_Mem_refersBeyond_12 : decode cd_Mem_refersBeyond 12 = .ok (.aload_n 1, 1) := by decide +kernel
theorem d_Mem_refersBeyond_13 : decode cd_Mem_refersBeyond 13 = .ok (.iload_n 2, 1) := by decide +kernel
theorem d_Mem_refersBeyond_14 : decode cd_Mem_refersBeyond 14 = .ok (.invokevirtual 52, 3) := by decide +kernel
theorem d_Mem_refersBeyond_17 : decode cd_Mem_refersBeyond 17 = .ok (.invokevirtual 56, 3) := by decide +kernel
theorem d_Mem_refersBeyond_20 : decode cd_Mem_refersBeyond 20 = .ok (.iload_n 3, 1) := by decide +kernel
theorem d_Mem_refersBeyond_21 : decode cd_Mem_refersBeyond 21 = .ok (.if_icmp .le 7, 3) := by decide +kernel
theorem d_Mem_refersBeyond_24 : decode cd_Mem_refersBeyond 24 = .ok (.iconst 1, 1) := by decide +kernel
theorem d_Mem_refersBeyond_25 : decode cd_Mem_refersBeyond 25 = .ok (.goto 4, 3) := by decide +kernel
theorem d_Mem_refersBeyond_28 : decode cd_Mem_refersBeyond 28 = .ok (.iconst 0, 1) := by decide +kernel
theorem d_Mem_refersBeyond_29 : decode cd_Mem_refersBeyond 29 = .ok (.ireturn, 1) := by decide +kernel
set_option maxRecDepth 100000 in
set_option maxHeartbeats 4000000 in
theorem c_Mem_refersBeyond_1_5 {l : Launch} {V : xV} {σ : xS} {x2 x3 : Int32} {Q : Int32 → xS → Prop} (h : p_Mem_refersBeyond_1_5 x2 x3 σ Q) : xMi l y_Mem_refersBeyond (.code y_Mem_refersBeyond cd_Mem_refersBeyond 4 (some .boolean) :: xG) rm_Mem_refersBeyond_1_5 V [.ref (V.2.2 1), .ref (V.2.2 5), .int x2, .int x3] σ Q := by
  refine x_begini (by decide) (Nat.le_of_ble_eq_true rfl) (fun p e s m below meth c ls C hlocks hr hI hl => ?_)
  have C : xC p s m _ c cd_Mem_refersBeyond 4 R_Mem V := C
  have hx := C.1
  have hb := C.2.1
  have hl : lv_has ls 4 [(0, .ref (V.2.2 1)), (1, .ref (V.2.2 5)), (2, .int x2), (3, .int x3)] := hl
  unfold p_Mem_refersBeyond_1_5 at h
  refine lv_aload_n hx hb d_Mem_refersBeyond_0 rfl (lv_at hl 1 rfl) ?_
  refine lv_iload_n hx hb d_Mem_refersBeyond_1 rfl (lv_at hl 2 rfl) ?_
  refine x_calli C hI hl.1 (d := 5) (As := [.int x2]) (rest := []) (by decide) (c_Val_isReference_5 h) (xE5 V _) rfl yw_Val_isReference ml_Mem_48 rfl rfl ⟨Nat.le_of_ble_eq_true rfl, Nat.le_of_ble_eq_true rfl⟩ rfl rfl (Nat.le_of_ble_eq_true rfl) d_Mem_refersBeyond_2 ⟨Nat.zero_le _, Nat.zero_le _⟩ (fun r2 σ1 H locs h hI => ?_)
  refine lv_if_eq (tgt := 28) hx hb d_Mem_refersBeyond_5 (by decide) (fun c3 => ?_) (fun c3 => ?_)
  · have h := h.1 c3
    refine lv_iconst (v := 0) hx hb d_Mem_refersBeyond_28 (by decide) ?_
    exact x_zret C hlocks hr hI ⟨rfl, h⟩ d_Mem_refersBeyond_29
  · have h := h.2 c3
    refine lv_aload_n hx hb d_Mem_refersBeyond_8 rfl (lv_at hl 0 rfl) ?_
    refine x_get C hI (d := 1) (by decide) (xE1 V _) fd_Mem_30 rfl d_Mem_refersBeyond_9 ?_
    refine lv_aload_n hx hb d_Mem_refersBeyond_12 rfl (lv_at hl 1 rfl) ?_
    refine lv_iload_n hx hb d_Mem_refersBeyond_13 rfl (lv_at hl 2 rfl) ?_
    refine x_calli C hI hl.1 (d := 5) (As := [.int x2]) (rest := [.ref (V.2.2 7)]) (by decide) (c_Val_contentOf_5 h) (xE5 V _) rfl yw_Val_contentOf ml_Mem_52 rfl rfl ⟨Nat.le_of_ble_eq_true rfl, Nat.le_of_ble_eq_true rfl⟩ rfl rfl (Nat.le_of_ble_eq_true rfl) d_Mem_refersBeyond_14 ⟨Nat.zero_le _, Nat.zero_le _⟩ (fun r5 σ4 H locs h hI => ?_)
    refine x_calli C hI hl.1 (d := 7) (As := [.int r5]) (rest := []) (by decide) (c_Reg_ofPlace h) (xE7 V _) rfl yw_Reg_ofPlace ml_Mem_56 rfl rfl ⟨Nat.le_of_ble_eq_true rfl, Nat.le_of_ble_eq_true rfl⟩ rfl rfl (Nat.le_of_ble_eq_true rfl) d_Mem_refersBeyond_17 ⟨Nat.zero_le _, Nat.zero_le _⟩ (fun r7 σ6 H locs h hI => ?_)
    refine lv_iload_n hx hb d_Mem_refersBeyond_20 rfl (lv_at hl 3 rfl) ?_
    refine lv_icmp_le (tgt := 28) hx hb d_Mem_refersBeyond_21 (by decide) (fun c8 => ?_) (fun c8 => ?_)
    · have h := h.1 c8
      refine lv_iconst (v := 0) hx hb d_Mem_refersBeyond_28 (by decide) ?_
      exact x_zret C hlocks hr hI ⟨rfl, h⟩ d_Mem_refersBeyond_29
    · have h := h.2 c8
      refine lv_iconst (v := 1) hx hb d_Mem_refersBeyond_24 (by decide) ?_
      refine lv_goto (tgt := 29) hx hb d_Mem_refersBeyond_25 (by decide) ?_
      exact x_zret C hlocks hr hI ⟨rfl, h⟩ d_Mem_refersBeyond_29
def p_Mem_refersBeyond_1_19 (x2 x3 : Int32) (σ : xS) (Q : Int32 → xS → Prop) : Prop :=
  p_Val_isReference_19 x2 σ (fun r2 σ1 => ((r2 = 0 → Q 0 σ1) ∧ (¬ r2 = 0 → p_Val_contentOf_19 x2 σ1 (fun r5 σ4 => p_Reg_ofPlace r5 σ4 (fun r7 σ6 => ((r7 ≤ x3 → Q 0 σ6) ∧ (¬ r7 ≤ x3 → Q 1 σ6)))))))
abbrev rm_Mem_refersBeyond_1_19 : Room := { frames := 1, cells := 0, slots := 0, locals := 21 }
set_option maxRecDepth 100000 in
set_option maxHeartbeats 4000000 in
theorem c_Mem_refersBeyond_1_19 {l : Launch} {V : xV} {σ : xS} {x2 x3 : Int32} {Q : Int32 → xS → Prop} (h : p_Mem_refersBeyond_1_19 x2 x3 σ Q) : xMi l y_Mem_refersBeyond (.code y_Mem_refersBeyond cd_Mem_refersBeyond 4 (some .boolean) :: xG) rm_Mem_refersBeyond_1_19 V [.ref (V.2.2 1), .ref (V.2.2 19), .int x2, .int x3] σ Q := by
  refine x_begini (by decide) (Nat.le_of_ble_eq_true rfl) (fun p e s m below meth c ls C hlocks hr hI hl => ?_)
  have C : xC p s m _ c cd_Mem_refersBeyond 4 R_Mem V := C
  have hx := C.1
  have hb := C.2.1
  have hl : lv_has ls 4 [(0, .ref (V.2.2 1)), (1, .ref (V.2.2 19)), (2, .int x2), (3, .int x3)] := hl
  unfold p_Mem_refersBeyond_1_19 at h
  refine lv_aload_n hx hb d_Mem_refersBeyond_0 rfl (lv_at hl 1 rfl) ?_
  refine lv_iload_n hx hb d_Mem_refersBeyond_1 rfl (lv_at hl 2 rfl) ?_
  refine x_calli C hI hl.1 (d := 19) (As := [.int x2]) (rest := []) (by decide) (c_Val_isReference_19 h) (xE19 V _) rfl yw_Val_isReference ml_Mem_48 rfl rfl ⟨Nat.le_of_ble_eq_true rfl, Nat.le_of_ble_eq_true rfl⟩ rfl rfl (Nat.le_of_ble_eq_true rfl) d_Mem_refersBeyond_2 ⟨Nat.zero_le _, Nat.zero_le _⟩ (fun r2 σ1 H locs h hI => ?_)
  refine lv_if_eq (tgt := 28) hx hb d_Mem_refersBeyond_5 (by decide) (fun c3 => ?_) (fun c3 => ?_)
  · have h := h.1 c3
    refine lv_iconst (v := 0) hx hb d_Mem_refersBeyond_28 (by decide) ?_
    exact x_zret C hlocks hr hI ⟨rfl, h⟩ d_Mem_refersBeyond_29
  · have h := h.2 c3
    refine lv_aload_n hx hb d_Mem_refersBeyond_8 rfl (lv_at hl 0 rfl) ?_
    refine x_get C hI (d := 1) (by decide) (xE1 V _) fd_Mem_30 rfl d_Mem_refersBeyond_9 ?_
    refine lv_aload_n hx hb d_Mem_refersBeyond_12 rfl (lv_at hl 1 rfl) ?_
    refine lv_iload_n hx hb d_Mem_refersBeyond_13 rfl (lv_at hl 2 rfl) ?_
    refine x_calli C hI hl.1 (d := 19) (As := [.int x2]) (rest := [.ref (V.2.2 7)]) (by decide) (c_Val_contentOf_19 h) (xE19 V _) rfl yw_Val_contentOf ml_Mem_52 rfl rfl ⟨Nat.le_of_ble_eq_true rfl, Nat.le_of_ble_eq_true rfl⟩ rfl rfl (Nat.le_of_ble_eq_true rfl) d_Mem_refersBeyond_14 ⟨Nat.zero_le _, Nat.zero_le _⟩ (fun r5 σ4 H locs h hI => ?_)
    refine x_calli C hI hl.1 (d := 7) (As := [.int r5]) (rest := []) (by decide) (c_Reg_ofPlace h) (xE7 V _) rfl yw_Reg_ofPlace ml_Mem_56 rfl rfl ⟨Nat.le_of_ble_eq_true rfl, Nat.le_of_ble_eq_true rfl⟩ rfl rfl (Nat.le_of_ble_eq_true rfl) d_Mem_refersBeyond_17 ⟨Nat.zero_le _, Nat.zero_le _⟩ (fun r7 σ6 H locs h hI => ?_)
    refine lv_iload_n hx hb d_Mem_refersBeyond_20 rfl (lv_at hl 3 rfl) ?_
    refine lv_icmp_le (tgt := 28) hx hb d_Mem_refersBeyond_21 (by decide) (fun c8 => ?_) (fun c8 => ?_)
    · have h := h.1 c8
      refine lv_iconst (v := 0) hx hb d_Mem_refersBeyond_28 (by decide) ?_
      exact x_zret C hlocks hr hI ⟨rfl, h⟩ d_Mem_refersBeyond_29
    · have h := h.2 c8
      refine lv_iconst (v := 1) hx hb d_Mem_refersBeyond_24 (by decide) ?_
      refine lv_goto (tgt := 29) hx hb d_Mem_refersBeyond_25 (by decide) ?_
      exact x_zret C hlocks hr hI ⟨rfl, h⟩ d_Mem_refersBeyond_29
def y_Mem_objects : MethodName := ⟨"RegionPool$Memory", "objects", "()I"⟩
abbrev cd_Mem_objects : ByteArray := prog_7_method_3_code
theorem fd_Mem_23 : xFd R_Mem 23 1 1 := ⟨R_Mem, T_Mem, 6, rfl, in_Mem, by decide, xG_mem 164 (by decide +kernel) (by decide +kernel)⟩
theorem yw_Hea_objectsOnPage : xY y_Hea_objectsOnPage cd_Hea_objectsOnPage 5 (some .int) 1 := ⟨xG_mem 401 (by decide +kernel) (by decide +kernel), xG_mem 402 (by decide +kernel) (by decide +kernel), xG_mem 57 (by decide +kernel) (by decide +kernel), xG_mem 403 (by decide +kernel) (by decide +kernel), by decide, by decide, by decide +kernel⟩
theorem ml_Mem_59 : Cond.methodLink R_Mem 59 y_Hea_objectsOnPage ∈ xG := xG_mem 400 (by decide +kernel) (by decide +kernel)
def b_Mem_objects_L4 (K4 : Int32 → Int32 → xS → Prop) (Q : Int32 → xS → Prop) (x1 x2 : Int32) (σ : xS) : Prop :=
  ((40 ≤ x2 → Q x1 σ) ∧ (¬ 40 ≤ x2 → p_Hea_objectsOnPage x2 σ (fun r3 σ2 => (∀ z4 : Int32, z4 = (x1 + r3) → (∀ z5 : Int32, z5 = x2 + 1 → K4 z4 z5 σ2)))))
def p_Mem_objects_L4 (Q : Int32 → xS → Prop) (n : Nat) : Int32 → Int32 → xS → Prop := Nat.rec (motive := fun _ => Int32 → Int32 → xS → Prop) (fun _ _ _ => False) (fun _ K x1 x2 σ => b_Mem_objects_L4 K Q x1 x2 σ) n
def p_Mem_objects (σ : xS) (Q : Int32 → xS → Prop) : Prop :=
  (∃ n, p_Mem_objects_L4 Q n 0 0 σ)
abbrev rm_Mem_objects : Room := { frames := 3, cells := 0, slots := 0, locals := 66 }
theorem d_Mem_objects_0 : decode cd_Mem_objects 0 = .ok (.iconst 0, 1) := by decide +kernel
theorem d_Mem_objects_1 : decode cd_Mem_objects 1 = .ok (.istore_n 1, 1) := by decide +kernel
theorem d_Mem_objects_2 : decode cd_Mem_objects 2 = .ok (.iconst 0, 1) := by decide +kernel
theorem d_Mem_objects_3 : decode cd_Mem_objects 3 = .ok (.istore_n 2, 1) := by decide +kernel
theorem d_Mem_objects_4 : decode cd_Mem_objects 4 = .ok (.iload_n 2, 1) := by decide +kernel
theorem d_Mem_objects_5 : decode cd_Mem_objects 5 = .ok (.bipush 40, 2) := by decide +kernel
theorem d_Mem_objects_7 : decode cd_Mem_objects 7 = .ok (.if_icmp .ge 20, 3) := by decide +kernel
theorem d_Mem_objects_10 : decode cd_Mem_objects 10 = .ok (.iload_n 1, 1) := by decide +kernel
theorem d_Mem_objects_11 : decode cd_Mem_objects 11 = .ok (.aload_n 0, 1) := by decide +kernel
theorem d_Mem_objects_12 : decode cd_Mem_objects 12 = .ok (.getfield 23, 3) := by decide +kernel
theorem d_Mem_objects_15 : decode cd_Mem_objects 15 = .ok (.iload_n 2, 1) := by decide +kernel
theorem d_Mem_objects_16 : decode cd_Mem_objects 16 = .ok (.invokevirtual 59, 3) := by decide +kernel
theorem d_Mem_objects_19 : decode cd_Mem_objects 19 = .ok (.iadd, 1) := by decide +kernel
theorem d_Mem_objects_20 : decode cd_Mem_objects 20 = .ok (.istore_n 1, 1) := by decide +kernel
theorem d_Mem_objects_21 : decode cd_Mem_objects 21 = .ok (.iinc 2 1, 3) := by decide +kernel
theorem d_Mem_objects_24 : decode cd_Mem_objects 24 = .ok (.goto (-20), 3) := by decide +kernel
theorem d_Mem_objects_27 : decode cd_Mem_objects 27 = .ok (.iload_n 1, 1) := by decide +kernel
theorem d_Mem_objects_28 : decode cd_Mem_objects 28 = .ok (.ireturn, 1) := by decide +kernel
set_option maxRecDepth 100000 in
set_option maxHeartbeats 4000000 in
theorem s_Mem_objects_L4 {p : Program} {l : Launch} {e : Env} {s : State} {m : MethodId} {args : Array Value} {below : List Frame} {meth : Method} {c : Code} {V : xV} (C : xC p s m args c cd_Mem_objects 3 R_Mem V) (hlocks : meth.locks = false) (hr : meth.sig.returnType = (some .int)) {Q : Int32 → xS → Prop} {K4 : Int32 → Int32 → xS → Prop} (hK4 : ∀ (x1 : Int32) (x2 : Int32) (σ : xS) (H : Heap) (locs : List Loc) (ls : Array Slot), K4 x1 x2 σ → xI V s.heap σ H locs → lv_has ls 3 [(0, .ref (V.2.2 1)), (1, .int x1), (2, .int x2)] → W p l e rm_Mem_objects s m args below meth c H locs 0 0 (xZi below V args s Q) (F0 m 4 ls [])) {x1 x2 : Int32} {σ : xS} {H : Heap} {locs : List Loc} {ls : Array Slot} (h : b_Mem_objects_L4 K4 Q x1 x2 σ) (hI : xI V s.heap σ H locs) (hl : lv_has ls 3 [(0, .ref (V.2.2 1)), (1, .int x1), (2, .int x2)]) : W p l e rm_Mem_objects s m args below meth c H locs 0 0 (xZi below V args s Q) (F0 m 4 ls []) := by
  have hx := C.1
  have hb := C.2.1
  unfold b_Mem_objects_L4 at h
  refine lv_iload_n hx hb d_Mem_objects_4 rfl (lv_at hl 2 rfl) ?_
  refine lv_bipush (v := 40) hx hb d_Mem_objects_5 (by decide) ?_
  refine lv_icmp_ge (tgt := 27) hx hb d_Mem_objects_7 (by decide) (fun c1 => ?_) (fun c1 => ?_)
  · have h := h.1 c1
    refine lv_iload_n hx hb d_Mem_objects_27 rfl (lv_at hl 1 rfl) ?_
    exact x_iret C hlocks hr hI h d_Mem_objects_28
  · have h := h.2 c1
    refine lv_iload_n hx hb d_Mem_objects_10 rfl (lv_at hl 1 rfl) ?_
    refine lv_aload_n hx hb d_Mem_objects_11 rfl (lv_at hl 0 rfl) ?_
    refine x_get C hI (d := 1) (by decide) (xE1 V _) fd_Mem_23 rfl d_Mem_objects_12 ?_
    refine lv_iload_n hx hb d_Mem_objects_15 rfl (lv_at hl 2 rfl) ?_
    refine x_calli C hI hl.1 (d := 6) (As := [.int x2]) (rest := [.int x1]) (by decide) (c_Hea_objectsOnPage h) (xE6 V _) rfl yw_Hea_objectsOnPage ml_Mem_59 rfl rfl ⟨Nat.le_of_ble_eq_true rfl, Nat.le_of_ble_eq_true rfl⟩ rfl rfl (Nat.le_of_ble_eq_true rfl) d_Mem_objects_16 ⟨Nat.zero_le _, Nat.zero_le _⟩ (fun r3 σ2 H locs h hI => ?_)
    refine lv_iadd hx hb d_Mem_objects_19 ?_
    refine lv_topi (fun z4 ez4 => ?_)
    have h := h z4 ez4
    refine lv_istore_n (lv' := [(1, .int z4), (0, .ref (V.2.2 1)), (2, .int x2)]) hx hb d_Mem_objects_20 rfl hl (by decide) rfl (fun ls hl => ?_)
    obtain ⟨z5, ez5⟩ : ∃ y : Int32, y = x2 + 1 := ⟨_, rfl⟩
    have h := h z5 ez5
    refine lv_iinc (v := z5) (lv' := [(2, .int z5), (1, .int z4), (0, .ref (V.2.2 1))]) hx hb d_Mem_objects_21 hl (k := 2) rfl (by rw [ez5]; rfl) (by decide) rfl (fun ls hl => ?_)
    refine lv_goto (tgt := 4) hx hb d_Mem_objects_24 (by decide) ?_
    exact hK4 _ _ _ _ _ _ h hI (lv_sub hl [2, 1, 0] rfl)
theorem w_Mem_objects_L4 {p : Program} {l : Launch} {e : Env} {s : State} {m : MethodId} {args : Array Value} {below : List Frame} {meth : Method} {c : Code} {V : xV} (C : xC p s m args c cd_Mem_objects 3 R_Mem V) (hlocks : meth.locks = false) (hr : meth.sig.returnType = (some .int)) {Q : Int32 → xS → Prop} : ∀ (n : Nat) (x1 : Int32) (x2 : Int32) (σ : xS) (H : Heap) (locs : List Loc) (ls : Array Slot), p_Mem_objects_L4 Q n x1 x2 σ → xI V s.heap σ H locs → lv_has ls 3 [(0, .ref (V.2.2 1)), (1, .int x1), (2, .int x2)] → W p l e rm_Mem_objects s m args below meth c H locs 0 0 (xZi below V args s Q) (F0 m 4 ls []) := by
  intro n
  induction n with
  | zero =>
    intro x1 x2 σ H locs ls h
    exact False.elim h
  | succ n ih =>
    intro x1 x2 σ H locs ls h hI hl
    exact s_Mem_objects_L4 C hlocks hr (K4 := p_Mem_objects_L4 Q n) (fun x1 x2 σ H locs ls h hI hl => ih x1 x2 σ H locs ls h hI hl) h hI hl
set_option maxRecDepth 100000 in
set_option maxHeartbeats 4000000 in
theorem c_Mem_objects {l : Launch} {V : xV} {σ : xS} {Q : Int32 → xS → Prop} (h : p_Mem_objects σ Q) : xMi l y_Mem_objects (.code y_Mem_objects cd_Mem_objects 3 (some .int) :: xG) rm_Mem_objects V [.ref (V.2.2 1)] σ Q := by
  refine x_begini (by decide) (Nat.le_of_ble_eq_true rfl) (fun p e s m below meth c ls C hlocks hr hI hl => ?_)
  have C : xC p s m _ c cd_Mem_objects 3 R_Mem V := C
  have hx := C.1
  have hb := C.2.1
  have hl : lv_has ls 3 [(0, .ref (V.2.2 1))] := hl
  unfold p_Mem_objects at h
  refine lv_iconst (v := 0) hx hb d_Mem_objects_0 (by decide) ?_
  refine lv_istore_n (lv' := [(1, .int 0), (0, .ref (V.2.2 1))]) hx hb d_Mem_objects_1 rfl hl (by decide) rfl (fun ls hl => ?_)
  refine lv_iconst (v := 0) hx hb d_Mem_objects_2 (by decide) ?_
  refine lv_istore_n (lv' := [(2, .int 0), (1, .int 0), (0, .ref (V.2.2 1))]) hx hb d_Mem_objects_3 rfl hl (by decide) rfl (fun ls hl => ?_)
  obtain ⟨n, h⟩ := h
  exact w_Mem_objects_L4 C hlocks hr n _ _ _ _ _ _ h hI (lv_sub hl [2, 1, 0] rfl)
def y_Mem_objectsIn : MethodName := ⟨"RegionPool$Memory", "objectsIn", "(I)I"⟩
abbrev cd_Mem_objectsIn : ByteArray := prog_7_method_4_code
theorem yw_Reg_rowLength : xY y_Reg_rowLength cd_Reg_rowLength 2 (some .int) 1 := ⟨xG_mem 388 (by decide +kernel) (by decide +kernel), xG_mem 389 (by decide +kernel) (by decide +kernel), xG_mem 59 (by decide +kernel) (by decide +kernel), xG_mem 390 (by decide +kernel) (by decide +kernel), by decide, by decide, by decide +kernel⟩
theorem ml_Mem_62 : Cond.methodLink R_Mem 62 y_Reg_rowLength ∈ xG := xG_mem 395 (by decide +kernel) (by decide +kernel)
theorem yw_Reg_pageInRow : xY y_Reg_pageInRow cd_Reg_pageInRow 3 (some .int) 2 := ⟨xG_mem 397 (by decide +kernel) (by decide +kernel), xG_mem 398 (by decide +kernel) (by decide +kernel), xG_mem 59 (by decide +kernel) (by decide +kernel), xG_mem 399 (by decide +kernel) (by decide +kernel), by decide, by decide, by decide +kernel⟩
theorem ml_Mem_65 : Cond.methodLink R_Mem 65 y_Reg_pageInRow ∈ xG := xG_mem 396 (by decide +kernel) (by decide +kernel)
def b_Mem_objectsIn_L4 (K4 : Int32 → Int32 → Int32 → xS → Prop) (Q : Int32 → xS → Prop) (x1 x2 x3 : Int32) (σ : xS) : Prop :=
  p_Reg_rowLength x1 σ (fun r2 σ1 => ((r2 ≤ x3 → Q x2 σ1) ∧ (¬ r2 ≤ x3 → p_Reg_pageInRow x1 x3 σ1 (fun r5 σ4 => p_Hea_objectsOnPage r5 σ4 (fun r7 σ6 => (∀ z8 : Int32, z8 = (x2 + r7) → (∀ z9 : Int32, z9 = x3 + 1 → K4 x1 z8 z9 σ6)))))))
def p_Mem_objectsIn_L4 (Q : Int32 → xS → Prop) (n : Nat) : Int32 → Int32 → Int32 → xS → Prop := Nat.rec (motive := fun _ => Int32 → Int32 → Int32 → xS → Prop) (fun _ _ _ _ => False) (fun _ K x1 x2 x3 σ => b_Mem_objectsIn_L4 K Q x1 x2 x3 σ) n
def p_Mem_objectsIn (x1 : Int32) (σ : xS) (Q : Int32 → xS → Prop) : Prop :=
  (∃ n, p_Mem_objectsIn_L4 Q n x1 0 0 σ)
abbrev rm_Mem_objectsIn : Room := { frames := 3, cells := 0, slots := 0, locals := 66 }
theorem d_Mem_objectsIn_0 : decode cd_Mem_objectsIn 0 = .ok (.iconst 0, 1) := by decide +kernel
theorem d_Mem_objectsIn_1 : decode cd_Mem_objectsIn 1 = .ok (.istore_n 2, 1) := by decide +kernel
theorem d_Mem_objectsIn_2 : decode cd_Mem_objectsIn 2 = .ok (.iconst 0, 1) := by decide +kernel
theorem d_Mem_objectsIn_3 : decode cd_Mem_objectsIn 3 = .ok (.istore_n 3, 1) := by decide +kernel
theorem d_Mem_objectsIn_4 : decode cd_Mem_objectsIn 4 = .ok (.iload_n 3, 1) := by decide +kernel
theorem d_Mem_objectsIn_5 : decode cd_Mem_objectsIn 5 = .ok (.aload_n 0, 1) := by decide +kernel
theorem d_Mem_objectsIn_6 : decode cd_Mem_objectsIn 6 = .ok (.getfield 30, 3) := by decide +kernel
theorem d_Mem_objectsIn_9 : decode cd_Mem_objectsIn 9 = .ok (.iload_n 1, 1) := by decide +kernel
theorem d_Mem_objectsIn_10 : decode cd_Mem_objectsIn 10 = .ok (.invokevirtual 62, 3) := by decide +kernel
theorem d_Mem_objectsIn_13 : decode cd_Mem_objectsIn 13 = .ok (.if_icmp .ge 28, 3) := by decide +kernel
theorem d_Mem_objectsIn_16 : decode cd_Mem_objectsIn 16 = .ok (.iload_n 2, 1) := by decide +kernel
theorem d_Mem_objectsIn_17 : decode cd_Mem_objectsIn 17 = .ok (.aload_n 0, 1) := by decide +kernel
theorem d_Mem_objectsIn_18 : decode cd_Mem_objectsIn 18 = .ok (.getfield 23, 3) := by decide +kernel
theorem d_Mem_objectsIn_21 : decode cd_Mem_objectsIn 21 = .ok (.aload_n 0, 1) := by decide +kernel
theorem d_Mem_objectsIn_22 : decode cd_Mem_objectsIn 22 = .ok (.getfield 30, 3) := by decide +kernel
theorem d_Mem_objectsIn_25 : decode cd_Mem_objectsIn 25 = .ok (.iload_n 1, 1) := by decide +kernel
theorem d_Mem_objectsIn_26 : decode cd_Mem_objectsIn 26 = .ok (.iload_n 3, 1) := by decide +kernel
theorem d_Mem_objectsIn_27 : decode cd_Mem_objectsIn 27 = .ok (.invokevirtual 65, 3) := by decide +kernel
theorem d_Mem_objectsIn_30 : decode cd_Mem_objectsIn 30 = .ok (.invokevirtual 59, 3) := by decide +kernel
theorem d_Mem_objectsIn_33 : decode cd_Mem_objectsIn 33 = .ok (.iadd, 1) := by decide +kernel
theorem d_Mem_objectsIn_34 : decode cd_Mem_objectsIn 34 = .ok (.istore_n 2, 1) := by decide +kernel
theorem d_Mem_objectsIn_35 : decode cd_Mem_objectsIn 35 = .ok (.iinc 3 1, 3) := by decide +kernel
theorem d_Mem_objectsIn_38 : decode cd_Mem_objectsIn 38 = .ok (.goto (-34), 3) := by decide +kernel
theorem d_Mem_objectsIn_41 : decode cd_Mem_objectsIn 41 = .ok (.iload_n 2, 1) := by decide +kernel
theorem d_Mem_objectsIn_42 : decode cd_Mem_objectsIn 42 = .ok (.ireturn, 1) := by decide +kernel
set_option maxRecDepth 100000 in
set_option maxHeartbeats 4000000 in
theorem s_Mem_objectsIn_L4 {p : Program} {l : Launch} {e : Env} {s : State} {m : MethodId} {args : Array Value} {below : List Frame} {meth : Method} {c : Code} {V : xV} (C : xC p s m args c cd_Mem_objectsIn 4 R_Mem V) (hlocks : meth.locks = false) (hr : meth.sig.returnType = (some .int)) {Q : Int32 → xS → Prop} {K4 : Int32 → Int32 → Int32 → xS → Prop} (hK4 : ∀ (x1 : Int32) (x2 : Int32) (x3 : Int32) (σ : xS) (H : Heap) (locs : List Loc) (ls : Array Slot), K4 x1 x2 x3 σ → xI V s.heap σ H locs → lv_has ls 4 [(0, .ref (V.2.2 1)), (1, .int x1), (2, .int x2), (3, .int x3)] → W p l e rm_Mem_objectsIn s m args below meth c H locs 0 0 (xZi below V args s Q) (F0 m 4 ls [])) {x1 x2 x3 : Int32} {σ : xS} {H : Heap} {locs : List Loc} {ls : Array Slot} (h : b_Mem_objectsIn_L4 K4 Q x1 x2 x3 σ) (hI : xI V s.heap σ H locs) (hl : lv_has ls 4 [(0, .ref (V.2.2 1)), (1, .int x1), (2, .int x2), (3, .int x3)]) : W p l e rm_Mem_objectsIn s m args below meth c H locs 0 0 (xZi below V args s Q) (F0 m 4 ls []) := by
  have hx := C.1
  have hb := C.2.1
  unfold b_Mem_objectsIn_L4 at h
  refine lv_iload_n hx hb d_Mem_objectsIn_4 rfl (lv_at hl 3 rfl) ?_
  refine lv_aload_n hx hb d_Mem_objectsIn_5 rfl (lv_at hl 0 rfl) ?_
  refine x_get C hI (d := 1) (by decide) (xE1 V _) fd_Mem_30 rfl d_Mem_objectsIn_6 ?_
  refine lv_iload_n hx hb d_Mem_objectsIn_9 rfl (lv_at hl 1 rfl) ?_
  refine x_calli C hI hl.1 (d := 7) (As := [.int x1]) (rest := [.int x3]) (by decide) (c_Reg_rowLength h) (xE7 V _) rfl yw_Reg_rowLength ml_Mem_62 rfl rfl ⟨Nat.le_of_ble_eq_true rfl, Nat.le_of_ble_eq_true rfl⟩ rfl rfl (Nat.le_of_ble_eq_true rfl) d_Mem_objectsIn_10 ⟨Nat.zero_le _, Nat.zero_le _⟩ (fun r2 σ1 H locs h hI => ?_)
  refine lv_icmp_ge (tgt := 41) hx hb d_Mem_objectsIn_13 (by decide) (fun c3 => ?_) (fun c3 => ?_)
  · have h := h.1 c3
    refine lv_iload_n hx hb d_Mem_objectsIn_41 rfl (lv_at hl 2 rfl) ?_
    exact x_iret C hlocks hr hI h d_Mem_objectsIn_42
  · have h := h.2 c3
    refine lv_iload_n hx hb d_Mem_objectsIn_16 rfl (lv_at hl 2 rfl) ?_
    refine lv_aload_n hx hb d_Mem_objectsIn_17 rfl (lv_at hl 0 rfl) ?_
    refine x_get C hI (d := 1) (by decide) (xE1 V _) fd_Mem_23 rfl d_Mem_objectsIn_18 ?_
    refine lv_aload_n hx hb d_Mem_objectsIn_21 rfl (lv_at hl 0 rfl) ?_
    refine x_get C hI (d := 1) (by decide) (xE1 V _) fd_Mem_30 rfl d_Mem_objectsIn_22 ?_
    refine lv_iload_n hx hb d_Mem_objectsIn_25 rfl (lv_at hl 1 rfl) ?_
    refine lv_iload_n hx hb d_Mem_objectsIn_26 rfl (lv_at hl 3 rfl) ?_
    refine x_calli C hI hl.1 (d := 7) (As := [.int x1, .int x3]) (rest := [.ref (V.2.2 6), .int x2]) (by decide) (c_Reg_pageInRow h) (xE7 V _) rfl yw_Reg_pageInRow ml_Mem_65 rfl rfl ⟨Nat.le_of_ble_eq_true rfl, Nat.le_of_ble_eq_true rfl⟩ rfl rfl (Nat.le_of_ble_eq_true rfl) d_Mem_objectsIn_27 ⟨Nat.zero_le _, Nat.zero_le _⟩ (fun r5 σ4 H locs h hI => ?_)
    refine x_calli C hI hl.1 (d := 6) (As := [.int r5]) (rest := [.int x2]) (by decide) (c_Hea_objectsOnPage h) (xE6 V _) rfl yw_Hea_objectsOnPage ml_Mem_59 rfl rfl ⟨Nat.le_of_ble_eq_true rfl, Nat.le_of_ble_eq_true rfl⟩ rfl rfl (Nat.le_of_ble_eq_true rfl) d_Mem_objectsIn_30 ⟨Nat.zero_le _, Nat.zero_le _⟩ (fun r7 σ6 H locs h hI => ?_)
    refine lv_iadd hx hb d_Mem_objectsIn_33 ?_
    refine lv_topi (fun z8 ez8 => ?_)
    have h := h z8 ez8
    refine lv_istore_n (lv' := [(2, .int z8), (0, .ref (V.2.2 1)), (1, .int x1), (3, .int x3)]) hx hb d_Mem_objectsIn_34 rfl hl (by decide) rfl (fun ls hl => ?_)
    obtain ⟨z9, ez9⟩ : ∃ y : Int32, y = x3 + 1 := ⟨_, rfl⟩
    have h := h z9 ez9
    refine lv_iinc (v := z9) (lv' := [(3, .int z9), (2, .int z8), (0, .ref (V.2.2 1)), (1, .int x1)]) hx hb d_Mem_objectsIn_35 hl (k := 3) rfl (by rw [ez9]; rfl) (by decide) rfl (fun ls hl => ?_)
    refine lv_goto (tgt := 4) hx hb d_Mem_objectsIn_38 (by decide) ?_
    exact hK4 _ _ _ _ _ _ _ h hI (lv_sub hl [2, 3, 1, 0] rfl)
theorem w_Mem_objectsIn_L4 {p : Program} {l : Launch} {e : Env} {s : State} {m : MethodId} {args : Array Value} {below : List Frame} {meth : Method} {c : Code} {V : xV} (C : xC p s m args c cd_Mem_objectsIn 4 R_Mem V) (hlocks : meth.locks = false) (hr : meth.sig.returnType = (some .int)) {Q : Int32 → xS → Prop} : ∀ (n : Nat) (x1 : Int32) (x2 : Int32) (x3 : Int32) (σ : xS) (H : Heap) (locs : List Loc) (ls : Array Slot), p_Mem_objectsIn_L4 Q n x1 x2 x3 σ → xI V s.heap σ H locs → lv_has ls 4 [(0, .ref (V.2.2 1)), (1, .int x1), (2, .int x2), (3, .int x3)] → W p l e rm_Mem_objectsIn s m args below meth c H locs 0 0 (xZi below V args s Q) (F0 m 4 ls []) := by
  intro n
  induction n with
  | zero =>
    intro x1 x2 x3 σ H locs ls h
    exact False.elim h
  | succ n ih =>
    intro x1 x2 x3 σ H locs ls h hI hl
    exact s_Mem_objectsIn_L4 C hlocks hr (K4 := p_Mem_objectsIn_L4 Q n) (fun x1 x2 x3 σ H locs ls h hI hl => ih x1 x2 x3 σ H locs ls h hI hl) h hI hl
set_option maxRecDepth 100000 in
set_option maxHeartbeats 4000000 in
theorem c_Mem_objectsIn {l : Launch} {V : xV} {σ : xS} {x1 : Int32} {Q : Int32 → xS → Prop} (h : p_Mem_objectsIn x1 σ Q) : xMi l y_Mem_objectsIn (.code y_Mem_objectsIn cd_Mem_objectsIn 4 (some .int) :: xG) rm_Mem_objectsIn V [.ref (V.2.2 1), .int x1] σ Q := by
  refine x_begini (by decide) (Nat.le_of_ble_eq_true rfl) (fun p e s m below meth c ls C hlocks hr hI hl => ?_)
  have C : xC p s m _ c cd_Mem_objectsIn 4 R_Mem V := C
  have hx := C.1
  have hb := C.2.1
  have hl : lv_has ls 4 [(0, .ref (V.2.2 1)), (1, .int x1)] := hl
  unfold p_Mem_objectsIn at h
  refine lv_iconst (v := 0) hx hb d_Mem_objectsIn_0 (by decide) ?_
  refine lv_istore_n (lv' := [(2, .int 0), (0, .ref (V.2.2 1)), (1, .int x1)]) hx hb d_Mem_objectsIn_1 rfl hl (by decide) rfl (fun ls hl => ?_)
  refine lv_iconst (v := 0) hx hb d_Mem_objectsIn_2 (by decide) ?_
  refine lv_istore_n (lv' := [(3, .int 0), (2, .int 0), (0, .ref (V.2.2 1)), (1, .int x1)]) hx hb d_Mem_objectsIn_3 rfl hl (by decide) rfl (fun ls hl => ?_)
  obtain ⟨n, h⟩ := h
  exact w_Mem_objectsIn_L4 C hlocks hr n _ _ _ _ _ _ _ h hI (lv_sub hl [2, 3, 1, 0] rfl)
def y_Mem_placesTakenIn : MethodName := ⟨"RegionPool$Memory", "placesTakenIn", "(I)I"⟩
abbrev cd_Mem_placesTakenIn : ByteArray := prog_7_method_5_code
theorem yw_Hea_placesTakenOnPage : xY y_Hea_placesTakenOnPage cd_Hea_placesTakenOnPage 5 (some .int) 1 := ⟨xG_mem 410 (by decide +kernel) (by decide +kernel), xG_mem 411 (by decide +kernel) (by decide +kernel), xG_mem 57 (by decide +kernel) (by decide +kernel), xG_mem 412 (by decide +kernel) (by decide +kernel), by decide, by decide, by decide +kernel⟩
theorem ml_Mem_69 : Cond.methodLink R_Mem 69 y_Hea_placesTakenOnPage ∈ xG := xG_mem 409 (by decide +kernel) (by decide +kernel)
def b_Mem_placesTakenIn_L4 (K4 : Int32 → Int32 → Int32 → xS → Prop) (Q : Int32 → xS → Prop) (x1 x2 x3 : Int32) (σ : xS) : Prop :=
  p_Reg_rowLength x1 σ (fun r2 σ1 => ((r2 ≤ x3 → Q x2 σ1) ∧ (¬ r2 ≤ x3 → p_Reg_pageInRow x1 x3 σ1 (fun r5 σ4 => p_Hea_placesTakenOnPage r5 σ4 (fun r7 σ6 => (∀ z8 : Int32, z8 = (x2 + r7) → (∀ z9 : Int32, z9 = x3 + 1 → K4 x1 z8 z9 σ6)))))))
def p_Mem_placesTakenIn_L4 (Q : Int32 → xS → Prop) (n : Nat) : Int32 → Int32 → Int32 → xS → Prop := Nat.rec (motive := fun _ => Int32 → Int32 → Int32 → xS → Prop) (fun _ _ _ _ => False) (fun _ K x1 x2 x3 σ => b_Mem_placesTakenIn_L4 K Q x1 x2 x3 σ) n
def p_Mem_placesTakenIn (x1 : Int32) (σ : xS) (Q : Int32 → xS → Prop) : Prop :=
  (∃ n, p_Mem_placesTakenIn_L4 Q n x1 0 0 σ)
abbrev rm_Mem_placesTakenIn : Room := { frames := 2, cells := 0, slots := 0, locals := 45 }
theorem d_Mem_placesTakenIn_0 : decode cd_Mem_placesTakenIn 0 = .ok (.iconst 0, 1) := by decide +kernel
theorem d_Mem_placesTakenIn_1 : decode cd_Mem_placesTakenIn 1 = .ok (.istore_n 2, 1) := by decide +kernel
theorem d_Mem_placesTakenIn_2 : decode cd_Mem_placesTakenIn 2 = .ok (.iconst 0, 1) := by decide +kernel
theorem d_Mem_placesTakenIn_3 : decode cd_Mem_placesTakenIn 3 = .ok (.istore_n 3, 1) := by decide +kernel
theorem d_Mem_placesTakenIn_4 : decode cd_Mem_placesTakenIn 4 = .ok (.iload_n 3, 1) := by decide +kernel
theorem d_Mem_placesTakenIn_5 : decode cd_Mem_placesTakenIn 5 = .ok (.aload_n 0, 1) := by decide +kernel
theorem d_Mem_placesTakenIn_6 : decode cd_Mem_placesTakenIn 6 = .ok (.getfield 30, 3) := by decide +kernel
theorem d_Mem_placesTakenIn_9 : decode cd_Mem_placesTakenIn 9 = .ok (.iload_n 1, 1) := by decide +kernel
theorem d_Mem_placesTakenIn_10 : decode cd_Mem_placesTakenIn 10 = .ok (.invokevirtual 62, 3) := by decide +kernel
theorem d_Mem_placesTakenIn_13 : decode cd_Mem_placesTakenIn 13 = .ok (.if_icmp .ge 28, 3) := by decide +kernel
theorem d_Mem_placesTakenIn_16 : decode cd_Mem_placesTakenIn 16 = .ok (.iload_n 2, 1) := by decide +kernel
theorem d_Mem_placesTakenIn_17 : decode cd_Mem_placesTakenIn 17 = .ok (.aload_n 0, 1) := by decide +kernel
theorem d_Mem_placesTakenIn_18 : decode cd_Mem_placesTakenIn 18 = .ok (.getfield 23, 3) := by decide +kernel
theorem d_Mem_placesTakenIn_21 : decode cd_Mem_placesTakenIn 21 = .ok (.aload_n 0, 1) := by decide +kernel
theorem d_Mem_placesTakenIn_22 : decode cd_Mem_placesTakenIn 22 = .ok (.getfield 30, 3) := by decide +kernel
theorem d_Mem_placesTakenIn_25 : decode cd_Mem_placesTakenIn 25 = .ok (.iload_n 1, 1) := by decide +kernel
theorem d_Mem_placesTakenIn_26 : decode cd_Mem_placesTakenIn 26 = .ok (.iload_n 3, 1) := by decide +kernel
theorem d_Mem_placesTakenIn_27 : decode cd_Mem_placesTakenIn 27 = .ok (.invokevirtual 65, 3) := by decide +kernel
theorem d_Mem_placesTakenIn_30 : decode cd_Mem_placesTakenIn 30 = .ok (.invokevirtual 69, 3) := by decide +kernel
theorem d_Mem_placesTakenIn_33 : decode cd_Mem_placesTakenIn 33 = .ok (.iadd, 1) := by decide +kernel
theorem d_Mem_placesTakenIn_34 : decode cd_Mem_placesTakenIn 34 = .ok (.istore_n 2, 1) := by decide +kernel
theorem d_Mem_placesTakenIn_35 : decode cd_Mem_placesTakenIn 35 = .ok (.iinc 3 1, 3) := by decide +kernel
theorem d_Mem_placesTakenIn_38 : decode cd_Mem_placesTakenIn 38 = .ok (.goto (-34), 3) := by decide +kernel
theorem d_Mem_placesTakenIn_41 : decode cd_Mem_placesTakenIn 41 = .ok (.iload_n 2, 1) := by decide +kernel
theorem d_Mem_placesTakenIn_42 : decode cd_Mem_placesTakenIn 42 = .ok (.ireturn, 1) := by decide +kernel
set_option maxRecDepth 100000 in
set_option maxHeartbeats 4000000 in
theorem s_Mem_placesTakenIn_L4 {p : Program} {l : Launch} {e : Env} {s : State} {m : MethodId} {args : Array Value} {below : List Frame} {meth : Method} {c : Code} {V : xV} (C : xC p s m args c cd_Mem_placesTakenIn 4 R_Mem V) (hlocks : meth.locks = false) (hr : meth.sig.returnType = (some .int)) {Q : Int32 → xS → Prop} {K4 : Int32 → Int32 → Int32 → xS → Prop} (hK4 : ∀ (x1 : Int32) (x2 : Int32) (x3 : Int32) (σ : xS) (H : Heap) (locs : List Loc) (ls : Array Slot), K4 x1 x2 x3 σ → xI V s.heap σ H locs → lv_has ls 4 [(0, .ref (V.2.2 1)), (1, .int x1), (2, .int x2), (3, .int x3)] → W p l e rm_Mem_placesTakenIn s m args below meth c H locs 0 0 (xZi below V args s Q) (F0 m 4 ls [])) {x1 x2 x3 : Int32} {σ : xS} {H : Heap} {locs : List Loc} {ls : Array Slot} (h : b_Mem_placesTakenIn_L4 K4 Q x1 x2 x3 σ) (hI : xI V s.heap σ H locs) (hl : lv_has ls 4 [(0, .ref (V.2.2 1)), (1, .int x1), (2, .int x2), (3, .int x3)]) : W p l e rm_Mem_placesTakenIn s m args below meth c H locs 0 0 (xZi below V args s Q) (F0 m 4 ls []) := by
  have hx := C.1
  have hb := C.2.1
  unfold b_Mem_placesTakenIn_L4 at h
  refine lv_iload_n hx hb d_Mem_placesTakenIn_4 rfl (lv_at hl 3 rfl) ?_
  refine lv_aload_n hx hb d_Mem_placesTakenIn_5 rfl (lv_at hl 0 rfl) ?_
  refine x_get C hI (d := 1) (by decide) (xE1 V _) fd_Mem_30 rfl d_Mem_placesTakenIn_6 ?_
  refine lv_iload_n hx hb d_Mem_placesTakenIn_9 rfl (lv_at hl 1 rfl) ?_
  refine x_calli C hI hl.1 (d := 7) (As := [.int x1]) (rest := [.int x3]) (by decide) (c_Reg_rowLength h) (xE7 V _) rfl yw_Reg_rowLength ml_Mem_62 rfl rfl ⟨Nat.le_of_ble_eq_true rfl, Nat.le_of_ble_eq_true rfl⟩ rfl rfl (Nat.le_of_ble_eq_true rfl) d_Mem_placesTakenIn_10 ⟨Nat.zero_le _, Nat.zero_le _⟩ (fun r2 σ1 H locs h hI => ?_)
  refine lv_icmp_ge (tgt := 41) hx hb d_Mem_placesTakenIn_13 (by decide) (fun c3 => ?_) (fun c3 => ?_)
  · have h := h.1 c3
    refine lv_iload_n hx hb d_Mem_placesTakenIn_41 rfl (lv_at hl 2 rfl) ?_
    exact x_iret C hlocks hr hI h d_Mem_placesTakenIn_42
  · have h := h.2 c3
    refine lv_iload_n hx hb d_Mem_placesTakenIn_16 rfl (lv_at hl 2 rfl) ?_
    refine lv_aload_n hx hb d_Mem_placesTakenIn_17 rfl (lv_at hl 0 rfl) ?_
    refine x_get C hI (d := 1) (by decide) (xE1 V _) fd_Mem_23 rfl d_Mem_placesTakenIn_18 ?_
    refine lv_aload_n hx hb d_Mem_placesTakenIn_21 rfl (lv_at hl 0 rfl) ?_
    refine x_get C hI (d := 1) (by decide) (xE1 V _) fd_Mem_30 rfl d_Mem_placesTakenIn_22 ?_
    refine lv_iload_n hx hb d_Mem_placesTakenIn_25 rfl (lv_at hl 1 rfl) ?_
    refine lv_iload_n hx hb d_Mem_placesTakenIn_26 rfl (lv_at hl 3 rfl) ?_
    refine x_calli C hI hl.1 (d := 7) (As := [.int x1, .int x3]) (rest := [.ref (V.2.2 6), .int x2]) (by decide) (c_Reg_pageInRow h) (xE7 V _) rfl yw_Reg_pageInRow ml_Mem_65 rfl rfl ⟨Nat.le_of_ble_eq_true rfl, Nat.le_of_ble_eq_true rfl⟩ rfl rfl (Nat.le_of_ble_eq_true rfl) d_Mem_placesTakenIn_27 ⟨Nat.zero_le _, Nat.zero_le _⟩ (fun r5 σ4 H locs h hI => ?_)
    refine x_calli C hI hl.1 (d := 6) (As := [.int r5]) (rest := [.int x2]) (by decide) (c_Hea_placesTakenOnPage h) (xE6 V _) rfl yw_Hea_placesTakenOnPage ml_Mem_69 rfl rfl ⟨Nat.le_of_ble_eq_true rfl, Nat.le_of_ble_eq_true rfl⟩ rfl rfl (Nat.le_of_ble_eq_true rfl) d_Mem_placesTakenIn_30 ⟨Nat.zero_le _, Nat.zero_le _⟩ (fun r7 σ6 H locs h hI => ?_)
    refine lv_iadd hx hb d_Mem_placesTakenIn_33 ?_
    refine lv_topi (fun z8 ez8 => ?_)
    have h := h z8 ez8
    refine lv_istore_n (lv' := [(2, .int z8), (0, .ref (V.2.2 1)), (1, .int x1), (3, .int x3)]) hx hb d_Mem_placesTakenIn_34 rfl hl (by decide) rfl (fun ls hl => ?_)
    obtain ⟨z9, ez9⟩ : ∃ y : Int32, y = x3 + 1 := ⟨_, rfl⟩
    have h := h z9 ez9
    refine lv_iinc (v := z9) (lv' := [(3, .int z9), (2, .int z8), (0, .ref (V.2.2 1)), (1, .int x1)]) hx hb d_Mem_placesTakenIn_35 hl (k := 3) rfl (by rw [ez9]; rfl) (by decide) rfl (fun ls hl => ?_)
    refine lv_goto (tgt := 4) hx hb d_Mem_placesTakenIn_38 (by decide) ?_
    exact hK4 _ _ _ _ _ _ _ h hI (lv_sub hl [2, 3, 1, 0] rfl)
theorem w_Mem_placesTakenIn_L4 {p : Program} {l : Launch} {e : Env} {s : State} {m : MethodId} {args : Array Value} {below : List Frame} {meth : Method} {c : Code} {V : xV} (C : xC p s m args c cd_Mem_placesTakenIn 4 R_Mem V) (hlocks : meth.locks = false) (hr : meth.sig.returnType = (some .int)) {Q : Int32 → xS → Prop} : ∀ (n : Nat) (x1 : Int32) (x2 : Int32) (x3 : Int32) (σ : xS) (H : Heap) (locs : List Loc) (ls : Array Slot), p_Mem_placesTakenIn_L4 Q n x1 x2 x3 σ → xI V s.heap σ H locs → lv_has ls 4 [(0, .ref (V.2.2 1)), (1, .int x1), (2, .int x2), (3, .int x3)] → W p l e rm_Mem_placesTakenIn s m args below meth c H locs 0 0 (xZi below V args s Q) (F0 m 4 ls []) := by
  intro n
  induction n with
  | zero =>
    intro x1 x2 x3 σ H locs ls h
    exact False.elim h
  | succ n ih =>
    intro x1 x2 x3 σ H locs ls h hI hl
    exact s_Mem_placesTakenIn_L4 C hlocks hr (K4 := p_Mem_placesTakenIn_L4 Q n) (fun x1 x2 x3 σ H locs ls h hI hl => ih x1 x2 x3 σ H locs ls h hI hl) h hI hl
set_option maxRecDepth 100000 in
set_option maxHeartbeats 4000000 in
theorem c_Mem_placesTakenIn {l : Launch} {V : xV} {σ : xS} {x1 : Int32} {Q : Int32 → xS → Prop} (h : p_Mem_placesTakenIn x1 σ Q) : xMi l y_Mem_placesTakenIn (.code y_Mem_placesTakenIn cd_Mem_placesTakenIn 4 (some .int) :: xG) rm_Mem_placesTakenIn V [.ref (V.2.2 1), .int x1] σ Q := by
  refine x_begini (by decide) (Nat.le_of_ble_eq_true rfl) (fun p e s m below meth c ls C hlocks hr hI hl => ?_)
  have C : xC p s m _ c cd_Mem_placesTakenIn 4 R_Mem V := C
  have hx := C.1
  have hb := C.2.1
  have hl : lv_has ls 4 [(0, .ref (V.2.2 1)), (1, .int x1)] := hl
  unfold p_Mem_placesTakenIn at h
  refine lv_iconst (v := 0) hx hb d_Mem_placesTakenIn_0 (by decide) ?_
  refine lv_istore_n (lv' := [(2, .int 0), (0, .ref (V.2.2 1)), (1, .int x1)]) hx hb d_Mem_placesTakenIn_1 rfl hl (by decide) rfl (fun ls hl => ?_)
  refine lv_iconst (v := 0) hx hb d_Mem_placesTakenIn_2 (by decide) ?_
  refine lv_istore_n (lv' := [(3, .int 0), (2, .int 0), (0, .ref (V.2.2 1)), (1, .int x1)]) hx hb d_Mem_placesTakenIn_3 rfl hl (by decide) rfl (fun ls hl => ?_)
  obtain ⟨n, h⟩ := h
  exact w_Mem_placesTakenIn_L4 C hlocks hr n _ _ _ _ _ _ _ h hI (lv_sub hl [2, 3, 1, 0] rfl)
def y_Mem_forgetRegion : MethodName := ⟨"RegionPool$Memory", "forgetRegion", "(I)V"⟩
abbrev cd_Mem_forgetRegion : ByteArray := prog_7_method_6_code
theorem fd_Mem_37 : xFd R_Mem 37 1 3 := ⟨R_Mem, T_Mem, 6, rfl, in_Mem, by decide, xG_mem 174 (by decide +kernel) (by decide +kernel)⟩
theorem yw_Lin_dropRegion : xY y_Lin_dropRegion cd_Lin_dropRegion 5 none 2 := ⟨xG_mem 346 (by decide +kernel) (by decide +kernel), xG_mem 347 (by decide +kernel) (by decide +kernel), xG_mem 60 (by decide +kernel) (by decide +kernel), xG_mem 348 (by decide +kernel) (by decide +kernel), by decide, by decide, by decide +kernel⟩
theorem ml_Mem_80 : Cond.methodLink R_Mem 80 y_Lin_dropRegion ∈ xG := xG_mem 345 (by decide +kernel) (by decide +kernel)
theorem fd_Mem_41 : xFd R_Mem 41 1 4 := ⟨R_Mem, T_Mem, 6, rfl, in_Mem, by decide, xG_mem 178 (by decide +kernel) (by decide +kernel)⟩
theorem ml_Mem_84 : Cond.methodLink R_Mem 84 y_Hea_isObject ∈ xG := xG_mem 350 (by decide +kernel) (by decide +kernel)
theorem yw_Hea_erase : xY y_Hea_erase cd_Hea_erase 4 none 1 := ⟨xG_mem 359 (by decide +kernel) (by decide +kernel), xG_mem 360 (by decide +kernel) (by decide +kernel), xG_mem 57 (by decide +kernel) (by decide +kernel), xG_mem 361 (by decide +kernel) (by decide +kernel), by decide, by decide, by decide +kernel⟩
theorem ml_Mem_87 : Cond.methodLink R_Mem 87 y_Hea_erase ∈ xG := xG_mem 358 (by decide +kernel) (by decide +kernel)
theorem fd_Mem_14 : xFd R_Mem 14 1 0 := ⟨R_Mem, T_Mem, 6, rfl, in_Mem, by decide, xG_mem 160 (by decide +kernel) (by decide +kernel)⟩
theorem yw_Mem_refersBeyond : xY y_Mem_refersBeyond cd_Mem_refersBeyond 4 (some .boolean) 3 := ⟨xG_mem 322 (by decide +kernel) (by decide +kernel), xG_mem 323 (by decide +kernel) (by decide +kernel), xG_mem 55 (by decide +kernel) (by decide +kernel), xG_mem 324 (by decide +kernel) (by decide +kernel), by decide, by decide, by decide +kernel⟩
theorem ml_Mem_72 : Cond.methodLink R_Mem 72 y_Mem_refersBeyond ∈ xG := xG_mem 321 (by decide +kernel) (by decide +kernel)
theorem ml_Mem_76 : Cond.methodLink R_Mem 76 y_Val_setNil ∈ xG := xG_mem 337 (by decide +kernel) (by decide +kernel)
def b_Mem_forgetRegion_L63 (K63 : Int32 → Int32 → xS → Prop) (Q : xS → Prop) (x1 x2 : Int32) (σ : xS) : Prop :=
  ((640 ≤ x2 → Q σ) ∧ (¬ 640 ≤ x2 → p_Hea_isObject x2 σ (fun r6 σ5 => ((r6 = 0 → (∀ z8 : Int32, z8 = x2 + 1 → K63 x1 z8 σ5)) ∧ (¬ r6 = 0 → p_Reg_ofPlace x2 σ5 (fun r10 σ9 => ((¬ r10 = x1 → (∀ z12 : Int32, z12 = x2 + 1 → K63 x1 z12 σ9)) ∧ (r10 = x1 → p_Hea_erase x2 σ9 (fun σ13 => (∀ z14 : Int32, z14 = x2 + 1 → K63 x1 z14 σ13))))))))))
def p_Mem_forgetRegion_L63 (Q : xS → Prop) (n : Nat) : Int32 → Int32 → xS → Prop := Nat.rec (motive := fun _ => Int32 → Int32 → xS → Prop) (fun _ _ _ => False) (fun _ K x1 x2 σ => b_Mem_forgetRegion_L63 K Q x1 x2 σ) n
def b_Mem_forgetRegion_L2 (K2 : Int32 → Int32 → xS → Prop) (Q : xS → Prop) (x1 x2 : Int32) (σ : xS) : Prop :=
  ((16 ≤ x2 → p_Lin_dropRegion_8_7 x1 σ (fun σ2 => p_Lin_dropRegion_9_7 x1 σ2 (fun σ3 => (∃ n, p_Mem_forgetRegion_L63 Q n x1 0 σ3)))) ∧ (¬ 16 ≤ x2 → p_Mem_refersBeyond_1_5 x2 (x1 - 1) σ (fun r16 σ15 => ((r16 = 0 → (∀ z18 : Int32, z18 = x2 + 1 → K2 x1 z18 σ15)) ∧ (¬ r16 = 0 → p_Val_setNil_5 x2 σ15 (fun σ19 => (∀ z20 : Int32, z20 = x2 + 1 → K2 x1 z20 σ19)))))))
def p_Mem_forgetRegion_L2 (Q : xS → Prop) (n : Nat) : Int32 → Int32 → xS → Prop := Nat.rec (motive := fun _ => Int32 → Int32 → xS → Prop) (fun _ _ _ => False) (fun _ K x1 x2 σ => b_Mem_forgetRegion_L2 K Q x1 x2 σ) n
def p_Mem_forgetRegion (x1 : Int32) (σ : xS) (Q : xS → Prop) : Prop :=
  (∃ n, p_Mem_forgetRegion_L2 Q n x1 0 σ)
abbrev rm_Mem_forgetRegion : Room := { frames := 3, cells := 0, slots := 0, locals := 65 }
theorem d_Mem_forgetRegion_0 : decode cd_Mem_forgetRegion 0 = .ok (.iconst 0, 1) := by decide +kernel
theorem d_Mem_forgetRegion_1 : decode cd_Mem_forgetRegion 1 = .ok (.istore_n 2, 1) := by decide +kernel
theorem d_Mem_forgetRegion_2 : decode cd_Mem_forgetRegion 2 = .ok (.iload_n 2, 1) := by decide +kernel
theorem d_Mem_forgetRegion_3 : decode cd_Mem_forgetRegion 3 = .ok (.bipush 16, 2) := by decide +kernel
theorem d_Mem_forgetRegion_5 : decode cd_Mem_forgetRegion 5 = .ok (.if_icmp .ge 32, 3) := by decide +kernel
theorem d_Mem_forgetRegion_8 : decode cd_Mem_forgetRegion 8 = .ok (.aload_n 0, 1) := by decide +kernel
theorem d_Mem_forgetRegion_9 : decode cd_Mem_forgetRegion 9 = .ok (.aload_n 0, 1) := by decide +kernel
theorem d_Mem_forgetRegion_10 : decode cd_Mem_forgetRegion 10 = .ok (.getfield 14, 3) := by decide +kernel
theorem d_Mem_forgetRegion_13 : decode cd_Mem_forgetRegion 13 = .ok (.iload_n 2, 1) := by decide +kernel
theorem d_Mem_forgetRegion_14 : decode cd_Mem_forgetRegion 14 = .ok (.iload_n 1, 1) := by decide +kernel
theorem d_Mem_forgetRegion_15 : decode cd_Mem_forgetRegion 15 = .ok (.iconst 1, 1) := by decide +kernel
theorem d_Mem_forgetRegion_16 : decode cd_Mem_forgetRegion 16 = .ok (.isub, 1) := by decide +kernel
theorem d_Mem_forgetRegion_17 : decode cd_Mem_forgetRegion 17 = .ok (.invokevirtual 72, 3) := by decide +kernel
theorem d_Mem_forgetRegion_20 : decode cd_Mem_forgetRegion 20 = .ok (.ifCond .eq 11, 3) := by decide +kernel
theorem d_Mem_forgetRegion_23 : decode cd_Mem_forgetRegion 23 = .ok (.aload_n 0, 1) := by decide +kernel
theorem d_Mem_forgetRegion_24 : decode cd_Mem_forgetRegion 24 = .ok (.getfield 14, 3) := by decide +kernel
theorem d_Mem_forgetRegion_27 : decode cd_Mem_forgetRegion 27 = .ok (.iload_n 2, 1) := by decide +kernel
theorem d_Mem_forgetRegion_28 : decode cd_Mem_forgetRegion 28 = .ok (.invokevirtual 76, 3) := by decide +kernel
theorem d_Mem_forgetRegion_31 : decode cd_Mem_forgetRegion 31 = .ok (.iinc 2 1, 3) := by decide +kernel
theorem d_Mem_forgetRegion_34 : decode cd_Mem_forgetRegion 34 = .ok (.goto (-32), 3) := by decide +kernel
theorem d_Mem_forgetRegion_37 : decode cd_Mem_forgetRegion 37 = .ok (.aload_n 0, 1) := by decide +kernel
theorem d_Mem_forgetRegion_38 : decode cd_Mem_forgetRegion 38 = .ok (.getfield 37, 3) := by decide +kernel
theorem d_Mem_forgetRegion_41 : decode cd_Mem_forgetRegion 41 = .ok (.aload_n 0, 1) := by decide +kernel
theorem d_Mem_forgetRegion_42 : decode cd_Mem_forgetRegion 42 = .ok (.getfield 30, 3) := by decide +kernel
theorem d_Mem_forgetRegion_45 : decode cd_Mem_forgetRegion 45 = .ok (.iload_n 1, 1) := by decide +kernel
theorem d_Mem_forgetRegion_46 : decode cd_Mem_forgetRegion 46 = .ok (.invokevirtual 80, 3) := by decide +kernel
theorem d_Mem_forgetRegion_49 : decode cd_Mem_forgetRegion 49 = .ok (.aload_n 0, 1) := by decide +kernel
theorem d_Mem_forgetRegion_50 : decode cd_Mem_forgetRegion 50 = .ok (.getfield 41, 3) := by decide +kernel
theorem d_Mem_forgetRegion_53 : decode cd_Mem_forgetRegion 53 = .ok (.aload_n 0, 1) := by decide +kernel
theorem d_Mem_forgetRegion_54 : decode cd_Mem_forgetRegion 54 = .ok (.getfield 30, 3) := by decide +kernel
theorem d_Mem_forgetRegion_57 : decode cd_Mem_forgetRegion 57 = .ok (.iload_n 1, 1) := by decide +kernel
theorem d_Mem_forgetRegion_58 : decode cd_Mem_forgetRegion 58 = .ok (.invokevirtual 80, 3) := by decide +kernel
theorem d_Mem_forgetRegion_61 : decode cd_Mem_forgetRegion 61 = .ok (.iconst 0, 1) := by decide +kernel
theorem d_Mem_forgetRegion_62 : decode cd_Mem_forgetRegion 62 = .ok (.istore_n 2, 1) := by decide +kernel
theorem d_Mem_forgetRegion_63 : decode cd_Mem_forgetRegion 63 = .ok (.iload_n 2, 1) := by decide +kernel
theorem d_Mem_forgetRegion_64 : decode cd_Mem_forgetRegion 64 = .ok (.sipush 640, 3) := by decide +kernel
theorem d_Mem_forgetRegion_67 : decode cd_Mem_forgetRegion 67 = .ok (.if_icmp .ge 40, 3) := by decide +kernel
theorem d_Mem_forgetRegion_70 : decode cd_Mem_forgetRegion 70 = .ok (.aload_n 0, 1) := by decide +kernel
theorem d_Mem_forgetRegion_71 : decode cd_Mem_forgetRegion 71 = .ok (.getfield 23, 3) := by decide +kernel
theorem d_Mem_forgetRegion_74 : decode cd_Mem_forgetRegion 74 = .ok (.iload_n 2, 1) := by decide +kernel
theorem d_Mem_forgetRegion_75 : decode cd_Mem_forgetRegion 75 = .ok (.invokevirtual 84, 3) := by decide +kernel
theorem d_Mem_forgetRegion_78 : decode cd_Mem_forgetRegion 78 = .ok (.ifCond .eq 23, 3) := by decide +kernel
theorem d_Mem_forgetRegion_81 : decode cd_Mem_forgetRegion 81 = .ok (.aload_n 0, 1) := by decide +kernel
theorem d_Mem_forgetRegion_82 : decode cd_Mem_forgetRegion 82 = .ok (.getfield 30, 3) := by decide +kernel
theorem d_Mem_forgetRegion_85 : decode cd_Mem_forgetRegion 85 = .ok (.iload_n 2, 1) := by decide +kernel
theorem d_Mem_forgetRegion_86 : decode cd_Mem_forgetRegion 86 = .ok (.invokevirtual 56, 3) := by decide +kernel
theorem d_Mem_forgetRegion_89 : decode cd_Mem_forgetRegion 89 = .ok (.iload_n 1, 1) := by decide +kernel
theorem d_Mem_forgetRegion_90 : decode cd_Mem_forgetRegion 90 = .ok (.if_icmp .ne 11, 3) := by decide +kernel
theorem d_Mem_forgetRegion_93 : decode cd_Mem_forgetRegion 93 = .ok (.aload_n 0, 1) := by decide +kernel
theorem d_Mem_forgetRegion_94 : decode cd_Mem_forgetRegion 94 = .ok (.getfield 23, 3) := by decide +kernel
theorem d_Mem_forgetRegion_97 : decode cd_Mem_forgetRegion 97 = .ok (.iload_n 2, 1) := by decide +kernel
theorem d_Mem_forgetRegion_98 : decode cd_Mem_forgetRegion 98 = .ok (.invokevirtual 87, 3) := by decide +kernel
theorem d_Mem_forgetRegion_101 : decode cd_Mem_forgetRegion 101 = .ok (.iinc 2 1, 3) := by decide +kernel
theorem d_Mem_forgetRegion_104 : decode cd_Mem_forgetRegion 104 = .ok (.goto (-41), 3) := by decide +kernel
theorem d_Mem_forgetRegion_107 : decode cd_Mem_forgetRegion 107 = .ok (.return_, 1) := by decide +kernel
set_option maxRecDepth 100000 in
set_option maxHeartbeats 4000000 in
theorem s_Mem_forgetRegion_L63 {p : Program} {l : Launch} {e : Env} {s : State} {m : MethodId} {args : Array Value} {below : List Frame} {meth : Method} {c : Code} {V : xV} (C : xC p s m args c cd_Mem_forgetRegion 3 R_Mem V) (hlocks : meth.locks = false) (hr : meth.sig.returnType = none) {Q : xS → Prop} {K63 : Int32 → Int32 → xS → Prop} (hK63 : ∀ (x1 : Int32) (x2 : Int32) (σ : xS) (H : Heap) (locs : List Loc) (ls : Array Slot), K63 x1 x2 σ → xI V s.heap σ H locs → lv_has ls 3 [(0, .ref (V.2.2 1)), (1, .int x1), (2, .int x2)] → W p l e rm_Mem_forgetRegion s m args below meth c H locs 0 0 (xZv below V args s Q) (F0 m 63 ls [])) {x1 x2 : Int32} {σ : xS} {H : Heap} {locs : List Loc} {ls : Array Slot} (h : b_Mem_forgetRegion_L63 K63 Q x1 x2 σ) (hI : xI V s.heap σ H locs) (hl : lv_has ls 3 [(0, .ref (V.2.2 1)), (1, .int x1), (2, .int x2)]) : W p l e rm_Mem_forgetRegion s m args below meth c H locs 0 0 (xZv below V args s Q) (F0 m 63 ls []) := by
  have hx := C.1
  have hb := C.2.1
  unfold b_Mem_forgetRegion_L63 at h
  refine lv_iload_n hx hb d_Mem_forgetRegion_63 rfl (lv_at hl 2 rfl) ?_
  refine lv_sipush (v := 640) hx hb d_Mem_forgetRegion_64 (by decide) ?_
  refine lv_icmp_ge (tgt := 107) hx hb d_Mem_forgetRegion_67 (by decide) (fun c4 => ?_) (fun c4 => ?_)
  · have h := h.1 c4
    exact x_vret C hlocks hr hI h d_Mem_forgetRegion_107
  · have h := h.2 c4
    refine lv_aload_n hx hb d_Mem_forgetRegion_70 rfl (lv_at hl 0 rfl) ?_
    refine x_get C hI (d := 1) (by decide) (xE1 V _) fd_Mem_23 rfl d_Mem_forgetRegion_71 ?_
    refine lv_iload_n hx hb d_Mem_forgetRegion_74 rfl (lv_at hl 2 rfl) ?_
    refine x_calli C hI hl.1 (d := 6) (As := [.int x2]) (rest := []) (by decide) (c_Hea_isObject h) (xE6 V _) rfl yw_Hea_isObject ml_Mem_84 rfl rfl ⟨Nat.le_of_ble_eq_true rfl, Nat.le_of_ble_eq_true rfl⟩ rfl rfl (Nat.le_of_ble_eq_true rfl) d_Mem_forgetRegion_75 ⟨Nat.zero_le _, Nat.zero_le _⟩ (fun r6 σ5 H locs h hI => ?_)
    refine lv_if_eq (tgt := 101) hx hb d_Mem_forgetRegion_78 (by decide) (fun c7 => ?_) (fun c7 => ?_)
    · have h := h.1 c7
      obtain ⟨z8, ez8⟩ : ∃ y : Int32, y = x2 + 1 := ⟨_, rfl⟩
      have h := h z8 ez8
      refine lv_iinc (v := z8) (lv' := [(2, .int z8), (0, .ref (V.2.2 1)), (1, .int x1)]) hx hb d_Mem_forgetRegion_101 hl (k := 2) rfl (by rw [ez8]; rfl) (by decide) rfl (fun ls hl => ?_)
      refine lv_goto (tgt := 63) hx hb d_Mem_forgetRegion_104 (by decide) ?_
      exact hK63 _ _ _ _ _ _ h hI (lv_sub hl [1, 2, 0] rfl)
    · have h := h.2 c7
      refine lv_aload_n hx hb d_Mem_forgetRegion_81 rfl (lv_at hl 0 rfl) ?_
      refine x_get C hI (d := 1) (by decide) (xE1 V _) fd_Mem_30 rfl d_Mem_forgetRegion_82 ?_
      refine lv_iload_n hx hb d_Mem_forgetRegion_85 rfl (lv_at hl 2 rfl) ?_
      refine x_calli C hI hl.1 (d := 7) (As := [.int x2]) (rest := []) (by decide) (c_Reg_ofPlace h) (xE7 V _) rfl yw_Reg_ofPlace ml_Mem_56 rfl rfl ⟨Nat.le_of_ble_eq_true rfl, Nat.le_of_ble_eq_true rfl⟩ rfl rfl (Nat.le_of_ble_eq_true rfl) d_Mem_forgetRegion_86 ⟨Nat.zero_le _, Nat.zero_le _⟩ (fun r10 σ9 H locs h hI => ?_)
      refine lv_iload_n hx hb d_Mem_forgetRegion_89 rfl (lv_at hl 1 rfl) ?_
      refine lv_icmp_ne (tgt := 101) hx hb d_Mem_forgetRegion_90 (by decide) (fun c11 => ?_) (fun c11 => ?_)
      · have h := h.1 c11
        obtain ⟨z12, ez12⟩ : ∃ y : Int32, y = x2 + 1 := ⟨_, rfl⟩
        have h := h z12 ez12
        refine lv_iinc (v := z12) (lv' := [(2, .int z12), (0, .ref (V.2.2 1)), (1, .int x1)]) hx hb d_Mem_forgetRegion_101 hl (k := 2) rfl (by rw [ez12]; rfl) (by decide) rfl (fun ls hl => ?_)
        refine lv_goto (tgt := 63) hx hb d_Mem_forgetRegion_104 (by decide) ?_
        exact hK63 _ _ _ _ _ _ h hI (lv_sub hl [1, 2, 0] rfl)
      · have h := h.2 c11
        refine lv_aload_n hx hb d_Mem_forgetRegion_93 rfl (lv_at hl 0 rfl) ?_
        refine x_get C hI (d := 1) (by decide) (xE1 V _) fd_Mem_23 rfl d_Mem_forgetRegion_94 ?_
        refine lv_iload_n hx hb d_Mem_forgetRegion_97 rfl (lv_at hl 2 rfl) ?_
        refine x_callv C hI hl.1 (d := 6) (As := [.int x2]) (rest := []) (by decide) (c_Hea_erase h) (xE6 V _) rfl yw_Hea_erase ml_Mem_87 rfl rfl ⟨Nat.le_of_ble_eq_true rfl, Nat.le_of_ble_eq_true rfl⟩ rfl rfl (Nat.le_of_ble_eq_true rfl) d_Mem_forgetRegion_98 ⟨Nat.zero_le _, Nat.zero_le _⟩ (fun σ13 H locs h hI => ?_)
        obtain ⟨z14, ez14⟩ : ∃ y : Int32, y = x2 + 1 := ⟨_, rfl⟩
        have h := h z14 ez14
        refine lv_iinc (v := z14) (lv' := [(2, .int z14), (0, .ref (V.2.2 1)), (1, .int x1)]) hx hb d_Mem_forgetRegion_101 hl (k := 2) rfl (by rw [ez14]; rfl) (by decide) rfl (fun ls hl => ?_)
        refine lv_goto (tgt := 63) hx hb d_Mem_forgetRegion_104 (by decide) ?_
        exact hK63 _ _ _ _ _ _ h hI (lv_sub hl [1, 2, 0] rfl)
theorem w_Mem_forgetRegion_L63 {p : Program} {l : Launch} {e : Env} {s : State} {m : MethodId} {args : Array Value} {below : List Frame} {meth : Method} {c : Code} {V : xV} (C : xC p s m args c cd_Mem_forgetRegion 3 R_Mem V) (hlocks : meth.locks = false) (hr : meth.sig.returnType = none) {Q : xS → Prop} : ∀ (n : Nat) (x1 : Int32) (x2 : Int32) (σ : xS) (H : Heap) (locs : List Loc) (ls : Array Slot), p_Mem_forgetRegion_L63 Q n x1 x2 σ → xI V s.heap σ H locs → lv_has ls 3 [(0, .ref (V.2.2 1)), (1, .int x1), (2, .int x2)] → W p l e rm_Mem_forgetRegion s m args below meth c H locs 0 0 (xZv below V args s Q) (F0 m 63 ls []) := by
  intro n
  induction n with
  | zero =>
    intro x1 x2 σ H locs ls h
    exact False.elim h
  | succ n ih =>
    intro x1 x2 σ H locs ls h hI hl
    exact s_Mem_forgetRegion_L63 C hlocks hr (K63 := p_Mem_forgetRegion_L63 Q n) (fun x1 x2 σ H locs ls h hI hl => ih x1 x2 σ H locs ls h hI hl) h hI hl
set_option maxRecDepth 100000 in
set_option maxHeartbeats 4000000 in
theorem s_Mem_forgetRegion_L2 {p : Program} {l : Launch} {e : Env} {s : State} {m : MethodId} {args : Array Value} {below : List Frame} {meth : Method} {c : Code} {V : xV} (C : xC p s m args c cd_Mem_forgetRegion 3 R_Mem V) (hlocks : meth.locks = false) (hr : meth.sig.returnType = none) {Q : xS → Prop} {K2 : Int32 → Int32 → xS → Prop} (hK2 : ∀ (x1 : Int32) (x2 : Int32) (σ : xS) (H : Heap) (locs : List Loc) (ls : Array Slot), K2 x1 x2 σ → xI V s.heap σ H locs → lv_has ls 3 [(0, .ref (V.2.2 1)), (1, .int x1), (2, .int x2)] → W p l e rm_Mem_forgetRegion s m args below meth c H locs 0 0 (xZv below V args s Q) (F0 m 2 ls [])) {x1 x2 : Int32} {σ : xS} {H : Heap} {locs : List Loc} {ls : Array Slot} (h : b_Mem_forgetRegion_L2 K2 Q x1 x2 σ) (hI : xI V s.heap σ H locs) (hl : lv_has ls 3 [(0, .ref (V.2.2 1)), (1, .int x1), (2, .int x2)]) : W p l e rm_Mem_forgetRegion s m args below meth c H locs 0 0 (xZv below V args s Q) (F0 m 2 ls []) := by
  have hx := C.1
  have hb := C.2.1
  unfold b_Mem_forgetRegion_L2 at h
  refine lv_iload_n hx hb d_Mem_forgetRegion_2 rfl (lv_at hl 2 rfl) ?_
  refine lv_bipush (v := 16) hx hb d_Mem_forgetRegion_3 (by decide) ?_
  refine lv_icmp_ge (tgt := 37) hx hb d_Mem_forgetRegion_5 (by decide) (fun c1 => ?_) (fun c1 => ?_)
  · have h := h.1 c1
    refine lv_aload_n hx hb d_Mem_forgetRegion_37 rfl (lv_at hl 0 rfl) ?_
    refine x_get C hI (d := 1) (by decide) (xE1 V _) fd_Mem_37 rfl d_Mem_forgetRegion_38 ?_
    refine lv_aload_n hx hb d_Mem_forgetRegion_41 rfl (lv_at hl 0 rfl) ?_
    refine x_get C hI (d := 1) (by decide) (xE1 V _) fd_Mem_30 rfl d_Mem_forgetRegion_42 ?_
    refine lv_iload_n hx hb d_Mem_forgetRegion_45 rfl (lv_at hl 1 rfl) ?_
    refine x_callv C hI hl.1 (d := 8) (As := [.ref (V.2.2 7), .int x1]) (rest := []) (by decide) (c_Lin_dropRegion_8_7 h) (xE8 V _) rfl yw_Lin_dropRegion ml_Mem_80 rfl rfl ⟨Nat.le_of_ble_eq_true rfl, Nat.le_of_ble_eq_true rfl⟩ rfl rfl (Nat.le_of_ble_eq_true rfl) d_Mem_forgetRegion_46 ⟨Nat.zero_le _, Nat.zero_le _⟩ (fun σ2 H locs h hI => ?_)
    refine lv_aload_n hx hb d_Mem_forgetRegion_49 rfl (lv_at hl 0 rfl) ?_
    refine x_get C hI (d := 1) (by decide) (xE1 V _) fd_Mem_41 rfl d_Mem_forgetRegion_50 ?_
    refine lv_aload_n hx hb d_Mem_forgetRegion_53 rfl (lv_at hl 0 rfl) ?_
    refine x_get C hI (d := 1) (by decide) (xE1 V _) fd_Mem_30 rfl d_Mem_forgetRegion_54 ?_
    refine lv_iload_n hx hb d_Mem_forgetRegion_57 rfl (lv_at hl 1 rfl) ?_
    refine x_callv C hI hl.1 (d := 9) (As := [.ref (V.2.2 7), .int x1]) (rest := []) (by decide) (c_Lin_dropRegion_9_7 h) (xE9 V _) rfl yw_Lin_dropRegion ml_Mem_80 rfl rfl ⟨Nat.le_of_ble_eq_true rfl, Nat.le_of_ble_eq_true rfl⟩ rfl rfl (Nat.le_of_ble_eq_true rfl) d_Mem_forgetRegion_58 ⟨Nat.zero_le _, Nat.zero_le _⟩ (fun σ3 H locs h hI => ?_)
    refine lv_iconst (v := 0) hx hb d_Mem_forgetRegion_61 (by decide) ?_
    refine lv_istore_n (lv' := [(2, .int 0), (0, .ref (V.2.2 1)), (1, .int x1)]) hx hb d_Mem_forgetRegion_62 rfl hl (by decide) rfl (fun ls hl => ?_)
    obtain ⟨n, h⟩ := h
    exact w_Mem_forgetRegion_L63 C hlocks hr n _ _ _ _ _ _ h hI (lv_sub hl [1, 2, 0] rfl)
  · have h := h.2 c1
    refine lv_aload_n hx hb d_Mem_forgetRegion_8 rfl (lv_at hl 0 rfl) ?_
    refine lv_aload_n hx hb d_Mem_forgetRegion_9 rfl (lv_at hl 0 rfl) ?_
    refine x_get C hI (d := 1) (by decide) (xE1 V _) fd_Mem_14 rfl d_Mem_forgetRegion_10 ?_
    refine lv_iload_n hx hb d_Mem_forgetRegion_13 rfl (lv_at hl 2 rfl) ?_
    refine lv_iload_n hx hb d_Mem_forgetRegion_14 rfl (lv_at hl 1 rfl) ?_
    refine lv_iconst (v := 1) hx hb d_Mem_forgetRegion_15 (by decide) ?_
    refine lv_isub hx hb d_Mem_forgetRegion_16 ?_
    refine x_calli C hI hl.1 (d := 1) (As := [.ref (V.2.2 5), .int x2, .int (x1 - 1)]) (rest := []) (by decide) (c_Mem_refersBeyond_1_5 h) (xE1 V _) rfl yw_Mem_refersBeyond ml_Mem_72 rfl rfl ⟨Nat.le_of_ble_eq_true rfl, Nat.le_of_ble_eq_true rfl⟩ rfl rfl (Nat.le_of_ble_eq_true rfl) d_Mem_forgetRegion_17 ⟨Nat.zero_le _, Nat.zero_le _⟩ (fun r16 σ15 H locs h hI => ?_)
    refine lv_if_eq (tgt := 31) hx hb d_Mem_forgetRegion_20 (by decide) (fun c17 => ?_) (fun c17 => ?_)
    · have h := h.1 c17
      obtain ⟨z18, ez18⟩ : ∃ y : Int32, y = x2 + 1 := ⟨_, rfl⟩
      have h := h z18 ez18
      refine lv_iinc (v := z18) (lv' := [(2, .int z18), (0, .ref (V.2.2 1)), (1, .int x1)]) hx hb d_Mem_forgetRegion_31 hl (k := 2) rfl (by rw [ez18]; rfl) (by decide) rfl (fun ls hl => ?_)
      refine lv_goto (tgt := 2) hx hb d_Mem_forgetRegion_34 (by decide) ?_
      exact hK2 _ _ _ _ _ _ h hI (lv_sub hl [1, 2, 0] rfl)
    · have h := h.2 c17
      refine lv_aload_n hx hb d_Mem_forgetRegion_23 rfl (lv_at hl 0 rfl) ?_
      refine x_get C hI (d := 1) (by decide) (xE1 V _) fd_Mem_14 rfl d_Mem_forgetRegion_24 ?_
      refine lv_iload_n hx hb d_Mem_forgetRegion_27 rfl (lv_at hl 2 rfl) ?_
      refine x_callv C hI hl.1 (d := 5) (As := [.int x2]) (rest := []) (by decide) (c_Val_setNil_5 h) (xE5 V _) rfl yw_Val_setNil ml_Mem_76 rfl rfl ⟨Nat.le_of_ble_eq_true rfl, Nat.le_of_ble_eq_true rfl⟩ rfl rfl (Nat.le_of_ble_eq_true rfl) d_Mem_forgetRegion_28 ⟨Nat.zero_le _, Nat.zero_le _⟩ (fun σ19 H locs h hI => ?_)
      obtain ⟨z20, ez20⟩ : ∃ y : Int32, y = x2 + 1 := ⟨_, rfl⟩
      have h := h z20 ez20
      refine lv_iinc (v := z20) (lv' := [(2, .int z20), (0, .ref (V.2.2 1)), (1, .int x1)]) hx hb d_Mem_forgetRegion_31 hl (k := 2) rfl (by rw [ez20]; rfl) (by decide) rfl (fun ls hl => ?_)
      refine lv_goto (tgt := 2) hx hb d_Mem_forgetRegion_34 (by decide) ?_
      exact hK2 _ _ _ _ _ _ h hI (lv_sub hl [1, 2, 0] rfl)
theorem w_Mem_forgetRegion_L2 {p : Program} {l : Launch} {e : Env} {s : State} {m : MethodId} {args : Array Value} {below : List Frame} {meth : Method} {c : Code} {V : xV} (C : xC p s m args c cd_Mem_forgetRegion 3 R_Mem V) (hlocks : meth.locks = false) (hr : meth.sig.returnType = none) {Q : xS → Prop} : ∀ (n : Nat) (x1 : Int32) (x2 : Int32) (σ : xS) (H : Heap) (locs : List Loc) (ls : Array Slot), p_Mem_forgetRegion_L2 Q n x1 x2 σ → xI V s.heap σ H locs → lv_has ls 3 [(0, .ref (V.2.2 1)), (1, .int x1), (2, .int x2)] → W p l e rm_Mem_forgetRegion s m args below meth c H locs 0 0 (xZv below V args s Q) (F0 m 2 ls []) := by
  intro n
  induction n with
  | zero =>
    intro x1 x2 σ H locs ls h
    exact False.elim h
  | succ n ih =>
    intro x1 x2 σ H locs ls h hI hl
    exact s_Mem_forgetRegion_L2 C hlocks hr (K2 := p_Mem_forgetRegion_L2 Q n) (fun x1 x2 σ H locs ls h hI hl => ih x1 x2 σ H locs ls h hI hl) h hI hl
set_option maxRecDepth 100000 in
set_option maxHeartbeats 4000000 in
theorem c_Mem_forgetRegion {l : Launch} {V : xV} {σ : xS} {x1 : Int32} {Q : xS → Prop} (h : p_Mem_forgetRegion x1 σ Q) : xMv l y_Mem_forgetRegion (.code y_Mem_forgetRegion cd_Mem_forgetRegion 3 none :: xG) rm_Mem_forgetRegion V [.ref (V.2.2 1), .int x1] σ Q := by
  refine x_beginv (by decide) (Nat.le_of_ble_eq_true rfl) (fun p e s m below meth c ls C hlocks hr hI hl => ?_)
  have C : xC p s m _ c cd_Mem_forgetRegion 3 R_Mem V := C
  have hx := C.1
  have hb := C.2.1
  have hl : lv_has ls 3 [(0, .ref (V.2.2 1)), (1, .int x1)] := hl
  unfold p_Mem_forgetRegion at h
  refine lv_iconst (v := 0) hx hb d_Mem_forgetRegion_0 (by decide) ?_
  refine lv_istore_n (lv' := [(2, .int 0), (0, .ref (V.2.2 1)), (1, .int x1)]) hx hb d_Mem_forgetRegion_1 rfl hl (by decide) rfl (fun ls hl => ?_)
  obtain ⟨n, h⟩ := h
  exact w_Mem_forgetRegion_L2 C hlocks hr n _ _ _ _ _ _ h hI (lv_sub hl [1, 2, 0] rfl)
def y_Mem_startMoves : MethodName := ⟨"RegionPool$Memory", "startMoves", "()V"⟩
abbrev cd_Mem_startMoves : ByteArray := prog_7_method_7_code
theorem fd_Mem_44 : xFd R_Mem 44 1 5 := ⟨R_Mem, T_Mem, 6, rfl, in_Mem, by decide, xG_mem 181 (by decide +kernel) (by decide +kernel)⟩
def b_Mem_startMoves_L2 (K2 : Int32 → xS → Prop) (Q : xS → Prop) (x1 : Int32) (σ : xS) : Prop :=
  ((640 ≤ x1 → Q σ) ∧ (¬ 640 ≤ x1 → (vp_in x1 640 ∧ (∀ z3 : Int32, z3 = x1 + 1 → K2 z3 (xu σ 10 x1.toNatClampNeg x1)))))
def p_Mem_startMoves_L2 (Q : xS → Prop) (n : Nat) : Int32 → xS → Prop := Nat.rec (motive := fun _ => Int32 → xS → Prop) (fun _ _ => False) (fun _ K x1 σ => b_Mem_startMoves_L2 K Q x1 σ) n
def p_Mem_startMoves (σ : xS) (Q : xS → Prop) : Prop :=
  (∃ n, p_Mem_startMoves_L2 Q n 0 σ)
abbrev rm_Mem_startMoves : Room := { frames := 0, cells := 0, slots := 0, locals := 0 }
theorem d_Mem_startMoves_0 : decode cd_Mem_startMoves 0 = .ok (.iconst 0, 1) := by decide +kernel
theorem d_Mem_startMoves_1 : decode cd_Mem_startMoves 1 = .ok (.istore_n 1, 1) := by decide +kernel
theorem d_Mem_startMoves_2 : decode cd_Mem_startMoves 2 = .ok (.iload_n 1, 1) := by decide +kernel
theorem d_Mem_startMoves_3 : decode cd_Mem_startMoves 3 = .ok (.sipush 640, 3) := by decide +kernel
theorem d_Mem_startMoves_6 : decode cd_Mem_startMoves 6 = .ok (.if_icmp .ge 16, 3) := by decide +kernel
theorem d_Mem_startMoves_9 : decode cd_Mem_startMoves 9 = .ok (.aload_n 0, 1) := by decide +kernel
theorem d_Mem_startMoves_10 : decode cd_Mem_startMoves 10 = .ok (.getfield 44, 3) := by decide +kernel
theorem d_Mem_startMoves_13 : decode cd_Mem_startMoves 13 = .ok (.iload_n 1, 1) := by decide +kernel
theorem d_Mem_startMoves_14 : decode cd_Mem_startMoves 14 = .ok (.iload_n 1, 1) := by decide +kernel
theorem d_Mem_startMoves_15 : decode cd_Mem_startMoves 15 = .ok (.iastore, 1) := by decide +kernel
theorem d_Mem_startMoves_16 : decode cd_Mem_startMoves 16 = .ok (.iinc 1 1, 3) := by decide +kernel
theorem d_Mem_startMoves_19 : decode cd_Mem_startMoves 19 = .ok (.goto (-17), 3) := by decide +kernel
theorem d_Mem_startMoves_22 : decode cd_Mem_startMoves 22 = .ok (.return_, 1) := by decide +kernel
set_option maxRecDepth 100000 in
set_option maxHeartbeats 4000000 in
theorem s_Mem_startMoves_L2 {p : Program} {l : Launch} {e : Env} {s : State} {m : MethodId} {args : Array Value} {below : List Frame} {meth : Method} {c : Code} {V : xV} (C : xC p s m args c cd_Mem_startMoves 2 R_Mem V) (hlocks : meth.locks = false) (hr : meth.sig.returnType = none) {Q : xS → Prop} {K2 : Int32 → xS → Prop} (hK2 : ∀ (x1 : Int32) (σ : xS) (H : Heap) (locs : List Loc) (ls : Array Slot), K2 x1 σ → xI V s.heap σ H locs → lv_has ls 2 [(0, .ref (V.2.2 1)), (1, .int x1)] → W p l e rm_Mem_startMoves s m args below meth c H locs 0 0 (xZv below V args s Q) (F0 m 2 ls [])) {x1 : Int32} {σ : xS} {H : Heap} {locs : List Loc} {ls : Array Slot} (h : b_Mem_startMoves_L2 K2 Q x1 σ) (hI : xI V s.heap σ H locs) (hl : lv_has ls 2 [(0, .ref (V.2.2 1)), (1, .int x1)]) : W p l e rm_Mem_startMoves s m args below meth c H locs 0 0 (xZv below V args s Q) (F0 m 2 ls []) := by
  have hx := C.1
  have hb := C.2.1
  unfold b_Mem_startMoves_L2 at h
  refine lv_iload_n hx hb d_Mem_startMoves_2 rfl (lv_at hl 1 rfl) ?_
  refine lv_sipush (v := 640) hx hb d_Mem_startMoves_3 (by decide) ?_
  refine lv_icmp_ge (tgt := 22) hx hb d_Mem_startMoves_6 (by decide) (fun c1 => ?_) (fun c1 => ?_)
  · have h := h.1 c1
    exact x_vret C hlocks hr hI h d_Mem_startMoves_22
  · have h := h.2 c1
    refine lv_aload_n hx hb d_Mem_startMoves_9 rfl (lv_at hl 0 rfl) ?_
    refine x_get C hI (d := 1) (by decide) (xE1 V _) fd_Mem_44 rfl d_Mem_startMoves_10 ?_
    refine lv_iload_n hx hb d_Mem_startMoves_13 rfl (lv_at hl 1 rfl) ?_
    refine lv_iload_n hx hb d_Mem_startMoves_14 rfl (lv_at hl 1 rfl) ?_
    obtain ⟨i2, h⟩ := h
    refine x_iast C hI (d := 10) (by decide) (xE10 V) i2 d_Mem_startMoves_15 (fun H locs hI => ?_)
    obtain ⟨z3, ez3⟩ : ∃ y : Int32, y = x1 + 1 := ⟨_, rfl⟩
    have h := h z3 ez3
    refine lv_iinc (v := z3) (lv' := [(1, .int z3), (0, .ref (V.2.2 1))]) hx hb d_Mem_startMoves_16 hl (k := 1) rfl (by rw [ez3]; rfl) (by decide) rfl (fun ls hl => ?_)
    refine lv_goto (tgt := 2) hx hb d_Mem_startMoves_19 (by decide) ?_
    exact hK2 _ _ _ _ _ h hI (lv_sub hl [1, 0] rfl)
theorem w_Mem_startMoves_L2 {p : Program} {l : Launch} {e : Env} {s : State} {m : MethodId} {args : Array Value} {below : List Frame} {meth : Method} {c : Code} {V : xV} (C : xC p s m args c cd_Mem_startMoves 2 R_Mem V) (hlocks : meth.locks = false) (hr : meth.sig.returnType = none) {Q : xS → Prop} : ∀ (n : Nat) (x1 : Int32) (σ : xS) (H : Heap) (locs : List Loc) (ls : Array Slot), p_Mem_startMoves_L2 Q n x1 σ → xI V s.heap σ H locs → lv_has ls 2 [(0, .ref (V.2.2 1)), (1, .int x1)] → W p l e rm_Mem_startMoves s m args below meth c H locs 0 0 (xZv below V args s Q) (F0 m 2 ls []) := by
  intro n
  induction n with
  | zero =>
    intro x1 σ H locs ls h
    exact False.elim h
  | succ n ih =>
    intro x1 σ H locs ls h hI hl
    exact s_Mem_startMoves_L2 C hlocks hr (K2 := p_Mem_startMoves_L2 Q n) (fun x1 σ H locs ls h hI hl => ih x1 σ H locs ls h hI hl) h hI hl
set_option maxRecDepth 100000 in
set_option maxHeartbeats 4000000 in
theorem c_Mem_startMoves {l : Launch} {V : xV} {σ : xS} {Q : xS → Prop} (h : p_Mem_startMoves σ Q) : xMv l y_Mem_startMoves (.code y_Mem_startMoves cd_Mem_startMoves 2 none :: xG) rm_Mem_startMoves V [.ref (V.2.2 1)] σ Q := by
  refine x_beginv (by decide) (Nat.le_of_ble_eq_true rfl) (fun p e s m below meth c ls C hlocks hr hI hl => ?_)
  have C : xC p s m _ c cd_Mem_startMoves 2 R_Mem V := C
  have hx := C.1
  have hb := C.2.1
  have hl : lv_has ls 2 [(0, .ref (V.2.2 1))] := hl
  unfold p_Mem_startMoves at h
  refine lv_iconst (v := 0) hx hb d_Mem_startMoves_0 (by decide) ?_
  refine lv_istore_n (lv' := [(1, .int 0), (0, .ref (V.2.2 1))]) hx hb d_Mem_startMoves_1 rfl hl (by decide) rfl (fun ls hl => ?_)
  obtain ⟨n, h⟩ := h
  exact w_Mem_startMoves_L2 C hlocks hr n _ _ _ _ _ h hI (lv_sub hl [1, 0] rfl)
def y_Mem_noteMove : MethodName := ⟨"RegionPool$Memory", "noteMove", "(II)V"⟩
abbrev cd_Mem_noteMove : ByteArray := prog_7_method_8_code
def p_Mem_noteMove (x1 x2 : Int32) (σ : xS) (Q : xS → Prop) : Prop :=
  (vp_in x1 640 ∧ Q (xu σ 10 x1.toNatClampNeg x2))
abbrev rm_Mem_noteMove : Room := { frames := 0, cells := 0, slots := 0, locals := 0 }
theorem d_Mem_noteMove_0 : decode cd_Mem_noteMove 0 = .ok (.aload_n 0, 1) := by decide +kernel
theorem d_Mem_noteMove_1 : decode cd_Mem_noteMove 1 = .ok (.getfield 44, 3) := by decide +kernel
theorem d_Mem_noteMove_4 : decode cd_Mem_noteMove 4 = .ok (.iload_n 1, 1) := by decide +kernel
theorem d_Mem_noteMove_5 : decode cd_Mem_noteMove 5 = .ok (.iload_n 2, 1) := by decide +kernel
theorem d_Mem_noteMove_6 : decode cd_Mem_noteMove 6 = .ok (.iastore, 1) := by decide +kernel
theorem d_Mem_noteMove_7 : decode cd_Mem_noteMove 7 = .ok (.return_, 1) := by decide +kernel
set_option maxRecDepth 100000 in
set_option maxHeartbeats 4000000 in
theorem c_Mem_noteMove {l : Launch} {V : xV} {σ : xS} {x1 x2 : Int32} {Q : xS → Prop} (h : p_Mem_noteMove x1 x2 σ Q) : xMv l y_Mem_noteMove (.code y_Mem_noteMove cd_Mem_noteMove 3 none :: xG) rm_Mem_noteMove V [.ref (V.2.2 1), .int x1, .int x2] σ Q := by
  refine x_beginv (by decide) (Nat.le_of_ble_eq_true rfl) (fun p e s m below meth c ls C hlocks hr hI hl => ?_)
  have C : xC p s m _ c cd_Mem_noteMove 3 R_Mem V := C
  have hx := C.1
  have hb := C.2.1
  have hl : lv_has ls 3 [(0, .ref (V.2.2 1)), (1, .int x1), (2, .int x2)] := hl
  unfold p_Mem_noteMove at h
  refine lv_aload_n hx hb d_Mem_noteMove_0 rfl (lv_at hl 0 rfl) ?_
  refine x_get C hI (d := 1) (by decide) (xE1 V _) fd_Mem_44 rfl d_Mem_noteMove_1 ?_
  refine lv_iload_n hx hb d_Mem_noteMove_4 rfl (lv_at hl 1 rfl) ?_
  refine lv_iload_n hx hb d_Mem_noteMove_5 rfl (lv_at hl 2 rfl) ?_
  obtain ⟨i1, h⟩ := h
  refine x_iast C hI (d := 10) (by decide) (xE10 V) i1 d_Mem_noteMove_6 (fun H locs hI => ?_)
  exact x_vret C hlocks hr hI h d_Mem_noteMove_7
def y_Mem_newPlaceOf : MethodName := ⟨"RegionPool$Memory", "newPlaceOf", "(I)I"⟩
abbrev cd_Mem_newPlaceOf : ByteArray := prog_7_method_9_code
def p_Mem_newPlaceOf (x1 : Int32) (σ : xS) (Q : Int32 → xS → Prop) : Prop :=
  (vp_in x1 640 ∧ Q (σ 10 x1.toNatClampNeg) σ)
abbrev rm_Mem_newPlaceOf : Room := { frames := 0, cells := 0, slots := 0, locals := 0 }
theorem d_Mem_newPlaceOf_0 : decode cd_Mem_newPlaceOf 0 = .ok (.aload_n 0, 1) := by decide +kernel
theorem d_Mem_newPlaceOf_1 : decode cd_Mem_newPlaceOf 1 = .ok (.getfield 44, 3) := by decide +kernel
theorem d_Mem_newPlaceOf_4 : decode cd_Mem_newPlaceOf 4 = .ok (.iload_n 1, 1) := by decide +kernel
theorem d_Mem_newPlaceOf_5 : decode cd_Mem_newPlaceOf 5 = .ok (.iaload, 1) := by decide +kernel
theorem d_Mem_newPlaceOf_6 : decode cd_Mem_newPlaceOf 6 = .ok (.ireturn, 1) := by decide +kernel
set_option maxRecDepth 100000 in
set_option maxHeartbeats 4000000 in
theorem c_Mem_newPlaceOf {l : Launch} {V : xV} {σ : xS} {x1 : Int32} {Q : Int32 → xS → Prop} (h : p_Mem_newPlaceOf x1 σ Q) : xMi l y_Mem_newPlaceOf (.code y_Mem_newPlaceOf cd_Mem_newPlaceOf 2 (some .int) :: xG) rm_Mem_newPlaceOf V [.ref (V.2.2 1), .int x1] σ Q := by
  refine x_begini (by decide) (Nat.le_of_ble_eq_true rfl) (fun p e s m below meth c ls C hlocks hr hI hl => ?_)
  have C : xC p s m _ c cd_Mem_newPlaceOf 2 R_Mem V := C
  have hx := C.1
  have hb := C.2.1
  have hl : lv_has ls 2 [(0, .ref (V.2.2 1)), (1, .int x1)] := hl
  unfold p_Mem_newPlaceOf at h
  refine lv_aload_n hx hb d_Mem_newPlaceOf_0 rfl (lv_at hl 0 rfl) ?_
  refine x_get C hI (d := 1) (by decide) (xE1 V _) fd_Mem_44 rfl d_Mem_newPlaceOf_1 ?_
  refine lv_iload_n hx hb d_Mem_newPlaceOf_4 rfl (lv_at hl 1 rfl) ?_
  obtain ⟨i1, h⟩ := h
  refine x_iald C hI (d := 10) (by decide) (xE10 V) i1 d_Mem_newPlaceOf_5 ?_
  exact x_iret C hlocks hr hI h d_Mem_newPlaceOf_6
def y_Mem_followAllMoves : MethodName := ⟨"RegionPool$Memory", "followAllMoves", "()V"⟩
abbrev cd_Mem_followAllMoves : ByteArray := prog_7_method_11_code
theorem yw_Val_follow : xY y_Val_follow cd_Val_follow 3 none 1 := ⟨xG_mem 674 (by decide +kernel) (by decide +kernel), xG_mem 675 (by decide +kernel) (by decide +kernel), xG_mem 56 (by decide +kernel) (by decide +kernel), xG_mem 676 (by decide +kernel) (by decide +kernel), by decide, by decide, by decide +kernel⟩
theorem ml_Mem_94 : Cond.methodLink R_Mem 94 y_Val_follow ∈ xG := xG_mem 673 (by decide +kernel) (by decide +kernel)
theorem fd_Mem_98 : xFd R_Mem 98 6 0 := ⟨R_Hea, T_Hea, 1, rfl, in_Hea, by decide, xG_mem 118 (by decide +kernel) (by decide +kernel)⟩
theorem yw_Lin_follow : xY y_Lin_follow cd_Lin_follow 3 none 1 := ⟨xG_mem 678 (by decide +kernel) (by decide +kernel), xG_mem 679 (by decide +kernel) (by decide +kernel), xG_mem 60 (by decide +kernel) (by decide +kernel), xG_mem 680 (by decide +kernel) (by decide +kernel), by decide, by decide, by decide +kernel⟩
theorem ml_Mem_101 : Cond.methodLink R_Mem 101 y_Lin_follow ∈ xG := xG_mem 677 (by decide +kernel) (by decide +kernel)
def p_Mem_followAllMoves (σ : xS) (Q : xS → Prop) : Prop :=
  p_Val_follow_5_10 σ (fun σ1 => p_Val_follow_19_10 σ1 (fun σ2 => p_Lin_follow_8_10 σ2 (fun σ3 => p_Lin_follow_9_10 σ3 (fun σ4 => Q σ4))))
abbrev rm_Mem_followAllMoves : Room := { frames := 1, cells := 0, slots := 0, locals := 22 }
theorem d_Mem_followAllMoves_0 : decode cd_Mem_followAllMoves 0 = .ok (.aload_n 0, 1) := by decide +kernel
theorem d_Mem_followAllMoves_1 : decode cd_Mem_followAllMoves 1 = .ok (.getfield 14, 3) := by decide +kernel
theorem d_Mem_followAllMoves_4 : decode cd_Mem_followAllMoves 4 = .ok (.aload_n 0, 1) := by decide +kernel
theorem d_Mem_followAllMoves_5 : decode cd_Mem_followAllMoves 5 = .ok (.getfield 44, 3) := by decide +kernel
theorem d_Mem_followAllMoves_8 : decode cd_Mem_followAllMoves 8 = .ok (.invokevirtual 94, 3) := by decide +kernel
theorem d_Mem_followAllMoves_11 : decode cd_Mem_followAllMoves 11 = .ok (.aload_n 0, 1) := by decide +kernel
theorem d_Mem_followAllMoves_12 : decode cd_Mem_followAllMoves 12 = .ok (.getfield 23, 3) := by decide +kernel
theorem d_Mem_followAllMoves_15 : decode cd_Mem_followAllMoves 15 = .ok (.getfield 98, 3) := by decide +kernel
theorem d_Mem_followAllMoves_18 : decode cd_Mem_followAllMoves 18 = .ok (.aload_n 0, 1) := by decide +kernel
theorem d_Mem_followAllMoves_19 : decode cd_Mem_followAllMoves 19 = .ok (.getfield 44, 3) := by decide +kernel
theorem d_Mem_followAllMoves_22 : decode cd_Mem_followAllMoves 22 = .ok (.invokevirtual 94, 3) := by decide +kernel
theorem d_Mem_followAllMoves_25 : decode cd_Mem_followAllMoves 25 = .ok (.aload_n 0, 1) := by decide +kernel
theorem d_Mem_followAllMoves_26 : decode cd_Mem_followAllMoves 26 = .ok (.getfield 37, 3) := by decide +kernel
theorem d_Mem_followAllMoves_29 : decode cd_Mem_followAllMoves 29 = .ok (.aload_n 0, 1) := by decide +kernel
theorem d_Mem_followAllMoves_30 : decode cd_Mem_followAllMoves 30 = .ok (.getfield 44, 3) := by decide +kernel
theorem d_Mem_followAllMoves_33 : decode cd_Mem_followAllMoves 33 = .ok (.invokevirtual 101, 3) := by decide +kernel
theorem d_Mem_followAllMoves_36 : decode cd_Mem_followAllMoves 36 = .ok (.aload_n 0, 1) := by decide +kernel
theorem d_Mem_followAllMoves_37 : decode cd_Mem_followAllMoves 37 = .ok (.getfield 41, 3) := by decide +kernel
theorem d_Mem_followAllMoves_40 : decode cd_Mem_followAllMoves 40 = .ok (.aload_n 0, 1) := by decide +kernel
theorem d_Mem_followAllMoves_41 : decode cd_Mem_followAllMoves 41 = .ok (.getfield 44, 3) := by decide +kernel
theorem d_Mem_followAllMoves_44 : decode cd_Mem_followAllMoves 44 = .ok (.invokevirtual 101, 3) := by decide +kernel
theorem d_Mem_followAllMoves_47 : decode cd_Mem_followAllMoves 47 = .ok (.return_, 1) := by decide +kernel
set_option maxRecDepth 100000 in
set_option maxHeartbeats 4000000 in
theorem c_Mem_followAllMoves {l : Launch} {V : xV} {σ : xS} {Q : xS → Prop} (h : p_Mem_followAllMoves σ Q) : xMv l y_Mem_followAllMoves (.code y_Mem_followAllMoves cd_Mem_followAllMoves 1 none :: xG) rm_Mem_followAllMoves V [.ref (V.2.2 1)] σ Q := by
  refine x_beginv (by decide) (Nat.le_of_ble_eq_true rfl) (fun p e s m below meth c ls C hlocks hr hI hl => ?_)
  have C : xC p s m _ c cd_Mem_followAllMoves 1 R_Mem V := C
  have hx := C.1
  have hb := C.2.1
  have hl : lv_has ls 1 [(0, .ref (V.2.2 1))] := hl
  unfold p_Mem_followAllMoves at h
  refine lv_aload_n hx hb d_Mem_followAllMoves_0 rfl (lv_at hl 0 rfl) ?_
  refine x_get C hI (d := 1) (by decide) (xE1 V _) fd_Mem_14 rfl d_Mem_followAllMoves_1 ?_
  refine lv_aload_n hx hb d_Mem_followAllMoves_4 rfl (lv_at hl 0 rfl) ?_
  refine x_get C hI (d := 1) (by decide) (xE1 V _) fd_Mem_44 rfl d_Mem_followAllMoves_5 ?_
  refine x_callv C hI hl.1 (d := 5) (As := [.ref (V.2.2 10)]) (rest := []) (by decide) (c_Val_follow_5_10 h) (xE5 V _) rfl yw_Val_follow ml_Mem_94 rfl rfl ⟨Nat.le_of_ble_eq_true rfl, Nat.le_of_ble_eq_true rfl⟩ rfl rfl (Nat.le_of_ble_eq_true rfl) d_Mem_followAllMoves_8 ⟨Nat.zero_le _, Nat.zero_le _⟩ (fun σ1 H locs h hI => ?_)
  refine lv_aload_n hx hb d_Mem_followAllMoves_11 rfl (lv_at hl 0 rfl) ?_
  refine x_get C hI (d := 1) (by decide) (xE1 V _) fd_Mem_23 rfl d_Mem_followAllMoves_12 ?_
  refine x_get C hI (d := 6) (by decide) (xE6 V _) fd_Mem_98 rfl d_Mem_followAllMoves_15 ?_
  refine lv_aload_n hx hb d_Mem_followAllMoves_18 rfl (lv_at hl 0 rfl) ?_
  refine x_get C hI (d := 1) (by decide) (xE1 V _) fd_Mem_44 rfl d_Mem_followAllMoves_19 ?_
  refine x_callv C hI hl.1 (d := 19) (As := [.ref (V.2.2 10)]) (rest := []) (by decide) (c_Val_follow_19_10 h) (xE19 V _) rfl yw_Val_follow ml_Mem_94 rfl rfl ⟨Nat.le_of_ble_eq_true rfl, Nat.le_of_ble_eq_true rfl⟩ rfl rfl (Nat.le_of_ble_eq_true rfl) d_Mem_followAllMoves_22 ⟨Nat.zero_le _, Nat.zero_le _⟩ (fun σ2 H locs h hI => ?_)
  refine lv_aload_n hx hb d_Mem_followAllMoves_25 rfl (lv_at hl 0 rfl) ?_
  refine x_get C hI (d := 1) (by decide) (xE1 V _) fd_Mem_37 rfl d_Mem_followAllMoves_26 ?_
  refine lv_aload_n hx hb d_Mem_followAllMoves_29 rfl (lv_at hl 0 rfl) ?_
  refine x_get C hI (d := 1) (by decide) (xE1 V _) fd_Mem_44 rfl d_Mem_followAllMoves_30 ?_
  refine x_callv C hI hl.1 (d := 8) (As := [.ref (V.2.2 10)]) (rest := []) (by decide) (c_Lin_follow_8_10 h) (xE8 V _) rfl yw_Lin_follow ml_Mem_101 rfl rfl ⟨Nat.le_of_ble_eq_true rfl, Nat.le_of_ble_eq_true rfl⟩ rfl rfl (Nat.le_of_ble_eq_true rfl) d_Mem_followAllMoves_33 ⟨Nat.zero_le _, Nat.zero_le _⟩ (fun σ3 H locs h hI => ?_)
  refine lv_aload_n hx hb d_Mem_followAllMoves_36 rfl (lv_at hl 0 rfl) ?_
  refine x_get C hI (d := 1) (by decide) (xE1 V _) fd_Mem_41 rfl d_Mem_followAllMoves_37 ?_
  refine lv_aload_n hx hb d_Mem_followAllMoves_40 rfl (lv_at hl 0 rfl) ?_
  refine x_get C hI (d := 1) (by decide) (xE1 V _) fd_Mem_44 rfl d_Mem_followAllMoves_41 ?_
  refine x_callv C hI hl.1 (d := 9) (As := [.ref (V.2.2 10)]) (rest := []) (by decide) (c_Lin_follow_9_10 h) (xE9 V _) rfl yw_Lin_follow ml_Mem_101 rfl rfl ⟨Nat.le_of_ble_eq_true rfl, Nat.le_of_ble_eq_true rfl⟩ rfl rfl (Nat.le_of_ble_eq_true rfl) d_Mem_followAllMoves_44 ⟨Nat.zero_le _, Nat.zero_le _⟩ (fun σ4 H locs h hI => ?_)
  exact x_vret C hlocks hr hI h d_Mem_followAllMoves_47
def y_Mem_followMove : MethodName := ⟨"RegionPool$Memory", "followMove", "(LRegionPool$Values;I)V"⟩
abbrev cd_Mem_followMove : ByteArray := prog_7_method_10_code
theorem yw_Val_setReference : xY y_Val_setReference cd_Val_setReference 3 none 2 := ⟨xG_mem 768 (by decide +kernel) (by decide +kernel), xG_mem 769 (by decide +kernel) (by decide +kernel), xG_mem 56 (by decide +kernel) (by decide +kernel), xG_mem 770 (by decide +kernel) (by decide +kernel), by decide, by decide, by decide +kernel⟩
theorem ml_Mem_90 : Cond.methodLink R_Mem 90 y_Val_setReference ∈ xG := xG_mem 891 (by decide +kernel) (by decide +kernel)
def p_Mem_followMove_1_5 (x2 : Int32) (σ : xS) (Q : xS → Prop) : Prop :=
  p_Val_isReference_5 x2 σ (fun r2 σ1 => ((r2 = 0 → Q σ1) ∧ (¬ r2 = 0 → p_Val_contentOf_5 x2 σ1 (fun r5 σ4 => (vp_in r5 640 ∧ p_Val_setReference_5 x2 (σ4 10 r5.toNatClampNeg) σ4 (fun σ7 => Q σ7))))))
abbrev rm_Mem_followMove_1_5 : Room := { frames := 2, cells := 0, slots := 0, locals := 45 }
theorem d_Mem_followMove_0 : decode cd_Mem_followMove 0 = .ok (.aload_n 1, 1) := by decide +kernel
theorem d_Mem_followMove_1 : decode cd_Mem_followMove 1 = .ok (.iload_n 2, 1) := by decide +kernel
theorem d_Mem_followMove_2 : decode cd_Mem_followMove 2 = .ok (.invokevirtual 48, 3) := by decide +kernel
theorem d_Mem_followMove_5 : decode cd_Mem_followMove 5 = .ok (.ifCond .eq 18, 3) := by decide +kernel
theorem d_Mem_followMove_8 : decode cd_Mem_followMove 8 = .ok (.aload_n 1, 1) := by decide +kernel
theorem d_Mem_followMove_9 : decode cd_Mem_followMove 9 = .ok (.iload_n 2, 1) := by decide +kernel
theorem d_Mem_followMove_10 : decode cd_Mem_followMove 10 = .ok (.aload_n 0, 1) := by decide +kernel
theorem d_Mem_followMove_11 : decode cd_Mem_followMove 11 = .ok (.getfield 44, 3) := by decide +kernel
theorem d_Mem_followMove_14 : decode cd_Mem_followMove 14 = .ok (.aload_n 1, 1) := by decide +kernel
theorem d_Mem_followMove_15 : decode cd_Mem_followMove 15 = .ok (.iload_n 2, 1) := by decide +kernel
theorem d_Mem_followMove_16 : decode cd_Mem_followMove 16 = .ok (.invokevirtual 52, 3) := by decide +kernel
theorem d_Mem_followMove_19 : decode cd_Mem_followMove 19 = .ok (.iaload, 1) := by decide +kernel
theorem d_Mem_followMove_20 : decode cd_Mem_followMove 20 = .ok (.invokevirtual 90, 3) := by decide +kernel
theorem d_Mem_followMove_23 : decode cd_Mem_followMove 23 = .ok (.return_, 1) := by decide +kernel
set_option maxRecDepth 100000 in
set_option maxHeartbeats 4000000 in
theorem c_Mem_followMove_1_5 {l : Launch} {V : xV} {σ : xS} {x2 : Int32} {Q : xS → Prop} (h : p_Mem_followMove_1_5 x2 σ Q) : xMv l y_Mem_followMove (.code y_Mem_followMove cd_Mem_followMove 3 none :: xG) rm_Mem_followMove_1_5 V [.ref (V.2.2 1), .ref (V.2.2 5), .int x2] σ Q := by
  refine x_beginv (by decide) (Nat.le_of_ble_eq_true rfl) (fun p e s m below meth c ls C hlocks hr hI hl => ?_)
  have C : xC p s m _ c cd_Mem_followMove 3 R_Mem V := C
  have hx := C.1
  have hb := C.2.1
  have hl : lv_has ls 3 [(0, .ref (V.2.2 1)), (1, .ref (V.2.2 5)), (2, .int x2)] := hl
  unfold p_Mem_followMove_1_5 at h
  refine lv_aload_n hx hb d_Mem_followMove_0 rfl (lv_at hl 1 rfl) ?_
  refine lv_iload_n hx hb d_Mem_followMove_1 rfl (lv_at hl 2 rfl) ?_
  refine x_calli C hI hl.1 (d := 5) (As := [.int x2]) (rest := []) (by decide) (c_Val_isReference_5 h) (xE5 V _) rfl yw_Val_isReference ml_Mem_48 rfl rfl ⟨Nat.le_of_ble_eq_true rfl, Nat.le_of_ble_eq_true rfl⟩ rfl rfl (Nat.le_of_ble_eq_true rfl) d_Mem_followMove_2 ⟨Nat.zero_le _, Nat.zero_le _⟩ (fun r2 σ1 H locs h hI => ?_)
  refine lv_if_eq (tgt := 23) hx hb d_Mem_followMove_5 (by decide) (fun c3 => ?_) (fun c3 => ?_)
  · have h := h.1 c3
    exact x_vret C hlocks hr hI h d_Mem_followMove_23
  · have h := h.2 c3
    refine lv_aload_n hx hb d_Mem_followMove_8 rfl (lv_at hl 1 rfl) ?_
    refine lv_iload_n hx hb d_Mem_followMove_9 rfl (lv_at hl 2 rfl) ?_
    refine lv_aload_n hx hb d_Mem_followMove_10 rfl (lv_at hl 0 rfl) ?_
    refine x_get C hI (d := 1) (by decide) (xE1 V _) fd_Mem_44 rfl d_Mem_followMove_11 ?_
    refine lv_aload_n hx hb d_Mem_followMove_14 rfl (lv_at hl 1 rfl) ?_
    refine lv_iload_n hx hb d_Mem_followMove_15 rfl (lv_at hl 2 rfl) ?_
    refine x_calli C hI hl.1 (d := 5) (As := [.int x2]) (rest := [.ref (V.2.2 10), .int x2, .ref (V.2.2 5)]) (by decide) (c_Val_contentOf_5 h) (xE5 V _) rfl yw_Val_contentOf ml_Mem_52 rfl rfl ⟨Nat.le_of_ble_eq_true rfl, Nat.le_of_ble_eq_true rfl⟩ rfl rfl (Nat.le_of_ble_eq_true rfl) d_Mem_followMove_16 ⟨Nat.zero_le _, Nat.zero_le _⟩ (fun r5 σ4 H locs h hI => ?_)
    obtain ⟨i6, h⟩ := h
    refine x_iald C hI (d := 10) (by decide) (xE10 V) i6 d_Mem_followMove_19 ?_
    refine x_callv C hI hl.1 (d := 5) (As := [.int x2, .int (σ4 10 r5.toNatClampNeg)]) (rest := []) (by decide) (c_Val_setReference_5 h) (xE5 V _) rfl yw_Val_setReference ml_Mem_90 rfl rfl ⟨Nat.le_of_ble_eq_true rfl, Nat.le_of_ble_eq_true rfl⟩ rfl rfl (Nat.le_of_ble_eq_true rfl) d_Mem_followMove_20 ⟨Nat.zero_le _, Nat.zero_le _⟩ (fun σ7 H locs h hI => ?_)
    exact x_vret C hlocks hr hI h d_Mem_followMove_23
def p_Mem_followMove_1_19 (x2 : Int32) (σ : xS) (Q : xS → Prop) : Prop :=
  p_Val_isReference_19 x2 σ (fun r2 σ1 => ((r2 = 0 → Q σ1) ∧ (¬ r2 = 0 → p_Val_contentOf_19 x2 σ1 (fun r5 σ4 => (vp_in r5 640 ∧ p_Val_setReference_19 x2 (σ4 10 r5.toNatClampNeg) σ4 (fun σ7 => Q σ7))))))
abbrev rm_Mem_followMove_1_19 : Room := { frames := 2, cells := 0, slots := 0, locals := 45 }
set_option maxRecDepth 100000 in
set_option maxHeartbeats 4000000 in
theorem c_Mem_followMove_1_19 {l : Launch} {V : xV} {σ : xS} {x2 : Int32} {Q : xS → Prop} (h : p_Mem_followMove_1_19 x2 σ Q) : xMv l y_Mem_followMove (.code y_Mem_followMove cd_Mem_followMove 3 none :: xG) rm_Mem_followMove_1_19 V [.ref (V.2.2 1), .ref (V.2.2 19), .int x2] σ Q := by
  refine x_beginv (by decide) (Nat.le_of_ble_eq_true rfl) (fun p e s m below meth c ls C hlocks hr hI hl => ?_)
  have C : xC p s m _ c cd_Mem_followMove 3 R_Mem V := C
  have hx := C.1
  have hb := C.2.1
  have hl : lv_has ls 3 [(0, .ref (V.2.2 1)), (1, .ref (V.2.2 19)), (2, .int x2)] := hl
  unfold p_Mem_followMove_1_19 at h
  refine lv_aload_n hx hb d_Mem_followMove_0 rfl (lv_at hl 1 rfl) ?_
  refine lv_iload_n hx hb d_Mem_followMove_1 rfl (lv_at hl 2 rfl) ?_
  refine x_calli C hI hl.1 (d := 19) (As := [.int x2]) (rest := []) (by decide) (c_Val_isReference_19 h) (xE19 V _) rfl yw_Val_isReference ml_Mem_48 rfl rfl ⟨Nat.le_of_ble_eq_true rfl, Nat.le_of_ble_eq_true rfl⟩ rfl rfl (Nat.le_of_ble_eq_true rfl) d_Mem_followMove_2 ⟨Nat.zero_le _, Nat.zero_le _⟩ (fun r2 σ1 H locs h hI => ?_)
  refine lv_if_eq (tgt := 23) hx hb d_Mem_followMove_5 (by decide) (fun c3 => ?_) (fun c3 => ?_)
  · have h := h.1 c3
    exact x_vret C hlocks hr hI h d_Mem_followMove_23
  · have h := h.2 c3
    refine lv_aload_n hx hb d_Mem_followMove_8 rfl (lv_at hl 1 rfl) ?_
    refine lv_iload_n hx hb d_Mem_followMove_9 rfl (lv_at hl 2 rfl) ?_
    refine lv_aload_n hx hb d_Mem_followMove_10 rfl (lv_at hl 0 rfl) ?_
    refine x_get C hI (d := 1) (by decide) (xE1 V _) fd_Mem_44 rfl d_Mem_followMove_11 ?_
    refine lv_aload_n hx hb d_Mem_followMove_14 rfl (lv_at hl 1 rfl) ?_
    refine lv_iload_n hx hb d_Mem_followMove_15 rfl (lv_at hl 2 rfl) ?_
    refine x_calli C hI hl.1 (d := 19) (As := [.int x2]) (rest := [.ref (V.2.2 10), .int x2, .ref (V.2.2 19)]) (by decide) (c_Val_contentOf_19 h) (xE19 V _) rfl yw_Val_contentOf ml_Mem_52 rfl rfl ⟨Nat.le_of_ble_eq_true rfl, Nat.le_of_ble_eq_true rfl⟩ rfl rfl (Nat.le_of_ble_eq_true rfl) d_Mem_followMove_16 ⟨Nat.zero_le _, Nat.zero_le _⟩ (fun r5 σ4 H locs h hI => ?_)
    obtain ⟨i6, h⟩ := h
    refine x_iald C hI (d := 10) (by decide) (xE10 V) i6 d_Mem_followMove_19 ?_
    refine x_callv C hI hl.1 (d := 19) (As := [.int x2, .int (σ4 10 r5.toNatClampNeg)]) (rest := []) (by decide) (c_Val_setReference_19 h) (xE19 V _) rfl yw_Val_setReference ml_Mem_90 rfl rfl ⟨Nat.le_of_ble_eq_true rfl, Nat.le_of_ble_eq_true rfl⟩ rfl rfl (Nat.le_of_ble_eq_true rfl) d_Mem_followMove_20 ⟨Nat.zero_le _, Nat.zero_le _⟩ (fun σ7 H locs h hI => ?_)
    exact x_vret C hlocks hr hI h d_Mem_followMove_23
