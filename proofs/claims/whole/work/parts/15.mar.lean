def y_Mar_refersToDead : MethodName := ⟨"RegionPool$Marker", "refersToDead", "(I)Z"⟩
abbrev cd_Mar_refersToDead : ByteArray := prog_6_method_3_code
theorem fd_Mar_9 : xFd R_Mar 9 9 0 := ⟨R_Mar, T_Mar, 4, rfl, in_Mar, by decide, xG_mem 207 (by decide +kernel) (by decide +kernel)⟩
theorem fd_Mar_27 : xFd R_Mar 27 1 1 := ⟨R_Mem, T_Mem, 6, rfl, in_Mem, by decide, xG_mem 166 (by decide +kernel) (by decide +kernel)⟩
theorem fd_Mar_33 : xFd R_Mar 33 6 0 := ⟨R_Hea, T_Hea, 1, rfl, in_Hea, by decide, xG_mem 113 (by decide +kernel) (by decide +kernel)⟩
theorem ml_Mar_39 : Cond.methodLink R_Mar 39 y_Val_isReference ∈ xG := xG_mem 549 (by decide +kernel) (by decide +kernel)
theorem ml_Mar_45 : Cond.methodLink R_Mar 45 y_Val_contentOf ∈ xG := xG_mem 550 (by decide +kernel) (by decide +kernel)
def p_Mar_refersToDead (x1 : Int32) (σ : xS) (Q : Int32 → xS → Prop) : Prop :=
  p_Val_isReference_19 x1 σ (fun r2 σ1 => ((r2 = 0 → Q 0 σ1) ∧ (¬ r2 = 0 → p_Val_contentOf_19 x1 σ1 (fun r5 σ4 => (vp_in r5 640 ∧ ((¬ (σ4 26 r5.toNatClampNeg) = 0 → Q 0 σ4) ∧ ((σ4 26 r5.toNatClampNeg) = 0 → Q 1 σ4)))))))
abbrev rm_Mar_refersToDead : Room := { frames := 1, cells := 0, slots := 0, locals := 21 }
theorem d_Mar_refersToDead_0 : decode cd_Mar_refersToDead 0 = .ok (.aload_n 0, 1) := by decide +kernel
theorem d_Mar_refersToDead_1 : decode cd_Mar_refersToDead 1 = .ok (.getfield 9, 3) := by decide +kernel
theorem d_Mar_refersToDead_4 : decode cd_Mar_refersToDead 4 = .ok (.getfield 27, 3) := by decide +kernel
theorem d_Mar_refersToDead_7 : decode cd_Mar_refersToDead 7 = .ok (.getfield 33, 3) := by decide +kernel
theorem d_Mar_refersToDead_10 : decode cd_Mar_refersToDead 10 = .ok (.astore_n 2, 1) := by decide +kernel
theorem d_Mar_refersToDead_11 : decode cd_Mar_refersToDead 11 = .ok (.aload_n 2, 1) := by decide +kernel
theorem d_Mar_refersToDead_12 : decode cd_Mar_refersToDead 12 = .ok (.iload_n 1, 1) := by decide +kernel
theorem d_Mar_refersToDead_13 : decode cd_Mar_refersToDead 13 = .ok (.invokevirtual 39, 3) := by decide +kernel
theorem d_Mar_refersToDead_16 : decode cd_Mar_refersToDead 16 = .ok (.ifCond .eq 20, 3) := by decide +kernel
theorem d_Mar_refersToDead_19 : decode cd_Mar_refersToDead 19 = .ok (.aload_n 0, 1) := by decide +kernel
theorem d_Mar_refersToDead_20 : decode cd_Mar_refersToDead 20 = .ok (.getfield 15, 3) := by decide +kernel
theorem d_Mar_refersToDead_23 : decode cd_Mar_refersToDead 23 = .ok (.aload_n 2, 1) := by decide +kernel
theorem d_Mar_refersToDead_24 : decode cd_Mar_refersToDead 24 = .ok (.iload_n 1, 1) := by decide +kernel
theorem d_Mar_refersToDead_25 : decode cd_Mar_refersToDead 25 = .ok (.invokevirtual 45, 3) := by decide +kernel
theorem d_Mar_refersToDead_28 : decode cd_Mar_refersToDead 28 = .ok (.baload, 1) := by decide +kernel
theorem d_Mar_refersToDead_29 : decode cd_Mar_refersToDead 29 = .ok (.ifCond .ne 7, 3) := by decide +kernel
theorem d_Mar_refersToDead_32 : decode cd_Mar_refersToDead 32 = .ok (.iconst 1, 1) := by decide +kernel
theorem d_Mar_refersToDead_33 : decode cd_Mar_refersToDead 33 = .ok (.goto 4, 3) := by decide +kernel
theorem d_Mar_refersToDead_36 : decode cd_Mar_refersToDead 36 = .ok (.iconst 0, 1) := by decide +kernel
theorem d_Mar_refersToDead_37 : decode cd_Mar_refersToDead 37 = .ok (.ireturn, 1) := by decide +kernel
set_option maxRecDepth 100000 in
set_option maxHeartbeats 4000000 in
theorem c_Mar_refersToDead {l : Launch} {V : xV} {σ : xS} {x1 : Int32} {Q : Int32 → xS → Prop} (h : p_Mar_refersToDead x1 σ Q) : xMi l y_Mar_refersToDead (.code y_Mar_refersToDead cd_Mar_refersToDead 3 (some .boolean) :: xG) rm_Mar_refersToDead V [.ref (V.2.2 11), .int x1] σ Q := by
  refine x_begini (by decide) (Nat.le_of_ble_eq_true rfl) (fun p e s m below meth c ls C hlocks hr hI hl => ?_)
  have C : xC p s m _ c cd_Mar_refersToDead 3 R_Mar V := C
  have hx := C.1
  have hb := C.2.1
  have hl : lv_has ls 3 [(0, .ref (V.2.2 11)), (1, .int x1)] := hl
  unfold p_Mar_refersToDead at h
  refine lv_aload_n hx hb d_Mar_refersToDead_0 rfl (lv_at hl 0 rfl) ?_
  refine x_get C hI (d := 11) (by decide) (xE11 V _) fd_Mar_9 rfl d_Mar_refersToDead_1 ?_
  refine x_get C hI (d := 1) (by decide) (xE1 V _) fd_Mar_27 rfl d_Mar_refersToDead_4 ?_
  refine x_get C hI (d := 6) (by decide) (xE6 V _) fd_Mar_33 rfl d_Mar_refersToDead_7 ?_
  refine lv_astore_n (lv' := [(2, .ref (V.2.2 19)), (0, .ref (V.2.2 11)), (1, .int x1)]) hx hb d_Mar_refersToDead_10 rfl hl (by decide) rfl (fun ls hl => ?_)
  refine lv_aload_n hx hb d_Mar_refersToDead_11 rfl (lv_at hl 0 rfl) ?_
  refine lv_iload_n hx hb d_Mar_refersToDead_12 rfl (lv_at hl 2 rfl) ?_
  refine x_calli C hI hl.1 (d := 19) (As := [.int x1]) (rest := []) (by decide) (c_Val_isReference_19 h) (xE19 V _) rfl yw_Val_isReference ml_Mar_39 rfl rfl ⟨Nat.le_of_ble_eq_true rfl, Nat.le_of_ble_eq_true rfl⟩ rfl rfl (Nat.le_of_ble_eq_true rfl) d_Mar_refersToDead_13 ⟨Nat.zero_le _, Nat.zero_le _⟩ (fun r2 σ1 H locs h hI => ?_)
  refine lv_if_eq (tgt := 36) hx hb d_Mar_refersToDead_16 (by decide) (fun c3 => ?_) (fun c3 => ?_)
  · have h := h.1 c3
    refine lv_iconst (v := 0) hx hb d_Mar_refersToDead_36 (by decide) ?_
    exact x_zret C hlocks hr hI ⟨rfl, h⟩ d_Mar_refersToDead_37
  · have h := h.2 c3
    refine lv_aload_n hx hb d_Mar_refersToDead_19 rfl (lv_at hl 1 rfl) ?_
    refine x_get C hI (d := 11) (by decide) (xE11 V _) fd_Mar_15 rfl d_Mar_refersToDead_20 ?_
    refine lv_aload_n hx hb d_Mar_refersToDead_23 rfl (lv_at hl 0 rfl) ?_
    refine lv_iload_n hx hb d_Mar_refersToDead_24 rfl (lv_at hl 2 rfl) ?_
    refine x_calli C hI hl.1 (d := 19) (As := [.int x1]) (rest := [.ref (V.2.2 26)]) (by decide) (c_Val_contentOf_19 h) (xE19 V _) rfl yw_Val_contentOf ml_Mar_45 rfl rfl ⟨Nat.le_of_ble_eq_true rfl, Nat.le_of_ble_eq_true rfl⟩ rfl rfl (Nat.le_of_ble_eq_true rfl) d_Mar_refersToDead_25 ⟨Nat.zero_le _, Nat.zero_le _⟩ (fun r5 σ4 H locs h hI => ?_)
    obtain ⟨i6, h⟩ := h
    refine x_zald C hI (d := 26) (by decide) (xE26 V) i6 d_Mar_refersToDead_28 ?_
    refine lv_if_ne (tgt := 36) hx hb d_Mar_refersToDead_29 (by decide) (fun c7 => ?_) (fun c7 => ?_)
    · have h := h.1 c7
      refine lv_iconst (v := 0) hx hb d_Mar_refersToDead_36 (by decide) ?_
      exact x_zret C hlocks hr hI ⟨rfl, h⟩ d_Mar_refersToDead_37
    · have h := h.2 c7
      refine lv_iconst (v := 1) hx hb d_Mar_refersToDead_32 (by decide) ?_
      refine lv_goto (tgt := 37) hx hb d_Mar_refersToDead_33 (by decide) ?_
      exact x_zret C hlocks hr hI ⟨rfl, h⟩ d_Mar_refersToDead_37
def y_Mar_start : MethodName := ⟨"RegionPool$Marker", "start", "(I)V"⟩
abbrev cd_Mar_start : ByteArray := prog_6_method_4_code
theorem fw_Mar_23 : xFw R_Mar 23 9 3 := ⟨R_Mar, T_Mar, 4, t_Mar, rfl, in_Mar, by decide, xG_mem 210 (by decide +kernel) (by decide +kernel), tk_Mar, nm_Mar, rfl, by decide +kernel⟩
theorem xP_11_3 (V : xV) (f : Nat → Int32) (x : Int32) : xE V 11 (upd f 3 x) = .inr (9, [.ref (V.2.2 1), .ref (V.2.2 26), .ref (V.2.2 27), .int (f 3)].set 3 (.int x)) := rfl
theorem ml_Mar_49 : Cond.methodLink R_Mar 49 y_Hea_isObject ∈ xG := xG_mem 543 (by decide +kernel) (by decide +kernel)
theorem fd_Mar_52 : xFd R_Mar 52 1 2 := ⟨R_Mem, T_Mem, 6, rfl, in_Mem, by decide, xG_mem 172 (by decide +kernel) (by decide +kernel)⟩
theorem ml_Mar_56 : Cond.methodLink R_Mar 56 y_Reg_ofPlace ∈ xG := xG_mem 544 (by decide +kernel) (by decide +kernel)
def b_Mar_start_L2 (K2 : Int32 → Int32 → xS → Prop) (Q : xS → Prop) (x1 x2 : Int32) (σ : xS) : Prop :=
  ((640 ≤ x2 → Q (xu σ 11 3 0)) ∧ (¬ 640 ≤ x2 → p_Hea_isObject x2 σ (fun r3 σ2 => ((r3 = 0 → (vp_in x2 640 ∧ (∀ z6 : Int32, z6 = x2 + 1 → K2 x1 z6 (xu σ2 26 x2.toNatClampNeg (vp_nar .boolean 0))))) ∧ (¬ r3 = 0 → p_Reg_ofPlace x2 σ2 (fun r8 σ7 => ((x1 ≤ r8 → (vp_in x2 640 ∧ (∀ z11 : Int32, z11 = x2 + 1 → K2 x1 z11 (xu σ7 26 x2.toNatClampNeg (vp_nar .boolean 0))))) ∧ (¬ x1 ≤ r8 → (vp_in x2 640 ∧ (∀ z13 : Int32, z13 = x2 + 1 → K2 x1 z13 (xu σ7 26 x2.toNatClampNeg (vp_nar .boolean 1))))))))))))
def p_Mar_start_L2 (Q : xS → Prop) (n : Nat) : Int32 → Int32 → xS → Prop := Nat.rec (motive := fun _ => Int32 → Int32 → xS → Prop) (fun _ _ _ => False) (fun _ K x1 x2 σ => b_Mar_start_L2 K Q x1 x2 σ) n
def p_Mar_start (x1 : Int32) (σ : xS) (Q : xS → Prop) : Prop :=
  (∃ n, p_Mar_start_L2 Q n x1 0 σ)
abbrev rm_Mar_start : Room := { frames := 2, cells := 0, slots := 0, locals := 42 }
theorem d_Mar_start_0 : decode cd_Mar_start 0 = .ok (.iconst 0, 1) := by decide +kernel
theorem d_Mar_start_1 : decode cd_Mar_start 1 = .ok (.istore_n 2, 1) := by decide +kernel
theorem d_Mar_start_2 : decode cd_Mar_start 2 = .ok (.iload_n 2, 1) := by decide +kernel
theorem d_Mar_start_3 : decode cd_Mar_start 3 = .ok (.sipush 640, 3) := by decide +kernel
theorem d_Mar_start_6 : decode cd_Mar_start 6 = .ok (.if_icmp .ge 49, 3) := by decide +kernel
theorem d_Mar_start_9 : decode cd_Mar_start 9 = .ok (.aload_n 0, 1) := by decide +kernel
theorem d_Mar_start_10 : decode cd_Mar_start 10 = .ok (.getfield 15, 3) := by decide +kernel
theorem d_Mar_start_13 : decode cd_Mar_start 13 = .ok (.iload_n 2, 1) := by decide +kernel
theorem d_Mar_start_14 : decode cd_Mar_start 14 = .ok (.aload_n 0, 1) := by decide +kernel
theorem d_Mar_start_15 : decode cd_Mar_start 15 = .ok (.getfield 9, 3) := by decide +kernel
theorem d_Mar_start_18 : decode cd_Mar_start 18 = .ok (.getfield 27, 3) := by decide +kernel
theorem d_Mar_start_21 : decode cd_Mar_start 21 = .ok (.iload_n 2, 1) := by decide +kernel
theorem d_Mar_start_22 : decode cd_Mar_start 22 = .ok (.invokevirtual 49, 3) := by decide +kernel
theorem d_Mar_start_25 : decode cd_Mar_start 25 = .ok (.ifCond .eq 22, 3) := by decide +kernel
theorem d_Mar_start_28 : decode cd_Mar_start 28 = .ok (.aload_n 0, 1) := by decide +kernel
theorem d_Mar_start_29 : decode cd_Mar_start 29 = .ok (.getfield 9, 3) := by decide +kernel
theorem d_Mar_start_32 : decode cd_Mar_start 32 = .ok (.getfield 52, 3) := by decide +kernel
theorem d_Mar_start_35 : decode cd_Mar_start 35 = .ok (.iload_n 2, 1) := by decide +kernel
theorem d_Mar_start_36 : decode cd_Mar_start 36 = .ok (.invokevirtual 56, 3) := by decide +kernel
theorem d_Mar_start_39 : decode cd_Mar_start 39 = .ok (.iload_n 1, 1) := by decide +kernel
theorem d_Mar_start_40 : decode cd_Mar_start 40 = .ok (.if_icmp .ge 7, 3) := by decide +kernel
theorem d_Mar_start_43 : decode cd_Mar_start 43 = .ok (.iconst 1, 1) := by decide +kernel
theorem d_Mar_start_44 : decode cd_Mar_start 44 = .ok (.goto 4, 3) := by decide +kernel
theorem d_Mar_start_47 : decode cd_Mar_start 47 = .ok (.iconst 0, 1) := by decide +kernel
theorem d_Mar_start_48 : decode cd_Mar_start 48 = .ok (.bastore, 1) := by decide +kernel
theorem d_Mar_start_49 : decode cd_Mar_start 49 = .ok (.iinc 2 1, 3) := by decide +kernel
theorem d_Mar_start_52 : decode cd_Mar_start 52 = .ok (.goto (-50), 3) := by decide +kernel
theorem d_Mar_start_55 : decode cd_Mar_start 55 = .ok (.aload_n 0, 1) := by decide +kernel
theorem d_Mar_start_56 : decode cd_Mar_start 56 = .ok (.iconst 0, 1) := by decide +kernel
theorem d_Mar_start_57 : decode cd_Mar_start 57 = .ok (.putfield 23, 3) := by decide +kernel
theorem d_Mar_start_60 : decode cd_Mar_start 60 = .ok (.return_, 1) := by decide +kernel
set_option maxRecDepth 100000 in
set_option maxHeartbeats 4000000 in
theorem s_Mar_start_L2 {p : Program} {l : Launch} {e : Env} {s : State} {m : MethodId} {args : Array Value} {below : List Frame} {meth : Method} {c : Code} {V : xV} (C : xC p s m args c cd_Mar_start 3 R_Mar V) (hlocks : meth.locks = false) (hr : meth.sig.returnType = none) {Q : xS → Prop} {K2 : Int32 → Int32 → xS → Prop} (hK2 : ∀ (x1 : Int32) (x2 : Int32) (σ : xS) (H : Heap) (locs : List Loc) (ls : Array Slot), K2 x1 x2 σ → xI V s.heap σ H locs → lv_has ls 3 [(0, .ref (V.2.2 11)), (1, .int x1), (2, .int x2)] → W p l e rm_Mar_start s m args below meth c H locs 0 0 (xZv below V args s Q) (F0 m 2 ls [])) {x1 x2 : Int32} {σ : xS} {H : Heap} {locs : List Loc} {ls : Array Slot} (h : b_Mar_start_L2 K2 Q x1 x2 σ) (hI : xI V s.heap σ H locs) (hl : lv_has ls 3 [(0, .ref (V.2.2 11)), (1, .int x1), (2, .int x2)]) : W p l e rm_Mar_start s m args below meth c H locs 0 0 (xZv below V args s Q) (F0 m 2 ls []) := by
  have hx := C.1
  have hb := C.2.1
  unfold b_Mar_start_L2 at h
  refine lv_iload_n hx hb d_Mar_start_2 rfl (lv_at hl 2 rfl) ?_
  refine lv_sipush (v := 640) hx hb d_Mar_start_3 (by decide) ?_
  refine lv_icmp_ge (tgt := 55) hx hb d_Mar_start_6 (by decide) (fun c1 => ?_) (fun c1 => ?_)
  · have h := h.1 c1
    refine lv_aload_n hx hb d_Mar_start_55 rfl (lv_at hl 0 rfl) ?_
    refine lv_iconst (v := 0) hx hb d_Mar_start_56 (by decide) ?_
    refine x_put C hI (d := 11) (by decide) (xE11 V _) (xP_11_3 V _ _) fw_Mar_23 (Nat.le_of_ble_eq_true rfl) d_Mar_start_57 (fun H locs hI => ?_)
    exact x_vret C hlocks hr hI h d_Mar_start_60
  · have h := h.2 c1
    refine lv_aload_n hx hb d_Mar_start_9 rfl (lv_at hl 0 rfl) ?_
    refine x_get C hI (d := 11) (by decide) (xE11 V _) fd_Mar_15 rfl d_Mar_start_10 ?_
    refine lv_iload_n hx hb d_Mar_start_13 rfl (lv_at hl 2 rfl) ?_
    refine lv_aload_n hx hb d_Mar_start_14 rfl (lv_at hl 0 rfl) ?_
    refine x_get C hI (d := 11) (by decide) (xE11 V _) fd_Mar_9 rfl d_Mar_start_15 ?_
    refine x_get C hI (d := 1) (by decide) (xE1 V _) fd_Mar_27 rfl d_Mar_start_18 ?_
    refine lv_iload_n hx hb d_Mar_start_21 rfl (lv_at hl 2 rfl) ?_
    refine x_calli C hI hl.1 (d := 6) (As := [.int x2]) (rest := [.int x2, .ref (V.2.2 26)]) (by decide) (c_Hea_isObject h) (xE6 V _) rfl yw_Hea_isObject ml_Mar_49 rfl rfl ⟨Nat.le_of_ble_eq_true rfl, Nat.le_of_ble_eq_true rfl⟩ rfl rfl (Nat.le_of_ble_eq_true rfl) d_Mar_start_22 ⟨Nat.zero_le _, Nat.zero_le _⟩ (fun r3 σ2 H locs h hI => ?_)
    refine lv_if_eq (tgt := 47) hx hb d_Mar_start_25 (by decide) (fun c4 => ?_) (fun c4 => ?_)
    · have h := h.1 c4
      refine lv_iconst (v := 0) hx hb d_Mar_start_47 (by decide) ?_
      obtain ⟨i5, h⟩ := h
      refine x_zast C hI (d := 26) (by decide) (xE26 V) i5 d_Mar_start_48 (fun H locs hI => ?_)
      obtain ⟨z6, ez6⟩ : ∃ y : Int32, y = x2 + 1 := ⟨_, rfl⟩
      have h := h z6 ez6
      refine lv_iinc (v := z6) (lv' := [(2, .int z6), (0, .ref (V.2.2 11)), (1, .int x1)]) hx hb d_Mar_start_49 hl (k := 2) rfl (by rw [ez6]; rfl) (by decide) rfl (fun ls hl => ?_)
      refine lv_goto (tgt := 2) hx hb d_Mar_start_52 (by decide) ?_
      exact hK2 _ _ _ _ _ _ h hI (lv_sub hl [1, 2, 0] rfl)
    · have h := h.2 c4
      refine lv_aload_n hx hb d_Mar_start_28 rfl (lv_at hl 0 rfl) ?_
      refine x_get C hI (d := 11) (by decide) (xE11 V _) fd_Mar_9 rfl d_Mar_start_29 ?_
      refine x_get C hI (d := 1) (by decide) (xE1 V _) fd_Mar_52 rfl d_Mar_start_32 ?_
      refine lv_iload_n hx hb d_Mar_start_35 rfl (lv_at hl 2 rfl) ?_
      refine x_calli C hI hl.1 (d := 7) (As := [.int x2]) (rest := [.int x2, .ref (V.2.2 26)]) (by decide) (c_Reg_ofPlace h) (xE7 V _) rfl yw_Reg_ofPlace ml_Mar_56 rfl rfl ⟨Nat.le_of_ble_eq_true rfl, Nat.le_of_ble_eq_true rfl⟩ rfl rfl (Nat.le_of_ble_eq_true rfl) d_Mar_start_36 ⟨Nat.zero_le _, Nat.zero_le _⟩ (fun r8 σ7 H locs h hI => ?_)
      refine lv_iload_n hx hb d_Mar_start_39 rfl (lv_at hl 1 rfl) ?_
      refine lv_icmp_ge (tgt := 47) hx hb d_Mar_start_40 (by decide) (fun c9 => ?_) (fun c9 => ?_)
      · have h := h.1 c9
        refine lv_iconst (v := 0) hx hb d_Mar_start_47 (by decide) ?_
        obtain ⟨i10, h⟩ := h
        refine x_zast C hI (d := 26) (by decide) (xE26 V) i10 d_Mar_start_48 (fun H locs hI => ?_)
        obtain ⟨z11, ez11⟩ : ∃ y : Int32, y = x2 + 1 := ⟨_, rfl⟩
        have h := h z11 ez11
        refine lv_iinc (v := z11) (lv' := [(2, .int z11), (0, .ref (V.2.2 11)), (1, .int x1)]) hx hb d_Mar_start_49 hl (k := 2) rfl (by rw [ez11]; rfl) (by decide) rfl (fun ls hl => ?_)
        refine lv_goto (tgt := 2) hx hb d_Mar_start_52 (by decide) ?_
        exact hK2 _ _ _ _ _ _ h hI (lv_sub hl [1, 2, 0] rfl)
      · have h := h.2 c9
        refine lv_iconst (v := 1) hx hb d_Mar_start_43 (by decide) ?_
        refine lv_goto (tgt := 48) hx hb d_Mar_start_44 (by decide) ?_
        obtain ⟨i12, h⟩ := h
        refine x_zast C hI (d := 26) (by decide) (xE26 V) i12 d_Mar_start_48 (fun H locs hI => ?_)
        obtain ⟨z13, ez13⟩ : ∃ y : Int32, y = x2 + 1 := ⟨_, rfl⟩
        have h := h z13 ez13
        refine lv_iinc (v := z13) (lv' := [(2, .int z13), (0, .ref (V.2.2 11)), (1, .int x1)]) hx hb d_Mar_start_49 hl (k := 2) rfl (by rw [ez13]; rfl) (by decide) rfl (fun ls hl => ?_)
        refine lv_goto (tgt := 2) hx hb d_Mar_start_52 (by decide) ?_
        exact hK2 _ _ _ _ _ _ h hI (lv_sub hl [1, 2, 0] rfl)
theorem w_Mar_start_L2 {p : Program} {l : Launch} {e : Env} {s : State} {m : MethodId} {args : Array Value} {below : List Frame} {meth : Method} {c : Code} {V : xV} (C : xC p s m args c cd_Mar_start 3 R_Mar V) (hlocks : meth.locks = false) (hr : meth.sig.returnType = none) {Q : xS → Prop} : ∀ (n : Nat) (x1 : Int32) (x2 : Int32) (σ : xS) (H : Heap) (locs : List Loc) (ls : Array Slot), p_Mar_start_L2 Q n x1 x2 σ → xI V s.heap σ H locs → lv_has ls 3 [(0, .ref (V.2.2 11)), (1, .int x1), (2, .int x2)] → W p l e rm_Mar_start s m args below meth c H locs 0 0 (xZv below V args s Q) (F0 m 2 ls []) := by
  intro n
  induction n with
  | zero =>
    intro x1 x2 σ H locs ls h
    exact False.elim h
  | succ n ih =>
    intro x1 x2 σ H locs ls h hI hl
    exact s_Mar_start_L2 C hlocks hr (K2 := p_Mar_start_L2 Q n) (fun x1 x2 σ H locs ls h hI hl => ih x1 x2 σ H locs ls h hI hl) h hI hl
set_option maxRecDepth 100000 in
set_option maxHeartbeats 4000000 in
theorem c_Mar_start {l : Launch} {V : xV} {σ : xS} {x1 : Int32} {Q : xS → Prop} (h : p_Mar_start x1 σ Q) : xMv l y_Mar_start (.code y_Mar_start cd_Mar_start 3 none :: xG) rm_Mar_start V [.ref (V.2.2 11), .int x1] σ Q := by
  refine x_beginv (by decide) (Nat.le_of_ble_eq_true rfl) (fun p e s m below meth c ls C hlocks hr hI hl => ?_)
  have C : xC p s m _ c cd_Mar_start 3 R_Mar V := C
  have hx := C.1
  have hb := C.2.1
  have hl : lv_has ls 3 [(0, .ref (V.2.2 11)), (1, .int x1)] := hl
  unfold p_Mar_start at h
  refine lv_iconst (v := 0) hx hb d_Mar_start_0 (by decide) ?_
  refine lv_istore_n (lv' := [(2, .int 0), (0, .ref (V.2.2 11)), (1, .int x1)]) hx hb d_Mar_start_1 rfl hl (by decide) rfl (fun ls hl => ?_)
  obtain ⟨n, h⟩ := h
  exact w_Mar_start_L2 C hlocks hr n _ _ _ _ _ _ h hI (lv_sub hl [1, 2, 0] rfl)
def y_Mar_reachRoots : MethodName := ⟨"RegionPool$Marker", "reachRoots", "()V"⟩
abbrev cd_Mar_reachRoots : ByteArray := prog_6_method_5_code
theorem fd_Mar_61 : xFd R_Mar 61 1 0 := ⟨R_Mem, T_Mem, 6, rfl, in_Mem, by decide, xG_mem 163 (by decide +kernel) (by decide +kernel)⟩
def y_Mar_reach : MethodName := ⟨"RegionPool$Marker", "reach", "(I)V"⟩
abbrev cd_Mar_reach : ByteArray := prog_6_method_8_code
theorem fd_Mar_19 : xFd R_Mar 19 9 2 := ⟨R_Mar, T_Mar, 4, rfl, in_Mar, by decide, xG_mem 209 (by decide +kernel) (by decide +kernel)⟩
theorem fd_Mar_23 : xFd R_Mar 23 9 3 := ⟨R_Mar, T_Mar, 4, rfl, in_Mar, by decide, xG_mem 210 (by decide +kernel) (by decide +kernel)⟩
def p_Mar_reach (x1 : Int32) (σ : xS) (Q : xS → Prop) : Prop :=
  (vp_in x1 640 ∧ ((¬ (σ 26 x1.toNatClampNeg) = 0 → Q σ) ∧ ((σ 26 x1.toNatClampNeg) = 0 → (vp_in x1 640 ∧ (vp_in ((xu σ 26 x1.toNatClampNeg (vp_nar .boolean 1)) 11 3) 640 ∧ Q (xu (xu (xu σ 26 x1.toNatClampNeg (vp_nar .boolean 1)) 27 ((xu σ 26 x1.toNatClampNeg (vp_nar .boolean 1)) 11 3).toNatClampNeg x1) 11 3 (((xu (xu σ 26 x1.toNatClampNeg (vp_nar .boolean 1)) 27 ((xu σ 26 x1.toNatClampNeg (vp_nar .boolean 1)) 11 3).toNatClampNeg x1) 11 3) + 1)))))))
abbrev rm_Mar_reach : Room := { frames := 0, cells := 0, slots := 0, locals := 0 }
theorem d_Mar_reach_0 : decode cd_Mar_reach 0 = .ok (.aload_n 0, 1) := by decide +kernel
theorem d_Mar_reach_1 : decode cd_Mar_reach 1 = .ok (.getfield 15, 3) := by decide +kernel
theorem d_Mar_reach_4 : decode cd_Mar_reach 4 = .ok (.iload_n 1, 1) := by decide +kernel
theorem d_Mar_reach_5 : decode cd_Mar_reach 5 = .ok (.baload, 1) := by decide +kernel
theorem d_Mar_reach_6 : decode cd_Mar_reach 6 = .ok (.ifCond .ne 30, 3) := by decide +kernel
theorem d_Mar_reach_9 : decode cd_Mar_reach 9 = .ok (.aload_n 0, 1) := by decide +kernel
theorem d_Mar_reach_10 : decode cd_Mar_reach 10 = .ok (.getfield 15, 3) := by decide +kernel
theorem d_Mar_reach_13 : decode cd_Mar_reach 13 = .ok (.iload_n 1, 1) := by decide +kernel
theorem d_Mar_reach_14 : decode cd_Mar_reach 14 = .ok (.iconst 1, 1) := by decide +kernel
theorem d_Mar_reach_15 : decode cd_Mar_reach 15 = .ok (.bastore, 1) := by decide +kernel
theorem d_Mar_reach_16 : decode cd_Mar_reach 16 = .ok (.aload_n 0, 1) := by decide +kernel
theorem d_Mar_reach_17 : decode cd_Mar_reach 17 = .ok (.getfield 19, 3) := by decide +kernel
theorem d_Mar_reach_20 : decode cd_Mar_reach 20 = .ok (.aload_n 0, 1) := by decide +kernel
theorem d_Mar_reach_21 : decode cd_Mar_reach 21 = .ok (.getfield 23, 3) := by decide +kernel
theorem d_Mar_reach_24 : decode cd_Mar_reach 24 = .ok (.iload_n 1, 1) := by decide +kernel
theorem d_Mar_reach_25 : decode cd_Mar_reach 25 = .ok (.iastore, 1) := by decide +kernel
theorem d_Mar_reach_26 : decode cd_Mar_reach 26 = .ok (.aload_n 0, 1) := by decide +kernel
theorem d_Mar_reach_27 : decode cd_Mar_reach 27 = .ok (.dup, 1) := by decide +kernel
theorem d_Mar_reach_28 : decode cd_Mar_reach 28 = .ok (.getfield 23, 3) := by decide +kernel
theorem d_Mar_reach_31 : decode cd_Mar_reach 31 = .ok (.iconst 1, 1) := by decide +kernel
theorem d_Mar_reach_32 : decode cd_Mar_reach 32 = .ok (.iadd, 1) := by decide +kernel
theorem d_Mar_reach_33 : decode cd_Mar_reach 33 = .ok (.putfield 23, 3) := by decide +kernel
theorem d_Mar_reach_36 : decode cd_Mar_reach 36 = .ok (.return_, 1) := by decide +kernel
set_option maxRecDepth 100000 in
set_option maxHeartbeats 4000000 in
theorem c_Mar_reach {l : Launch} {V : xV} {σ : xS} {x1 : Int32} {Q : xS → Prop} (h : p_Mar_reach x1 σ Q) : xMv l y_Mar_reach (.code y_Mar_reach cd_Mar_reach 2 none :: xG) rm_Mar_reach V [.ref (V.2.2 11), .int x1] σ Q := by
  refine x_beginv (by decide) (Nat.le_of_ble_eq_true rfl) (fun p e s m below meth c ls C hlocks hr hI hl => ?_)
  have C : xC p s m _ c cd_Mar_reach 2 R_Mar V := C
  have hx := C.1
  have hb := C.2.1
  have hl : lv_has ls 2 [(0, .ref (V.2.2 11)), (1, .int x1)] := hl
  unfold p_Mar_reach at h
  refine lv_aload_n hx hb d_Mar_reach_0 rfl (lv_at hl 0 rfl) ?_
  refine x_get C hI (d := 11) (by decide) (xE11 V _) fd_Mar_15 rfl d_Mar_reach_1 ?_
  refine lv_iload_n hx hb d_Mar_reach_4 rfl (lv_at hl 1 rfl) ?_
  obtain ⟨i1, h⟩ := h
  refine x_zald C hI (d := 26) (by decide) (xE26 V) i1 d_Mar_reach_5 ?_
  refine lv_if_ne (tgt := 36) hx hb d_Mar_reach_6 (by decide) (fun c2 => ?_) (fun c2 => ?_)
  · have h := h.1 c2
    exact x_vret C hlocks hr hI h d_Mar_reach_36
  · have h := h.2 c2
    refine lv_aload_n hx hb d_Mar_reach_9 rfl (lv_at hl 0 rfl) ?_
    refine x_get C hI (d := 11) (by decide) (xE11 V _) fd_Mar_15 rfl d_Mar_reach_10 ?_
    refine lv_iload_n hx hb d_Mar_reach_13 rfl (lv_at hl 1 rfl) ?_
    refine lv_iconst (v := 1) hx hb d_Mar_reach_14 (by decide) ?_
    obtain ⟨i3, h⟩ := h
    refine x_zast C hI (d := 26) (by decide) (xE26 V) i3 d_Mar_reach_15 (fun H locs hI => ?_)
    refine lv_aload_n hx hb d_Mar_reach_16 rfl (lv_at hl 0 rfl) ?_
    refine x_get C hI (d := 11) (by decide) (xE11 V _) fd_Mar_19 rfl d_Mar_reach_17 ?_
    refine lv_aload_n hx hb d_Mar_reach_20 rfl (lv_at hl 0 rfl) ?_
    refine x_get C hI (d := 11) (by decide) (xE11 V _) fd_Mar_23 rfl d_Mar_reach_21 ?_
    refine lv_iload_n hx hb d_Mar_reach_24 rfl (lv_at hl 1 rfl) ?_
    obtain ⟨i4, h⟩ := h
    refine x_iast C hI (d := 27) (by decide) (xE27 V) i4 d_Mar_reach_25 (fun H locs hI => ?_)
    refine lv_aload_n hx hb d_Mar_reach_26 rfl (lv_at hl 0 rfl) ?_
    refine lv_dup hx hb d_Mar_reach_27 rfl ?_
    refine x_get C hI (d := 11) (by decide) (xE11 V _) fd_Mar_23 rfl d_Mar_reach_28 ?_
    refine lv_iconst (v := 1) hx hb d_Mar_reach_31 (by decide) ?_
    refine lv_iadd hx hb d_Mar_reach_32 ?_
    refine x_put C hI (d := 11) (by decide) (xE11 V _) (xP_11_3 V _ _) fw_Mar_23 (Nat.le_of_ble_eq_true rfl) d_Mar_reach_33 (fun H locs hI => ?_)
    exact x_vret C hlocks hr hI h d_Mar_reach_36
theorem yw_Mar_reach : xY y_Mar_reach cd_Mar_reach 2 none 1 := ⟨xG_mem 553 (by decide +kernel) (by decide +kernel), xG_mem 4 (by decide +kernel) (by decide +kernel), xG_mem 62 (by decide +kernel) (by decide +kernel), xG_mem 554 (by decide +kernel) (by decide +kernel), by decide, by decide, by decide +kernel⟩
theorem ml_Mar_64 : Cond.methodLink R_Mar 64 y_Mar_reach ∈ xG := xG_mem 551 (by decide +kernel) (by decide +kernel)
def b_Mar_reachRoots_L2 (K2 : Int32 → xS → Prop) (Q : xS → Prop) (x1 : Int32) (σ : xS) : Prop :=
  ((16 ≤ x1 → Q σ) ∧ (¬ 16 ≤ x1 → p_Val_isReference_5 x1 σ (fun r3 σ2 => ((r3 = 0 → (∀ z5 : Int32, z5 = x1 + 1 → K2 z5 σ2)) ∧ (¬ r3 = 0 → p_Val_contentOf_5 x1 σ2 (fun r7 σ6 => p_Mar_reach r7 σ6 (fun σ8 => (∀ z9 : Int32, z9 = x1 + 1 → K2 z9 σ8))))))))
def p_Mar_reachRoots_L2 (Q : xS → Prop) (n : Nat) : Int32 → xS → Prop := Nat.rec (motive := fun _ => Int32 → xS → Prop) (fun _ _ => False) (fun _ K x1 σ => b_Mar_reachRoots_L2 K Q x1 σ) n
def p_Mar_reachRoots (σ : xS) (Q : xS → Prop) : Prop :=
  (∃ n, p_Mar_reachRoots_L2 Q n 0 σ)
abbrev rm_Mar_reachRoots : Room := { frames := 1, cells := 0, slots := 0, locals := 21 }
theorem d_Mar_reachRoots_0 : decode cd_Mar_reachRoots 0 = .ok (.iconst 0, 1) := by decide +kernel
theorem d_Mar_reachRoots_1 : decode cd_Mar_reachRoots 1 = .ok (.istore_n 1, 1) := by decide +kernel
theorem d_Mar_reachRoots_2 : decode cd_Mar_reachRoots 2 = .ok (.iload_n 1, 1) := by decide +kernel
theorem d_Mar_reachRoots_3 : decode cd_Mar_reachRoots 3 = .ok (.bipush 16, 2) := by decide +kernel
theorem d_Mar_reachRoots_5 : decode cd_Mar_reachRoots 5 = .ok (.if_icmp .ge 38, 3) := by decide +kernel
theorem d_Mar_reachRoots_8 : decode cd_Mar_reachRoots 8 = .ok (.aload_n 0, 1) := by decide +kernel
theorem d_Mar_reachRoots_9 : decode cd_Mar_reachRoots 9 = .ok (.getfield 9, 3) := by decide +kernel
theorem d_Mar_reachRoots_12 : decode cd_Mar_reachRoots 12 = .ok (.getfield 61, 3) := by decide +kernel
theorem d_Mar_reachRoots_15 : decode cd_Mar_reachRoots 15 = .ok (.iload_n 1, 1) := by decide +kernel
theorem d_Mar_reachRoots_16 : decode cd_Mar_reachRoots 16 = .ok (.invokevirtual 39, 3) := by decide +kernel
theorem d_Mar_reachRoots_19 : decode cd_Mar_reachRoots 19 = .ok (.ifCond .eq 18, 3) := by decide +kernel
theorem d_Mar_reachRoots_22 : decode cd_Mar_reachRoots 22 = .ok (.aload_n 0, 1) := by decide +kernel
theorem d_Mar_reachRoots_23 : decode cd_Mar_reachRoots 23 = .ok (.aload_n 0, 1) := by decide +kernel
theorem d_Mar_reachRoots_24 : decode cd_Mar_reachRoots 24 = .ok (.getfield 9, 3) := by decide +kernel
theorem d_Mar_reachRoots_27 : decode cd_Mar_reachRoots 27 = .ok (.getfield 61, 3) := by decide +kernel
theorem d_Mar_reachRoots_30 : decode cd_Mar_reachRoots 30 = .ok (.iload_n 1, 1) := by decide +kernel
theorem d_Mar_reachRoots_31 : decode cd_Mar_reachRoots 31 = .ok (.invokevirtual 45, 3) := by decide +kernel
theorem d_Mar_reachRoots_34 : decode cd_Mar_reachRoots 34 = .ok (.invokevirtual 64, 3) := by decide +kernel
theorem d_Mar_reachRoots_37 : decode cd_Mar_reachRoots 37 = .ok (.iinc 1 1, 3) := by decide +kernel
theorem d_Mar_reachRoots_40 : decode cd_Mar_reachRoots 40 = .ok (.goto (-38), 3) := by decide +kernel
theorem d_Mar_reachRoots_43 : decode cd_Mar_reachRoots 43 = .ok (.return_, 1) := by decide +kernel
set_option maxRecDepth 100000 in
set_option maxHeartbeats 4000000 in
theorem s_Mar_reachRoots_L2 {p : Program} {l : Launch} {e : Env} {s : State} {m : MethodId} {args : Array Value} {below : List Frame} {meth : Method} {c : Code} {V : xV} (C : xC p s m args c cd_Mar_reachRoots 2 R_Mar V) (hlocks : meth.locks = false) (hr : meth.sig.returnType = none) {Q : xS → Prop} {K2 : Int32 → xS → Prop} (hK2 : ∀ (x1 : Int32) (σ : xS) (H : Heap) (locs : List Loc) (ls : Array Slot), K2 x1 σ → xI V s.heap σ H locs → lv_has ls 2 [(0, .ref (V.2.2 11)), (1, .int x1)] → W p l e rm_Mar_reachRoots s m args below meth c H locs 0 0 (xZv below V args s Q) (F0 m 2 ls [])) {x1 : Int32} {σ : xS} {H : Heap} {locs : List Loc} {ls : Array Slot} (h : b_Mar_reachRoots_L2 K2 Q x1 σ) (hI : xI V s.heap σ H locs) (hl : lv_has ls 2 [(0, .ref (V.2.2 11)), (1, .int x1)]) : W p l e rm_Mar_reachRoots s m args below meth c H locs 0 0 (xZv below V args s Q) (F0 m 2 ls []) := by
  have hx := C.1
  have hb := C.2.1
  unfold b_Mar_reachRoots_L2 at h
  refine lv_iload_n hx hb d_Mar_reachRoots_2 rfl (lv_at hl 1 rfl) ?_
  refine lv_bipush (v := 16) hx hb d_Mar_reachRoots_3 (by decide) ?_
  refine lv_icmp_ge (tgt := 43) hx hb d_Mar_reachRoots_5 (by decide) (fun c1 => ?_) (fun c1 => ?_)
  · have h := h.1 c1
    exact x_vret C hlocks hr hI h d_Mar_reachRoots_43
  · have h := h.2 c1
    refine lv_aload_n hx hb d_Mar_reachRoots_8 rfl (lv_at hl 0 rfl) ?_
    refine x_get C hI (d := 11) (by decide) (xE11 V _) fd_Mar_9 rfl d_Mar_reachRoots_9 ?_
    refine x_get C hI (d := 1) (by decide) (xE1 V _) fd_Mar_61 rfl d_Mar_reachRoots_12 ?_
    refine lv_iload_n hx hb d_Mar_reachRoots_15 rfl (lv_at hl 1 rfl) ?_
    refine x_calli C hI hl.1 (d := 5) (As := [.int x1]) (rest := []) (by decide) (c_Val_isReference_5 h) (xE5 V _) rfl yw_Val_isReference ml_Mar_39 rfl rfl ⟨Nat.le_of_ble_eq_true rfl, Nat.le_of_ble_eq_true rfl⟩ rfl rfl (Nat.le_of_ble_eq_true rfl) d_Mar_reachRoots_16 ⟨Nat.zero_le _, Nat.zero_le _⟩ (fun r3 σ2 H locs h hI => ?_)
    refine lv_if_eq (tgt := 37) hx hb d_Mar_reachRoots_19 (by decide) (fun c4 => ?_) (fun c4 => ?_)
    · have h := h.1 c4
      obtain ⟨z5, ez5⟩ : ∃ y : Int32, y = x1 + 1 := ⟨_, rfl⟩
      have h := h z5 ez5
      refine lv_iinc (v := z5) (lv' := [(1, .int z5), (0, .ref (V.2.2 11))]) hx hb d_Mar_reachRoots_37 hl (k := 1) rfl (by rw [ez5]; rfl) (by decide) rfl (fun ls hl => ?_)
      refine lv_goto (tgt := 2) hx hb d_Mar_reachRoots_40 (by decide) ?_
      exact hK2 _ _ _ _ _ h hI (lv_sub hl [1, 0] rfl)
    · have h := h.2 c4
      refine lv_aload_n hx hb d_Mar_reachRoots_22 rfl (lv_at hl 0 rfl) ?_
      refine lv_aload_n hx hb d_Mar_reachRoots_23 rfl (lv_at hl 0 rfl) ?_
      refine x_get C hI (d := 11) (by decide) (xE11 V _) fd_Mar_9 rfl d_Mar_reachRoots_24 ?_
      refine x_get C hI (d := 1) (by decide) (xE1 V _) fd_Mar_61 rfl d_Mar_reachRoots_27 ?_
      refine lv_iload_n hx hb d_Mar_reachRoots_30 rfl (lv_at hl 1 rfl) ?_
      refine x_calli C hI hl.1 (d := 5) (As := [.int x1]) (rest := [.ref (V.2.2 11)]) (by decide) (c_Val_contentOf_5 h) (xE5 V _) rfl yw_Val_contentOf ml_Mar_45 rfl rfl ⟨Nat.le_of_ble_eq_true rfl, Nat.le_of_ble_eq_true rfl⟩ rfl rfl (Nat.le_of_ble_eq_true rfl) d_Mar_reachRoots_31 ⟨Nat.zero_le _, Nat.zero_le _⟩ (fun r7 σ6 H locs h hI => ?_)
      refine x_callv C hI hl.1 (d := 11) (As := [.int r7]) (rest := []) (by decide) (c_Mar_reach h) (xE11 V _) rfl yw_Mar_reach ml_Mar_64 rfl rfl ⟨Nat.le_of_ble_eq_true rfl, Nat.le_of_ble_eq_true rfl⟩ rfl rfl (Nat.le_of_ble_eq_true rfl) d_Mar_reachRoots_34 ⟨Nat.zero_le _, Nat.zero_le _⟩ (fun σ8 H locs h hI => ?_)
      obtain ⟨z9, ez9⟩ : ∃ y : Int32, y = x1 + 1 := ⟨_, rfl⟩
      have h := h z9 ez9
      refine lv_iinc (v := z9) (lv' := [(1, .int z9), (0, .ref (V.2.2 11))]) hx hb d_Mar_reachRoots_37 hl (k := 1) rfl (by rw [ez9]; rfl) (by decide) rfl (fun ls hl => ?_)
      refine lv_goto (tgt := 2) hx hb d_Mar_reachRoots_40 (by decide) ?_
      exact hK2 _ _ _ _ _ h hI (lv_sub hl [1, 0] rfl)
theorem w_Mar_reachRoots_L2 {p : Program} {l : Launch} {e : Env} {s : State} {m : MethodId} {args : Array Value} {below : List Frame} {meth : Method} {c : Code} {V : xV} (C : xC p s m args c cd_Mar_reachRoots 2 R_Mar V) (hlocks : meth.locks = false) (hr : meth.sig.returnType = none) {Q : xS → Prop} : ∀ (n : Nat) (x1 : Int32) (σ : xS) (H : Heap) (locs : List Loc) (ls : Array Slot), p_Mar_reachRoots_L2 Q n x1 σ → xI V s.heap σ H locs → lv_has ls 2 [(0, .ref (V.2.2 11)), (1, .int x1)] → W p l e rm_Mar_reachRoots s m args below meth c H locs 0 0 (xZv below V args s Q) (F0 m 2 ls []) := by
  intro n
  induction n with
  | zero =>
    intro x1 σ H locs ls h
    exact False.elim h
  | succ n ih =>
    intro x1 σ H locs ls h hI hl
    exact s_Mar_reachRoots_L2 C hlocks hr (K2 := p_Mar_reachRoots_L2 Q n) (fun x1 σ H locs ls h hI hl => ih x1 σ H locs ls h hI hl) h hI hl
set_option maxRecDepth 100000 in
set_option maxHeartbeats 4000000 in
theorem c_Mar_reachRoots {l : Launch} {V : xV} {σ : xS} {Q : xS → Prop} (h : p_Mar_reachRoots σ Q) : xMv l y_Mar_reachRoots (.code y_Mar_reachRoots cd_Mar_reachRoots 2 none :: xG) rm_Mar_reachRoots V [.ref (V.2.2 11)] σ Q := by
  refine x_beginv (by decide) (Nat.le_of_ble_eq_true rfl) (fun p e s m below meth c ls C hlocks hr hI hl => ?_)
  have C : xC p s m _ c cd_Mar_reachRoots 2 R_Mar V := C
  have hx := C.1
  have hb := C.2.1
  have hl : lv_has ls 2 [(0, .ref (V.2.2 11))] := hl
  unfold p_Mar_reachRoots at h
  refine lv_iconst (v := 0) hx hb d_Mar_reachRoots_0 (by decide) ?_
  refine lv_istore_n (lv' := [(1, .int 0), (0, .ref (V.2.2 11))]) hx hb d_Mar_reachRoots_1 rfl hl (by decide) rfl (fun ls hl => ?_)
  obtain ⟨n, h⟩ := h
  exact w_Mar_reachRoots_L2 C hlocks hr n _ _ _ _ _ h hI (lv_sub hl [1, 0] rfl)
def y_Mar_reachQueue : MethodName := ⟨"RegionPool$Marker", "reachQueue", "()V"⟩
abbrev cd_Mar_reachQueue : ByteArray := prog_6_method_6_code
theorem fd_Mar_68 : xFd R_Mar 68 1 3 := ⟨R_Mem, T_Mem, 6, rfl, in_Mem, by decide, xG_mem 176 (by decide +kernel) (by decide +kernel)⟩
theorem yw_Lin_length : xY y_Lin_length cd_Lin_length 1 (some .int) 0 := ⟨xG_mem 452 (by decide +kernel) (by decide +kernel), xG_mem 453 (by decide +kernel) (by decide +kernel), xG_mem 60 (by decide +kernel) (by decide +kernel), xG_mem 454 (by decide +kernel) (by decide +kernel), by decide, by decide, by decide +kernel⟩
theorem ml_Mar_72 : Cond.methodLink R_Mar 72 y_Lin_length ∈ xG := xG_mem 559 (by decide +kernel) (by decide +kernel)
theorem yw_Lin_itemAt : xY y_Lin_itemAt cd_Lin_itemAt 2 (some .int) 1 := ⟨xG_mem 561 (by decide +kernel) (by decide +kernel), xG_mem 562 (by decide +kernel) (by decide +kernel), xG_mem 60 (by decide +kernel) (by decide +kernel), xG_mem 563 (by decide +kernel) (by decide +kernel), by decide, by decide, by decide +kernel⟩
theorem ml_Mar_78 : Cond.methodLink R_Mar 78 y_Lin_itemAt ∈ xG := xG_mem 560 (by decide +kernel) (by decide +kernel)
def b_Mar_reachQueue_L2 (K2 : Int32 → xS → Prop) (Q : xS → Prop) (x1 : Int32) (σ : xS) : Prop :=
  p_Lin_length_8 σ (fun r2 σ1 => ((r2 ≤ x1 → Q σ1) ∧ (¬ r2 ≤ x1 → p_Lin_itemAt_8 x1 σ1 (fun r5 σ4 => p_Mar_reach r5 σ4 (fun σ6 => (∀ z7 : Int32, z7 = x1 + 1 → K2 z7 σ6))))))
def p_Mar_reachQueue_L2 (Q : xS → Prop) (n : Nat) : Int32 → xS → Prop := Nat.rec (motive := fun _ => Int32 → xS → Prop) (fun _ _ => False) (fun _ K x1 σ => b_Mar_reachQueue_L2 K Q x1 σ) n
def p_Mar_reachQueue (σ : xS) (Q : xS → Prop) : Prop :=
  (∃ n, p_Mar_reachQueue_L2 Q n 0 σ)
abbrev rm_Mar_reachQueue : Room := { frames := 1, cells := 0, slots := 0, locals := 21 }
theorem d_Mar_reachQueue_0 : decode cd_Mar_reachQueue 0 = .ok (.iconst 0, 1) := by decide +kernel
theorem d_Mar_reachQueue_1 : decode cd_Mar_reachQueue 1 = .ok (.istore_n 1, 1) := by decide +kernel
theorem d_Mar_reachQueue_2 : decode cd_Mar_reachQueue 2 = .ok (.iload_n 1, 1) := by decide +kernel
theorem d_Mar_reachQueue_3 : decode cd_Mar_reachQueue 3 = .ok (.aload_n 0, 1) := by decide +kernel
theorem d_Mar_reachQueue_4 : decode cd_Mar_reachQueue 4 = .ok (.getfield 9, 3) := by decide +kernel
theorem d_Mar_reachQueue_7 : decode cd_Mar_reachQueue 7 = .ok (.getfield 68, 3) := by decide +kernel
theorem d_Mar_reachQueue_10 : decode cd_Mar_reachQueue 10 = .ok (.invokevirtual 72, 3) := by decide +kernel
theorem d_Mar_reachQueue_13 : decode cd_Mar_reachQueue 13 = .ok (.if_icmp .ge 24, 3) := by decide +kernel
theorem d_Mar_reachQueue_16 : decode cd_Mar_reachQueue 16 = .ok (.aload_n 0, 1) := by decide +kernel
theorem d_Mar_reachQueue_17 : decode cd_Mar_reachQueue 17 = .ok (.aload_n 0, 1) := by decide +kernel
theorem d_Mar_reachQueue_18 : decode cd_Mar_reachQueue 18 = .ok (.getfield 9, 3) := by decide +kernel
theorem d_Mar_reachQueue_21 : decode cd_Mar_reachQueue 21 = .ok (.getfield 68, 3) := by decide +kernel
theorem d_Mar_reachQueue_24 : decode cd_Mar_reachQueue 24 = .ok (.iload_n 1, 1) := by decide +kernel
theorem d_Mar_reachQueue_25 : decode cd_Mar_reachQueue 25 = .ok (.invokevirtual 78, 3) := by decide +kernel
theorem d_Mar_reachQueue_28 : decode cd_Mar_reachQueue 28 = .ok (.invokevirtual 64, 3) := by decide +kernel
theorem d_Mar_reachQueue_31 : decode cd_Mar_reachQueue 31 = .ok (.iinc 1 1, 3) := by decide +kernel
theorem d_Mar_reachQueue_34 : decode cd_Mar_reachQueue 34 = .ok (.goto (-32), 3) := by decide +kernel
theorem d_Mar_reachQueue_37 : decode cd_Mar_reachQueue 37 = .ok (.return_, 1) := by decide +kernel
set_option maxRecDepth 100000 in
set_option maxHeartbeats 4000000 in
theorem s_Mar_reachQueue_L2 {p : Program} {l : Launch} {e : Env} {s : State} {m : MethodId} {args : Array Value} {below : List Frame} {meth : Method} {c : Code} {V : xV} (C : xC p s m args c cd_Mar_reachQueue 2 R_Mar V) (hlocks : meth.locks = false) (hr : meth.sig.returnType = none) {Q : xS → Prop} {K2 : Int32 → xS → Prop} (hK2 : ∀ (x1 : Int32) (σ : xS) (H : Heap) (locs : List Loc) (ls : Array Slot), K2 x1 σ → xI V s.heap σ H locs → lv_has ls 2 [(0, .ref (V.2.2 11)), (1, .int x1)] → W p l e rm_Mar_reachQueue s m args below meth c H locs 0 0 (xZv below V args s Q) (F0 m 2 ls [])) {x1 : Int32} {σ : xS} {H : Heap} {locs : List Loc} {ls : Array Slot} (h : b_Mar_reachQueue_L2 K2 Q x1 σ) (hI : xI V s.heap σ H locs) (hl : lv_has ls 2 [(0, .ref (V.2.2 11)), (1, .int x1)]) : W p l e rm_Mar_reachQueue s m args below meth c H locs 0 0 (xZv below V args s Q) (F0 m 2 ls []) := by
  have hx := C.1
  have hb := C.2.1
  unfold b_Mar_reachQueue_L2 at h
  refine lv_iload_n hx hb d_Mar_reachQueue_2 rfl (lv_at hl 1 rfl) ?_
  refine lv_aload_n hx hb d_Mar_reachQueue_3 rfl (lv_at hl 0 rfl) ?_
  refine x_get C hI (d := 11) (by decide) (xE11 V _) fd_Mar_9 rfl d_Mar_reachQueue_4 ?_
  refine x_get C hI (d := 1) (by decide) (xE1 V _) fd_Mar_68 rfl d_Mar_reachQueue_7 ?_
  refine x_calli C hI hl.1 (d := 8) (As := []) (rest := [.int x1]) (by decide) (c_Lin_length_8 h) (xE8 V _) rfl yw_Lin_length ml_Mar_72 rfl rfl ⟨Nat.le_of_ble_eq_true rfl, Nat.le_of_ble_eq_true rfl⟩ rfl rfl (Nat.le_of_ble_eq_true rfl) d_Mar_reachQueue_10 ⟨Nat.zero_le _, Nat.zero_le _⟩ (fun r2 σ1 H locs h hI => ?_)
  refine lv_icmp_ge (tgt := 37) hx hb d_Mar_reachQueue_13 (by decide) (fun c3 => ?_) (fun c3 => ?_)
  · have h := h.1 c3
    exact x_vret C hlocks hr hI h d_Mar_reachQueue_37
  · have h := h.2 c3
    refine lv_aload_n hx hb d_Mar_reachQueue_16 rfl (lv_at hl 0 rfl) ?_
    refine lv_aload_n hx hb d_Mar_reachQueue_17 rfl (lv_at hl 0 rfl) ?_
    refine x_get C hI (d := 11) (by decide) (xE11 V _) fd_Mar_9 rfl d_Mar_reachQueue_18 ?_
    refine x_get C hI (d := 1) (by decide) (xE1 V _) fd_Mar_68 rfl d_Mar_reachQueue_21 ?_
    refine lv_iload_n hx hb d_Mar_reachQueue_24 rfl (lv_at hl 1 rfl) ?_
    refine x_calli C hI hl.1 (d := 8) (As := [.int x1]) (rest := [.ref (V.2.2 11)]) (by decide) (c_Lin_itemAt_8 h) (xE8 V _) rfl yw_Lin_itemAt ml_Mar_78 rfl rfl ⟨Nat.le_of_ble_eq_true rfl, Nat.le_of_ble_eq_true rfl⟩ rfl rfl (Nat.le_of_ble_eq_true rfl) d_Mar_reachQueue_25 ⟨Nat.zero_le _, Nat.zero_le _⟩ (fun r5 σ4 H locs h hI => ?_)
    refine x_callv C hI hl.1 (d := 11) (As := [.int r5]) (rest := []) (by decide) (c_Mar_reach h) (xE11 V _) rfl yw_Mar_reach ml_Mar_64 rfl rfl ⟨Nat.le_of_ble_eq_true rfl, Nat.le_of_ble_eq_true rfl⟩ rfl rfl (Nat.le_of_ble_eq_true rfl) d_Mar_reachQueue_28 ⟨Nat.zero_le _, Nat.zero_le _⟩ (fun σ6 H locs h hI => ?_)
    obtain ⟨z7, ez7⟩ : ∃ y : Int32, y = x1 + 1 := ⟨_, rfl⟩
    have h := h z7 ez7
    refine lv_iinc (v := z7) (lv' := [(1, .int z7), (0, .ref (V.2.2 11))]) hx hb d_Mar_reachQueue_31 hl (k := 1) rfl (by rw [ez7]; rfl) (by decide) rfl (fun ls hl => ?_)
    refine lv_goto (tgt := 2) hx hb d_Mar_reachQueue_34 (by decide) ?_
    exact hK2 _ _ _ _ _ h hI (lv_sub hl [1, 0] rfl)
theorem w_Mar_reachQueue_L2 {p : Program} {l : Launch} {e : Env} {s : State} {m : MethodId} {args : Array Value} {below : List Frame} {meth : Method} {c : Code} {V : xV} (C : xC p s m args c cd_Mar_reachQueue 2 R_Mar V) (hlocks : meth.locks = false) (hr : meth.sig.returnType = none) {Q : xS → Prop} : ∀ (n : Nat) (x1 : Int32) (σ : xS) (H : Heap) (locs : List Loc) (ls : Array Slot), p_Mar_reachQueue_L2 Q n x1 σ → xI V s.heap σ H locs → lv_has ls 2 [(0, .ref (V.2.2 11)), (1, .int x1)] → W p l e rm_Mar_reachQueue s m args below meth c H locs 0 0 (xZv below V args s Q) (F0 m 2 ls []) := by
  intro n
  induction n with
  | zero =>
    intro x1 σ H locs ls h
    exact False.elim h
  | succ n ih =>
    intro x1 σ H locs ls h hI hl
    exact s_Mar_reachQueue_L2 C hlocks hr (K2 := p_Mar_reachQueue_L2 Q n) (fun x1 σ H locs ls h hI hl => ih x1 σ H locs ls h hI hl) h hI hl
set_option maxRecDepth 100000 in
set_option maxHeartbeats 4000000 in
theorem c_Mar_reachQueue {l : Launch} {V : xV} {σ : xS} {Q : xS → Prop} (h : p_Mar_reachQueue σ Q) : xMv l y_Mar_reachQueue (.code y_Mar_reachQueue cd_Mar_reachQueue 2 none :: xG) rm_Mar_reachQueue V [.ref (V.2.2 11)] σ Q := by
  refine x_beginv (by decide) (Nat.le_of_ble_eq_true rfl) (fun p e s m below meth c ls C hlocks hr hI hl => ?_)
  have C : xC p s m _ c cd_Mar_reachQueue 2 R_Mar V := C
  have hx := C.1
  have hb := C.2.1
  have hl : lv_has ls 2 [(0, .ref (V.2.2 11))] := hl
  unfold p_Mar_reachQueue at h
  refine lv_iconst (v := 0) hx hb d_Mar_reachQueue_0 (by decide) ?_
  refine lv_istore_n (lv' := [(1, .int 0), (0, .ref (V.2.2 11))]) hx hb d_Mar_reachQueue_1 rfl hl (by decide) rfl (fun ls hl => ?_)
  obtain ⟨n, h⟩ := h
  exact w_Mar_reachQueue_L2 C hlocks hr n _ _ _ _ _ h hI (lv_sub hl [1, 0] rfl)
def y_Mar_spread : MethodName := ⟨"RegionPool$Marker", "spread", "()V"⟩
abbrev cd_Mar_spread : ByteArray := prog_6_method_7_code
def y_Mar_followPending : MethodName := ⟨"RegionPool$Marker", "followPending", "()V"⟩
abbrev cd_Mar_followPending : ByteArray := prog_6_method_10_code
theorem yw_Hea_kindOf : xY y_Hea_kindOf cd_Hea_kindOf 2 (some .int) 1 := ⟨xG_mem 573 (by decide +kernel) (by decide +kernel), xG_mem 574 (by decide +kernel) (by decide +kernel), xG_mem 57 (by decide +kernel) (by decide +kernel), xG_mem 575 (by decide +kernel) (by decide +kernel), by decide, by decide, by decide +kernel⟩
theorem ml_Mar_91 : Cond.methodLink R_Mar 91 y_Hea_kindOf ∈ xG := xG_mem 572 (by decide +kernel) (by decide +kernel)
def y_Mar_reachFields : MethodName := ⟨"RegionPool$Marker", "reachFields", "(II)V"⟩
abbrev cd_Mar_reachFields : ByteArray := prog_6_method_9_code
theorem ml_Mar_88 : Cond.methodLink R_Mar 88 y_Hea_fieldsOf ∈ xG := xG_mem 580 (by decide +kernel) (by decide +kernel)
def b_Mar_reachFields_L27 (K27 : Int32 → Int32 → Int32 → xS → Prop) (Q : xS → Prop) (x1 x4 x5 : Int32) (σ : xS) : Prop :=
  ((x4 ≤ x5 → Q σ) ∧ (¬ x4 ≤ x5 → p_Val_isReference_19 ((x1 + 1) + x5) σ (fun r5 σ4 => ((r5 = 0 → (∀ z7 : Int32, z7 = x5 + 1 → K27 x1 x4 z7 σ4)) ∧ (¬ r5 = 0 → p_Val_contentOf_19 ((x1 + 1) + x5) σ4 (fun r9 σ8 => p_Mar_reach r9 σ8 (fun σ10 => (∀ z11 : Int32, z11 = x5 + 1 → K27 x1 x4 z11 σ10))))))))
def p_Mar_reachFields_L27 (Q : xS → Prop) (n : Nat) : Int32 → Int32 → Int32 → xS → Prop := Nat.rec (motive := fun _ => Int32 → Int32 → Int32 → xS → Prop) (fun _ _ _ _ => False) (fun _ K x1 x4 x5 σ => b_Mar_reachFields_L27 K Q x1 x4 x5 σ) n
def p_Mar_reachFields (x1 x2 : Int32) (σ : xS) (Q : xS → Prop) : Prop :=
  p_Hea_fieldsOf x1 σ (fun r2 σ1 => (∃ n, p_Mar_reachFields_L27 Q n x1 r2 x2 σ1))
abbrev rm_Mar_reachFields : Room := { frames := 1, cells := 0, slots := 0, locals := 21 }
theorem d_Mar_reachFields_0 : decode cd_Mar_reachFields 0 = .ok (.aload_n 0, 1) := by decide +kernel
theorem d_Mar_reachFields_1 : decode cd_Mar_reachFields 1 = .ok (.getfield 9, 3) := by decide +kernel
theorem d_Mar_reachFields_4 : decode cd_Mar_reachFields 4 = .ok (.getfield 27, 3) := by decide +kernel
theorem d_Mar_reachFields_7 : decode cd_Mar_reachFields 7 = .ok (.getfield 33, 3) := by decide +kernel
theorem d_Mar_reachFields_10 : decode cd_Mar_reachFields 10 = .ok (.astore_n 3, 1) := by decide +kernel
theorem d_Mar_reachFields_11 : decode cd_Mar_reachFields 11 = .ok (.aload_n 0, 1) := by decide +kernel
theorem d_Mar_reachFields_12 : decode cd_Mar_reachFields 12 = .ok (.getfield 9, 3) := by decide +kernel
theorem d_Mar_reachFields_15 : decode cd_Mar_reachFields 15 = .ok (.getfield 27, 3) := by decide +kernel
theorem d_Mar_reachFields_18 : decode cd_Mar_reachFields 18 = .ok (.iload_n 1, 1) := by decide +kernel
theorem d_Mar_reachFields_19 : decode cd_Mar_reachFields 19 = .ok (.invokevirtual 88, 3) := by decide +kernel
theorem d_Mar_reachFields_22 : decode cd_Mar_reachFields 22 = .ok (.istore 4, 2) := by decide +kernel
theorem d_Mar_reachFields_24 : decode cd_Mar_reachFields 24 = .ok (.iload_n 2, 1) := by decide +kernel
theorem d_Mar_reachFields_25 : decode cd_Mar_reachFields 25 = .ok (.istore 5, 2) := by decide +kernel
theorem d_Mar_reachFields_27 : decode cd_Mar_reachFields 27 = .ok (.iload 5, 2) := by decide +kernel
theorem d_Mar_reachFields_29 : decode cd_Mar_reachFields 29 = .ok (.iload 4, 2) := by decide +kernel
theorem d_Mar_reachFields_31 : decode cd_Mar_reachFields 31 = .ok (.if_icmp .ge 36, 3) := by decide +kernel
theorem d_Mar_reachFields_34 : decode cd_Mar_reachFields 34 = .ok (.aload_n 3, 1) := by decide +kernel
theorem d_Mar_reachFields_35 : decode cd_Mar_reachFields 35 = .ok (.iload_n 1, 1) := by decide +kernel
theorem d_Mar_reachFields_36 : decode cd_Mar_reachFields 36 = .ok (.iconst 1, 1) := by decide +kernel
theorem d_Mar_reachFields_37 : decode cd_Mar_reachFields 37 = .ok (.iadd, 1) := by decide +kernel
theorem d_Mar_reachFields_38 : decode cd_Mar_reachFields 38 = .ok (.iload 5, 2) := by decide +kernel
theorem d_Mar_reachFields_40 : decode cd_Mar_reachFields 40 = .ok (.iadd, 1) := by decide +kernel
theorem d_Mar_reachFields_41 : decode cd_Mar_reachFields 41 = .ok (.invokevirtual 39, 3) := by decide +kernel
theorem d_Mar_reachFields_44 : decode cd_Mar_reachFields 44 = .ok (.ifCond .eq 17, 3) := by decide +kernel
theorem d_Mar_reachFields_47 : decode cd_Mar_reachFields 47 = .ok (.aload_n 0, 1) := by decide +kernel
theorem d_Mar_reachFields_48 : decode cd_Mar_reachFields 48 = .ok (.aload_n 3, 1) := by decide +kernel
theorem d_Mar_reachFields_49 : decode cd_Mar_reachFields 49 = .ok (.iload_n 1, 1) := by decide +kernel
theorem d_Mar_reachFields_50 : decode cd_Mar_reachFields 50 = .ok (.iconst 1, 1) := by decide +kernel
theorem d_Mar_reachFields_51 : decode cd_Mar_reachFields 51 = .ok (.iadd, 1) := by decide +kernel
theorem d_Mar_reachFields_52 : decode cd_Mar_reachFields 52 = .ok (.iload 5, 2) := by decide +kernel
theorem d_Mar_reachFields_54 : decode cd_Mar_reachFields 54 = .ok (.iadd, 1) := by decide +kernel
theorem d_Mar_reachFields_55 : decode cd_Mar_reachFields 55 = .ok (.invokevirtual 45, 3) := by decide +kernel
theorem d_Mar_reachFields_58 : decode cd_Mar_reachFields 58 = .ok (.invokevirtual 64, 3) := by decide +kernel
theorem d_Mar_reachFields_61 : decode cd_Mar_reachFields 61 = .ok (.iinc 5 1, 3) := by decide +kernel
theorem d_Mar_reachFields_64 : decode cd_Mar_reachFields 64 = .ok (.goto (-37), 3) := by decide +kernel
theorem d_Mar_reachFields_67 : decode cd_Mar_reachFields 67 = .ok (.return_, 1) := by decide +kernel
set_option maxRecDepth 100000 in
set_option maxHeartbeats 4000000 in
theorem s_Mar_reachFields_L27 {p : Program} {l : Launch} {e : Env} {s : State} {m : MethodId} {args : Array Value} {below : List Frame} {meth : Method} {c : Code} {V : xV} (C : xC p s m args c cd_Mar_reachFields 6 R_Mar V) (hlocks : meth.locks = false) (hr : meth.sig.returnType = none) {Q : xS → Prop} {K27 : Int32 → Int32 → Int32 → xS → Prop} (hK27 : ∀ (x1 : Int32) (x4 : Int32) (x5 : Int32) (σ : xS) (H : Heap) (locs : List Loc) (ls : Array Slot), K27 x1 x4 x5 σ → xI V s.heap σ H locs → lv_has ls 6 [(0, .ref (V.2.2 11)), (1, .int x1), (3, .ref (V.2.2 19)), (4, .int x4), (5, .int x5)] → W p l e rm_Mar_reachFields s m args below meth c H locs 0 0 (xZv below V args s Q) (F0 m 27 ls [])) {x1 x4 x5 : Int32} {σ : xS} {H : Heap} {locs : List Loc} {ls : Array Slot} (h : b_Mar_reachFields_L27 K27 Q x1 x4 x5 σ) (hI : xI V s.heap σ H locs) (hl : lv_has ls 6 [(0, .ref (V.2.2 11)), (1, .int x1), (3, .ref (V.2.2 19)), (4, .int x4), (5, .int x5)]) : W p l e rm_Mar_reachFields s m args below meth c H locs 0 0 (xZv below V args s Q) (F0 m 27 ls []) := by
  have hx := C.1
  have hb := C.2.1
  unfold b_Mar_reachFields_L27 at h
  refine lv_iload hx hb d_Mar_reachFields_27 (lv_at hl 4 rfl) ?_
  refine lv_iload hx hb d_Mar_reachFields_29 (lv_at hl 3 rfl) ?_
  refine lv_icmp_ge (tgt := 67) hx hb d_Mar_reachFields_31 (by decide) (fun c3 => ?_) (fun c3 => ?_)
  · have h := h.1 c3
    exact x_vret C hlocks hr hI h d_Mar_reachFields_67
  · have h := h.2 c3
    refine lv_aload_n hx hb d_Mar_reachFields_34 rfl (lv_at hl 2 rfl) ?_
    refine lv_iload_n hx hb d_Mar_reachFields_35 rfl (lv_at hl 1 rfl) ?_
    refine lv_iconst (v := 1) hx hb d_Mar_reachFields_36 (by decide) ?_
    refine lv_iadd hx hb d_Mar_reachFields_37 ?_
    refine lv_iload hx hb d_Mar_reachFields_38 (lv_at hl 4 rfl) ?_
    refine lv_iadd hx hb d_Mar_reachFields_40 ?_
    refine x_calli C hI hl.1 (d := 19) (As := [.int ((x1 + 1) + x5)]) (rest := []) (by decide) (c_Val_isReference_19 h) (xE19 V _) rfl yw_Val_isReference ml_Mar_39 rfl rfl ⟨Nat.le_of_ble_eq_true rfl, Nat.le_of_ble_eq_true rfl⟩ rfl rfl (Nat.le_of_ble_eq_true rfl) d_Mar_reachFields_41 ⟨Nat.zero_le _, Nat.zero_le _⟩ (fun r5 σ4 H locs h hI => ?_)
    refine lv_if_eq (tgt := 61) hx hb d_Mar_reachFields_44 (by decide) (fun c6 => ?_) (fun c6 => ?_)
    · have h := h.1 c6
      obtain ⟨z7, ez7⟩ : ∃ y : Int32, y = x5 + 1 := ⟨_, rfl⟩
      have h := h z7 ez7
      refine lv_iinc (v := z7) (lv' := [(5, .int z7), (0, .ref (V.2.2 11)), (1, .int x1), (3, .ref (V.2.2 19)), (4, .int x4)]) hx hb d_Mar_reachFields_61 hl (k := 4) rfl (by rw [ez7]; rfl) (by decide) rfl (fun ls hl => ?_)
      refine lv_goto (tgt := 27) hx hb d_Mar_reachFields_64 (by decide) ?_
      exact hK27 _ _ _ _ _ _ _ h hI (lv_sub hl [1, 2, 3, 4, 0] rfl)
    · have h := h.2 c6
      refine lv_aload_n hx hb d_Mar_reachFields_47 rfl (lv_at hl 0 rfl) ?_
      refine lv_aload_n hx hb d_Mar_reachFields_48 rfl (lv_at hl 2 rfl) ?_
      refine lv_iload_n hx hb d_Mar_reachFields_49 rfl (lv_at hl 1 rfl) ?_
      refine lv_iconst (v := 1) hx hb d_Mar_reachFields_50 (by decide) ?_
      refine lv_iadd hx hb d_Mar_reachFields_51 ?_
      refine lv_iload hx hb d_Mar_reachFields_52 (lv_at hl 4 rfl) ?_
      refine lv_iadd hx hb d_Mar_reachFields_54 ?_
      refine x_calli C hI hl.1 (d := 19) (As := [.int ((x1 + 1) + x5)]) (rest := [.ref (V.2.2 11)]) (by decide) (c_Val_contentOf_19 h) (xE19 V _) rfl yw_Val_contentOf ml_Mar_45 rfl rfl ⟨Nat.le_of_ble_eq_true rfl, Nat.le_of_ble_eq_true rfl⟩ rfl rfl (Nat.le_of_ble_eq_true rfl) d_Mar_reachFields_55 ⟨Nat.zero_le _, Nat.zero_le _⟩ (fun r9 σ8 H locs h hI => ?_)
      refine x_callv C hI hl.1 (d := 11) (As := [.int r9]) (rest := []) (by decide) (c_Mar_reach h) (xE11 V _) rfl yw_Mar_reach ml_Mar_64 rfl rfl ⟨Nat.le_of_ble_eq_true rfl, Nat.le_of_ble_eq_true rfl⟩ rfl rfl (Nat.le_of_ble_eq_true rfl) d_Mar_reachFields_58 ⟨Nat.zero_le _, Nat.zero_le _⟩ (fun σ10 H locs h hI => ?_)
      obtain ⟨z11, ez11⟩ : ∃ y : Int32, y = x5 + 1 := ⟨_, rfl⟩
      have h := h z11 ez11
      refine lv_iinc (v := z11) (lv' := [(5, .int z11), (0, .ref (V.2.2 11)), (1, .int x1), (3, .ref (V.2.2 19)), (4, .int x4)]) hx hb d_Mar_reachFields_61 hl (k := 4) rfl (by rw [ez11]; rfl) (by decide) rfl (fun ls hl => ?_)
      refine lv_goto (tgt := 27) hx hb d_Mar_reachFields_64 (by decide) ?_
      exact hK27 _ _ _ _ _ _ _ h hI (lv_sub hl [1, 2, 3, 4, 0] rfl)
theorem w_Mar_reachFields_L27 {p : Program} {l : Launch} {e : Env} {s : State} {m : MethodId} {args : Array Value} {below : List Frame} {meth : Method} {c : Code} {V : xV} (C : xC p s m args c cd_Mar_reachFields 6 R_Mar V) (hlocks : meth.locks = false) (hr : meth.sig.returnType = none) {Q : xS → Prop} : ∀ (n : Nat) (x1 : Int32) (x4 : Int32) (x5 : Int32) (σ : xS) (H : Heap) (locs : List Loc) (ls : Array Slot), p_Mar_reachFields_L27 Q n x1 x4 x5 σ → xI V s.heap σ H locs → lv_has ls 6 [(0, .ref (V.2.2 11)), (1, .int x1), (3, .ref (V.2.2 19)), (4, .int x4), (5, .int x5)] → W p l e rm_Mar_reachFields s m args below meth c H locs 0 0 (xZv below V args s Q) (F0 m 27 ls []) := by
  intro n
  induction n with
  | zero =>
    intro x1 x4 x5 σ H locs ls h
    exact False.elim h
  | succ n ih =>
    intro x1 x4 x5 σ H locs ls h hI hl
    exact s_Mar_reachFields_L27 C hlocks hr (K27 := p_Mar_reachFields_L27 Q n) (fun x1 x4 x5 σ H locs ls h hI hl => ih x1 x4 x5 σ H locs ls h hI hl) h hI hl
set_option maxRecDepth 100000 in
set_option maxHeartbeats 4000000 in
theorem c_Mar_reachFields {l : Launch} {V : xV} {σ : xS} {x1 x2 : Int32} {Q : xS → Prop} (h : p_Mar_reachFields x1 x2 σ Q) : xMv l y_Mar_reachFields (.code y_Mar_reachFields cd_Mar_reachFields 6 none :: xG) rm_Mar_reachFields V [.ref (V.2.2 11), .int x1, .int x2] σ Q := by
  refine x_beginv (by decide) (Nat.le_of_ble_eq_true rfl) (fun p e s m below meth c ls C hlocks hr hI hl => ?_)
  have C : xC p s m _ c cd_Mar_reachFields 6 R_Mar V := C
  have hx := C.1
  have hb := C.2.1
  have hl : lv_has ls 6 [(0, .ref (V.2.2 11)), (1, .int x1), (2, .int x2)] := hl
  unfold p_Mar_reachFields at h
  refine lv_aload_n hx hb d_Mar_reachFields_0 rfl (lv_at hl 0 rfl) ?_
  refine x_get C hI (d := 11) (by decide) (xE11 V _) fd_Mar_9 rfl d_Mar_reachFields_1 ?_
  refine x_get C hI (d := 1) (by decide) (xE1 V _) fd_Mar_27 rfl d_Mar_reachFields_4 ?_
  refine x_get C hI (d := 6) (by decide) (xE6 V _) fd_Mar_33 rfl d_Mar_reachFields_7 ?_
  refine lv_astore_n (lv' := [(3, .ref (V.2.2 19)), (0, .ref (V.2.2 11)), (1, .int x1), (2, .int x2)]) hx hb d_Mar_reachFields_10 rfl hl (by decide) rfl (fun ls hl => ?_)
  refine lv_aload_n hx hb d_Mar_reachFields_11 rfl (lv_at hl 1 rfl) ?_
  refine x_get C hI (d := 11) (by decide) (xE11 V _) fd_Mar_9 rfl d_Mar_reachFields_12 ?_
  refine x_get C hI (d := 1) (by decide) (xE1 V _) fd_Mar_27 rfl d_Mar_reachFields_15 ?_
  refine lv_iload_n hx hb d_Mar_reachFields_18 rfl (lv_at hl 2 rfl) ?_
  refine x_calli C hI hl.1 (d := 6) (As := [.int x1]) (rest := []) (by decide) (c_Hea_fieldsOf h) (xE6 V _) rfl yw_Hea_fieldsOf ml_Mar_88 rfl rfl ⟨Nat.le_of_ble_eq_true rfl, Nat.le_of_ble_eq_true rfl⟩ rfl rfl (Nat.le_of_ble_eq_true rfl) d_Mar_reachFields_19 ⟨Nat.zero_le _, Nat.zero_le _⟩ (fun r2 σ1 H locs h hI => ?_)
  refine lv_istore (lv' := [(4, .int r2), (3, .ref (V.2.2 19)), (0, .ref (V.2.2 11)), (1, .int x1), (2, .int x2)]) hx hb d_Mar_reachFields_22 hl (by decide) rfl (fun ls hl => ?_)
  refine lv_iload_n hx hb d_Mar_reachFields_24 rfl (lv_at hl 4 rfl) ?_
  refine lv_istore (lv' := [(5, .int x2), (4, .int r2), (3, .ref (V.2.2 19)), (0, .ref (V.2.2 11)), (1, .int x1), (2, .int x2)]) hx hb d_Mar_reachFields_25 hl (by decide) rfl (fun ls hl => ?_)
  obtain ⟨n, h⟩ := h
  exact w_Mar_reachFields_L27 C hlocks hr n _ _ _ _ _ _ _ h hI (lv_sub hl [3, 4, 2, 1, 0] rfl)
theorem yw_Mar_reachFields : xY y_Mar_reachFields cd_Mar_reachFields 6 none 2 := ⟨xG_mem 578 (by decide +kernel) (by decide +kernel), xG_mem 6 (by decide +kernel) (by decide +kernel), xG_mem 62 (by decide +kernel) (by decide +kernel), xG_mem 579 (by decide +kernel) (by decide +kernel), by decide, by decide, by decide +kernel⟩
theorem ml_Mar_94 : Cond.methodLink R_Mar 94 y_Mar_reachFields ∈ xG := xG_mem 576 (by decide +kernel) (by decide +kernel)
def b_Mar_followPending_L2 (K2 : Int32 → xS → Prop) (Q : xS → Prop) (x1 : Int32) (σ : xS) : Prop :=
  ((640 ≤ x1 → Q σ) ∧ (¬ 640 ≤ x1 → (((σ 11 3) ≤ 0 → Q σ) ∧ (¬ (σ 11 3) ≤ 0 → (vp_in ((xu σ 11 3 ((σ 11 3) - 1)) 11 3) 640 ∧ (∀ z4 : Int32, z4 = ((xu σ 11 3 ((σ 11 3) - 1)) 27 ((xu σ 11 3 ((σ 11 3) - 1)) 11 3).toNatClampNeg) → p_Hea_kindOf z4 (xu σ 11 3 ((σ 11 3) - 1)) (fun r6 σ5 => ((¬ r6 = 0 → (∀ z8 : Int32, z8 = x1 + 1 → K2 z8 σ5)) ∧ (r6 = 0 → p_Mar_reachFields z4 0 σ5 (fun σ9 => (∀ z10 : Int32, z10 = x1 + 1 → K2 z10 σ9)))))))))))
def p_Mar_followPending_L2 (Q : xS → Prop) (n : Nat) : Int32 → xS → Prop := Nat.rec (motive := fun _ => Int32 → xS → Prop) (fun _ _ => False) (fun _ K x1 σ => b_Mar_followPending_L2 K Q x1 σ) n
def p_Mar_followPending (σ : xS) (Q : xS → Prop) : Prop :=
  (∃ n, p_Mar_followPending_L2 Q n 0 σ)
abbrev rm_Mar_followPending : Room := { frames := 2, cells := 0, slots := 0, locals := 46 }
theorem d_Mar_followPending_0 : decode cd_Mar_followPending 0 = .ok (.iconst 0, 1) := by decide +kernel
theorem d_Mar_followPending_1 : decode cd_Mar_followPending 1 = .ok (.istore_n 1, 1) := by decide +kernel
theorem d_Mar_followPending_2 : decode cd_Mar_followPending 2 = .ok (.iload_n 1, 1) := by decide +kernel
theorem d_Mar_followPending_3 : decode cd_Mar_followPending 3 = .ok (.sipush 640, 3) := by decide +kernel
theorem d_Mar_followPending_6 : decode cd_Mar_followPending 6 = .ok (.if_icmp .ge 56, 3) := by decide +kernel
theorem d_Mar_followPending_9 : decode cd_Mar_followPending 9 = .ok (.aload_n 0, 1) := by decide +kernel
theorem d_Mar_followPending_10 : decode cd_Mar_followPending 10 = .ok (.getfield 23, 3) := by decide +kernel
theorem d_Mar_followPending_13 : decode cd_Mar_followPending 13 = .ok (.ifCond .le 49, 3) := by decide +kernel
theorem d_Mar_followPending_16 : decode cd_Mar_followPending 16 = .ok (.aload_n 0, 1) := by decide +kernel
theorem d_Mar_followPending_17 : decode cd_Mar_followPending 17 = .ok (.dup, 1) := by decide +kernel
theorem d_Mar_followPending_18 : decode cd_Mar_followPending 18 = .ok (.getfield 23, 3) := by decide +kernel
theorem d_Mar_followPending_21 : decode cd_Mar_followPending 21 = .ok (.iconst 1, 1) := by decide +kernel
theorem d_Mar_followPending_22 : decode cd_Mar_followPending 22 = .ok (.isub, 1) := by decide +kernel
theorem d_Mar_followPending_23 : decode cd_Mar_followPending 23 = .ok (.putfield 23, 3) := by decide +kernel
theorem d_Mar_followPending_26 : decode cd_Mar_followPending 26 = .ok (.aload_n 0, 1) := by decide +kernel
theorem d_Mar_followPending_27 : decode cd_Mar_followPending 27 = .ok (.getfield 19, 3) := by decide +kernel
theorem d_Mar_followPending_30 : decode cd_Mar_followPending 30 = .ok (.aload_n 0, 1) := by decide +kernel
theorem d_Mar_followPending_31 : decode cd_Mar_followPending 31 = .ok (.getfield 23, 3) := by decide +kernel
theorem d_Mar_followPending_34 : decode cd_Mar_followPending 34 = .ok (.iaload, 1) := by decide +kernel
theorem d_Mar_followPending_35 : decode cd_Mar_followPending 35 = .ok (.istore_n 2, 1) := by decide +kernel
theorem d_Mar_followPending_36 : decode cd_Mar_followPending 36 = .ok (.aload_n 0, 1) := by decide +kernel
theorem d_Mar_followPending_37 : decode cd_Mar_followPending 37 = .ok (.getfield 9, 3) := by decide +kernel
theorem d_Mar_followPending_40 : decode cd_Mar_followPending 40 = .ok (.getfield 27, 3) := by decide +kernel
theorem d_Mar_followPending_43 : decode cd_Mar_followPending 43 = .ok (.iload_n 2, 1) := by decide +kernel
theorem d_Mar_followPending_44 : decode cd_Mar_followPending 44 = .ok (.invokevirtual 91, 3) := by decide +kernel
theorem d_Mar_followPending_47 : decode cd_Mar_followPending 47 = .ok (.ifCond .ne 9, 3) := by decide +kernel
theorem d_Mar_followPending_50 : decode cd_Mar_followPending 50 = .ok (.aload_n 0, 1) := by decide +kernel
theorem d_Mar_followPending_51 : decode cd_Mar_followPending 51 = .ok (.iload_n 2, 1) := by decide +kernel
theorem d_Mar_followPending_52 : decode cd_Mar_followPending 52 = .ok (.iconst 0, 1) := by decide +kernel
theorem d_Mar_followPending_53 : decode cd_Mar_followPending 53 = .ok (.invokevirtual 94, 3) := by decide +kernel
theorem d_Mar_followPending_56 : decode cd_Mar_followPending 56 = .ok (.iinc 1 1, 3) := by decide +kernel
theorem d_Mar_followPending_59 : decode cd_Mar_followPending 59 = .ok (.goto (-57), 3) := by decide +kernel
theorem d_Mar_followPending_62 : decode cd_Mar_followPending 62 = .ok (.return_, 1) := by decide +kernel
set_option maxRecDepth 100000 in
set_option maxHeartbeats 4000000 in
theorem s_Mar_followPending_L2 {p : Program} {l : Launch} {e : Env} {s : State} {m : MethodId} {args : Array Value} {below : List Frame} {meth : Method} {c : Code} {V : xV} (C : xC p s m args c cd_Mar_followPending 3 R_Mar V) (hlocks : meth.locks = false) (hr : meth.sig.returnType = none) {Q : xS → Prop} {K2 : Int32 → xS → Prop} (hK2 : ∀ (x1 : Int32) (σ : xS) (H : Heap) (locs : List Loc) (ls : Array Slot), K2 x1 σ → xI V s.heap σ H locs → lv_has ls 3 [(0, .ref (V.2.2 11)), (1, .int x1)] → W p l e rm_Mar_followPending s m args below meth c H locs 0 0 (xZv below V args s Q) (F0 m 2 ls [])) {x1 : Int32} {σ : xS} {H : Heap} {locs : List Loc} {ls : Array Slot} (h : b_Mar_followPending_L2 K2 Q x1 σ) (hI : xI V s.heap σ H locs) (hl : lv_has ls 3 [(0, .ref (V.2.2 11)), (1, .int x1)]) : W p l e rm_Mar_followPending s m args below meth c H locs 0 0 (xZv below V args s Q) (F0 m 2 ls []) := by
  have hx := C.1
  have hb := C.2.1
  unfold b_Mar_followPending_L2 at h
  refine lv_iload_n hx hb d_Mar_followPending_2 rfl (lv_at hl 1 rfl) ?_
  refine lv_sipush (v := 640) hx hb d_Mar_followPending_3 (by decide) ?_
  refine lv_icmp_ge (tgt := 62) hx hb d_Mar_followPending_6 (by decide) (fun c1 => ?_) (fun c1 => ?_)
  · have h := h.1 c1
    exact x_vret C hlocks hr hI h d_Mar_followPending_62
  · have h := h.2 c1
    refine lv_aload_n hx hb d_Mar_followPending_9 rfl (lv_at hl 0 rfl) ?_
    refine x_get C hI (d := 11) (by decide) (xE11 V _) fd_Mar_23 rfl d_Mar_followPending_10 ?_
    refine lv_if_le (tgt := 62) hx hb d_Mar_followPending_13 (by decide) (fun c2 => ?_) (fun c2 => ?_)
    · have h := h.1 c2
      exact x_vret C hlocks hr hI h d_Mar_followPending_62
    · have h := h.2 c2
      refine lv_aload_n hx hb d_Mar_followPending_16 rfl (lv_at hl 0 rfl) ?_
      refine lv_dup hx hb d_Mar_followPending_17 rfl ?_
      refine x_get C hI (d := 11) (by decide) (xE11 V _) fd_Mar_23 rfl d_Mar_followPending_18 ?_
      refine lv_iconst (v := 1) hx hb d_Mar_followPending_21 (by decide) ?_
      refine lv_isub hx hb d_Mar_followPending_22 ?_
      refine x_put C hI (d := 11) (by decide) (xE11 V _) (xP_11_3 V _ _) fw_Mar_23 (Nat.le_of_ble_eq_true rfl) d_Mar_followPending_23 (fun H locs hI => ?_)
      refine lv_aload_n hx hb d_Mar_followPending_26 rfl (lv_at hl 0 rfl) ?_
      refine x_get C hI (d := 11) (by decide) (xE11 V _) fd_Mar_19 rfl d_Mar_followPending_27 ?_
      refine lv_aload_n hx hb d_Mar_followPending_30 rfl (lv_at hl 0 rfl) ?_
      refine x_get C hI (d := 11) (by decide) (xE11 V _) fd_Mar_23 rfl d_Mar_followPending_31 ?_
      obtain ⟨i3, h⟩ := h
      refine x_iald C hI (d := 27) (by decide) (xE27 V) i3 d_Mar_followPending_34 ?_
      refine lv_topi (fun z4 ez4 => ?_)
      have h := h z4 ez4
      refine lv_istore_n (lv' := [(2, .int z4), (0, .ref (V.2.2 11)), (1, .int x1)]) hx hb d_Mar_followPending_35 rfl hl (by decide) rfl (fun ls hl => ?_)
      refine lv_aload_n hx hb d_Mar_followPending_36 rfl (lv_at hl 1 rfl) ?_
      refine x_get C hI (d := 11) (by decide) (xE11 V _) fd_Mar_9 rfl d_Mar_followPending_37 ?_
      refine x_get C hI (d := 1) (by decide) (xE1 V _) fd_Mar_27 rfl d_Mar_followPending_40 ?_
      refine lv_iload_n hx hb d_Mar_followPending_43 rfl (lv_at hl 0 rfl) ?_
      refine x_calli C hI hl.1 (d := 6) (As := [.int z4]) (rest := []) (by decide) (c_Hea_kindOf h) (xE6 V _) rfl yw_Hea_kindOf ml_Mar_91 rfl rfl ⟨Nat.le_of_ble_eq_true rfl, Nat.le_of_ble_eq_true rfl⟩ rfl rfl (Nat.le_of_ble_eq_true rfl) d_Mar_followPending_44 ⟨Nat.zero_le _, Nat.zero_le _⟩ (fun r6 σ5 H locs h hI => ?_)
      refine lv_if_ne (tgt := 56) hx hb d_Mar_followPending_47 (by decide) (fun c7 => ?_) (fun c7 => ?_)
      · have h := h.1 c7
        obtain ⟨z8, ez8⟩ : ∃ y : Int32, y = x1 + 1 := ⟨_, rfl⟩
        have h := h z8 ez8
        refine lv_iinc (v := z8) (lv' := [(1, .int z8), (2, .int z4), (0, .ref (V.2.2 11))]) hx hb d_Mar_followPending_56 hl (k := 2) rfl (by rw [ez8]; rfl) (by decide) rfl (fun ls hl => ?_)
        refine lv_goto (tgt := 2) hx hb d_Mar_followPending_59 (by decide) ?_
        exact hK2 _ _ _ _ _ h hI (lv_sub hl [2, 0] rfl)
      · have h := h.2 c7
        refine lv_aload_n hx hb d_Mar_followPending_50 rfl (lv_at hl 1 rfl) ?_
        refine lv_iload_n hx hb d_Mar_followPending_51 rfl (lv_at hl 0 rfl) ?_
        refine lv_iconst (v := 0) hx hb d_Mar_followPending_52 (by decide) ?_
        refine x_callv C hI hl.1 (d := 11) (As := [.int z4, .int 0]) (rest := []) (by decide) (c_Mar_reachFields h) (xE11 V _) rfl yw_Mar_reachFields ml_Mar_94 rfl rfl ⟨Nat.le_of_ble_eq_true rfl, Nat.le_of_ble_eq_true rfl⟩ rfl rfl (Nat.le_of_ble_eq_true rfl) d_Mar_followPending_53 ⟨Nat.zero_le _, Nat.zero_le _⟩ (fun σ9 H locs h hI => ?_)
        obtain ⟨z10, ez10⟩ : ∃ y : Int32, y = x1 + 1 := ⟨_, rfl⟩
        have h := h z10 ez10
        refine lv_iinc (v := z10) (lv' := [(1, .int z10), (2, .int z4), (0, .ref (V.2.2 11))]) hx hb d_Mar_followPending_56 hl (k := 2) rfl (by rw [ez10]; rfl) (by decide) rfl (fun ls hl => ?_)
        refine lv_goto (tgt := 2) hx hb d_Mar_followPending_59 (by decide) ?_
        exact hK2 _ _ _ _ _ h hI (lv_sub hl [2, 0] rfl)
theorem w_Mar_followPending_L2 {p : Program} {l : Launch} {e : Env} {s : State} {m : MethodId} {args : Array Value} {below : List Frame} {meth : Method} {c : Code} {V : xV} (C : xC p s m args c cd_Mar_followPending 3 R_Mar V) (hlocks : meth.locks = false) (hr : meth.sig.returnType = none) {Q : xS → Prop} : ∀ (n : Nat) (x1 : Int32) (σ : xS) (H : Heap) (locs : List Loc) (ls : Array Slot), p_Mar_followPending_L2 Q n x1 σ → xI V s.heap σ H locs → lv_has ls 3 [(0, .ref (V.2.2 11)), (1, .int x1)] → W p l e rm_Mar_followPending s m args below meth c H locs 0 0 (xZv below V args s Q) (F0 m 2 ls []) := by
  intro n
  induction n with
  | zero =>
    intro x1 σ H locs ls h
    exact False.elim h
  | succ n ih =>
    intro x1 σ H locs ls h hI hl
    exact s_Mar_followPending_L2 C hlocks hr (K2 := p_Mar_followPending_L2 Q n) (fun x1 σ H locs ls h hI hl => ih x1 σ H locs ls h hI hl) h hI hl
set_option maxRecDepth 100000 in
set_option maxHeartbeats 4000000 in
theorem c_Mar_followPending {l : Launch} {V : xV} {σ : xS} {Q : xS → Prop} (h : p_Mar_followPending σ Q) : xMv l y_Mar_followPending (.code y_Mar_followPending cd_Mar_followPending 3 none :: xG) rm_Mar_followPending V [.ref (V.2.2 11)] σ Q := by
  refine x_beginv (by decide) (Nat.le_of_ble_eq_true rfl) (fun p e s m below meth c ls C hlocks hr hI hl => ?_)
  have C : xC p s m _ c cd_Mar_followPending 3 R_Mar V := C
  have hx := C.1
  have hb := C.2.1
  have hl : lv_has ls 3 [(0, .ref (V.2.2 11))] := hl
  unfold p_Mar_followPending at h
  refine lv_iconst (v := 0) hx hb d_Mar_followPending_0 (by decide) ?_
  refine lv_istore_n (lv' := [(1, .int 0), (0, .ref (V.2.2 11))]) hx hb d_Mar_followPending_1 rfl hl (by decide) rfl (fun ls hl => ?_)
  obtain ⟨n, h⟩ := h
  exact w_Mar_followPending_L2 C hlocks hr n _ _ _ _ _ h hI (lv_sub hl [1, 0] rfl)
theorem yw_Mar_followPending : xY y_Mar_followPending cd_Mar_followPending 3 none 0 := ⟨xG_mem 570 (by decide +kernel) (by decide +kernel), xG_mem 5 (by decide +kernel) (by decide +kernel), xG_mem 62 (by decide +kernel) (by decide +kernel), xG_mem 571 (by decide +kernel) (by decide +kernel), by decide, by decide, by decide +kernel⟩
theorem ml_Mar_81 : Cond.methodLink R_Mar 81 y_Mar_followPending ∈ xG := xG_mem 568 (by decide +kernel) (by decide +kernel)
def y_Mar_reachByKeys : MethodName := ⟨"RegionPool$Marker", "reachByKeys", "()Z"⟩
abbrev cd_Mar_reachByKeys : ByteArray := prog_6_method_11_code
theorem yw_Mar_refersToDead : xY y_Mar_refersToDead cd_Mar_refersToDead 3 (some .boolean) 1 := ⟨xG_mem 586 (by decide +kernel) (by decide +kernel), xG_mem 587 (by decide +kernel) (by decide +kernel), xG_mem 62 (by decide +kernel) (by decide +kernel), xG_mem 588 (by decide +kernel) (by decide +kernel), by decide, by decide, by decide +kernel⟩
theorem ml_Mar_98 : Cond.methodLink R_Mar 98 y_Mar_refersToDead ∈ xG := xG_mem 585 (by decide +kernel) (by decide +kernel)
def b_Mar_reachByKeys_L2 (K2 : Int32 → xS → Prop) (Q : Int32 → xS → Prop) (x1 : Int32) (σ : xS) : Prop :=
  ((640 ≤ x1 → (((σ 11 3) ≤ 0 → Q 0 σ) ∧ (¬ (σ 11 3) ≤ 0 → Q 1 σ))) ∧ (¬ 640 ≤ x1 → (vp_in x1 640 ∧ (((σ 26 x1.toNatClampNeg) = 0 → (∀ z5 : Int32, z5 = x1 + 1 → K2 z5 σ)) ∧ (¬ (σ 26 x1.toNatClampNeg) = 0 → p_Hea_kindOf x1 σ (fun r7 σ6 => ((¬ r7 = 2 → (∀ z9 : Int32, z9 = x1 + 1 → K2 z9 σ6)) ∧ (r7 = 2 → p_Mar_refersToDead (x1 + 1) σ6 (fun r11 σ10 => ((¬ r11 = 0 → (∀ z13 : Int32, z13 = x1 + 1 → K2 z13 σ10)) ∧ (r11 = 0 → p_Mar_reachFields x1 1 σ10 (fun σ14 => (∀ z15 : Int32, z15 = x1 + 1 → K2 z15 σ14)))))))))))))
def p_Mar_reachByKeys_L2 (Q : Int32 → xS → Prop) (n : Nat) : Int32 → xS → Prop := Nat.rec (motive := fun _ => Int32 → xS → Prop) (fun _ _ => False) (fun _ K x1 σ => b_Mar_reachByKeys_L2 K Q x1 σ) n
def p_Mar_reachByKeys (σ : xS) (Q : Int32 → xS → Prop) : Prop :=
  (∃ n, p_Mar_reachByKeys_L2 Q n 0 σ)
abbrev rm_Mar_reachByKeys : Room := { frames := 2, cells := 0, slots := 0, locals := 46 }
theorem d_Mar_reachByKeys_0 : decode cd_Mar_reachByKeys 0 = .ok (.iconst 0, 1) := by decide +kernel
theorem d_Mar_reachByKeys_1 : decode cd_Mar_reachByKeys 1 = .ok (.istore_n 1, 1) := by decide +kernel
theorem d_Mar_reachByKeys_2 : decode cd_Mar_reachByKeys 2 = .ok (.iload_n 1, 1) := by decide +kernel
theorem d_Mar_reachByKeys_3 : decode cd_Mar_reachByKeys 3 = .ok (.sipush 640, 3) := by decide +kernel
theorem d_Mar_reachByKeys_6 : decode cd_Mar_reachByKeys 6 = .ok (.if_icmp .ge 49, 3) := by decide +kernel
theorem d_Mar_reachByKeys_9 : decode cd_Mar_reachByKeys 9 = .ok (.aload_n 0, 1) := by decide +kernel
theorem d_Mar_reachByKeys_10 : decode cd_Mar_reachByKeys 10 = .ok (.getfield 15, 3) := by decide +kernel
theorem d_Mar_reachByKeys_13 : decode cd_Mar_reachByKeys 13 = .ok (.iload_n 1, 1) := by decide +kernel
theorem d_Mar_reachByKeys_14 : decode cd_Mar_reachByKeys 14 = .ok (.baload, 1) := by decide +kernel
theorem d_Mar_reachByKeys_15 : decode cd_Mar_reachByKeys 15 = .ok (.ifCond .eq 34, 3) := by decide +kernel
theorem d_Mar_reachByKeys_18 : decode cd_Mar_reachByKeys 18 = .ok (.aload_n 0, 1) := by decide +kernel
theorem d_Mar_reachByKeys_19 : decode cd_Mar_reachByKeys 19 = .ok (.getfield 9, 3) := by decide +kernel
theorem d_Mar_reachByKeys_22 : decode cd_Mar_reachByKeys 22 = .ok (.getfield 27, 3) := by decide +kernel
theorem d_Mar_reachByKeys_25 : decode cd_Mar_reachByKeys 25 = .ok (.iload_n 1, 1) := by decide +kernel
theorem d_Mar_reachByKeys_26 : decode cd_Mar_reachByKeys 26 = .ok (.invokevirtual 91, 3) := by decide +kernel
theorem d_Mar_reachByKeys_29 : decode cd_Mar_reachByKeys 29 = .ok (.iconst 2, 1) := by decide +kernel
theorem d_Mar_reachByKeys_30 : decode cd_Mar_reachByKeys 30 = .ok (.if_icmp .ne 19, 3) := by decide +kernel
theorem d_Mar_reachByKeys_33 : decode cd_Mar_reachByKeys 33 = .ok (.aload_n 0, 1) := by decide +kernel
theorem d_Mar_reachByKeys_34 : decode cd_Mar_reachByKeys 34 = .ok (.iload_n 1, 1) := by decide +kernel
theorem d_Mar_reachByKeys_35 : decode cd_Mar_reachByKeys 35 = .ok (.iconst 1, 1) := by decide +kernel
theorem d_Mar_reachByKeys_36 : decode cd_Mar_reachByKeys 36 = .ok (.iadd, 1) := by decide +kernel
theorem d_Mar_reachByKeys_37 : decode cd_Mar_reachByKeys 37 = .ok (.invokevirtual 98, 3) := by decide +kernel
theorem d_Mar_reachByKeys_40 : decode cd_Mar_reachByKeys 40 = .ok (.ifCond .ne 9, 3) := by decide +kernel
theorem d_Mar_reachByKeys_43 : decode cd_Mar_reachByKeys 43 = .ok (.aload_n 0, 1) := by decide +kernel
theorem d_Mar_reachByKeys_44 : decode cd_Mar_reachByKeys 44 = .ok (.iload_n 1, 1) := by decide +kernel
theorem d_Mar_reachByKeys_45 : decode cd_Mar_reachByKeys 45 = .ok (.iconst 1, 1) := by decide +kernel
theorem d_Mar_reachByKeys_46 : decode cd_Mar_reachByKeys 46 = .ok (.invokevirtual 94, 3) := by decide +kernel
theorem d_Mar_reachByKeys_49 : decode cd_Mar_reachByKeys 49 = .ok (.iinc 1 1, 3) := by decide +kernel
theorem d_Mar_reachByKeys_52 : decode cd_Mar_reachByKeys 52 = .ok (.goto (-50), 3) := by decide +kernel
theorem d_Mar_reachByKeys_55 : decode cd_Mar_reachByKeys 55 = .ok (.aload_n 0, 1) := by decide +kernel
theorem d_Mar_reachByKeys_56 : decode cd_Mar_reachByKeys 56 = .ok (.getfield 23, 3) := by decide +kernel
theorem d_Mar_reachByKeys_59 : decode cd_Mar_reachByKeys 59 = .ok (.ifCond .le 7, 3) := by decide +kernel
theorem d_Mar_reachByKeys_62 : decode cd_Mar_reachByKeys 62 = .ok (.iconst 1, 1) := by decide +kernel
theorem d_Mar_reachByKeys_63 : decode cd_Mar_reachByKeys 63 = .ok (.goto 4, 3) := by decide +kernel
theorem d_Mar_reachByKeys_66 : decode cd_Mar_reachByKeys 66 = .ok (.iconst 0, 1) := by decide +kernel
theorem d_Mar_reachByKeys_67 : decode cd_Mar_reachByKeys 67 = .ok (.ireturn, 1) := by decide +kernel
set_option maxRecDepth 100000 in
set_option maxHeartbeats 4000000 in
theorem s_Mar_reachByKeys_L2 {p : Program} {l : Launch} {e : Env} {s : State} {m : MethodId} {args : Array Value} {below : List Frame} {meth : Method} {c : Code} {V : xV} (C : xC p s m args c cd_Mar_reachByKeys 2 R_Mar V) (hlocks : meth.locks = false) (hr : meth.sig.returnType = (some .boolean)) {Q : Int32 → xS → Prop} {K2 : Int32 → xS → Prop} (hK2 : ∀ (x1 : Int32) (σ : xS) (H : Heap) (locs : List Loc) (ls : Array Slot), K2 x1 σ → xI V s.heap σ H locs → lv_has ls 2 [(0, .ref (V.2.2 11)), (1, .int x1)] → W p l e rm_Mar_reachByKeys s m args below meth c H locs 0 0 (xZi below V args s Q) (F0 m 2 ls [])) {x1 : Int32} {σ : xS} {H : Heap} {locs : List Loc} {ls : Array Slot} (h : b_Mar_reachByKeys_L2 K2 Q x1 σ) (hI : xI V s.heap σ H locs) (hl : lv_has ls 2 [(0, .ref (V.2.2 11)), (1, .int x1)]) : W p l e rm_Mar_reachByKeys s m args below meth c H locs 0 0 (xZi below V args s Q) (F0 m 2 ls []) := by
  have hx := C.1
  have hb := C.2.1
  unfold b_Mar_reachByKeys_L2 at h
  refine lv_iload_n hx hb d_Mar_reachByKeys_2 rfl (lv_at hl 1 rfl) ?_
  refine lv_sipush (v := 640) hx hb d_Mar_reachByKeys_3 (by decide) ?_
  refine lv_icmp_ge (tgt := 55) hx hb d_Mar_reachByKeys_6 (by decide) (fun c1 => ?_) (fun c1 => ?_)
  · have h := h.1 c1
    refine lv_aload_n hx hb d_Mar_reachByKeys_55 rfl (lv_at hl 0 rfl) ?_
    refine x_get C hI (d := 11) (by decide) (xE11 V _) fd_Mar_23 rfl d_Mar_reachByKeys_56 ?_
    refine lv_if_le (tgt := 66) hx hb d_Mar_reachByKeys_59 (by decide) (fun c2 => ?_) (fun c2 => ?_)
    · have h := h.1 c2
      refine lv_iconst (v := 0) hx hb d_Mar_reachByKeys_66 (by decide) ?_
      exact x_zret C hlocks hr hI ⟨rfl, h⟩ d_Mar_reachByKeys_67
    · have h := h.2 c2
      refine lv_iconst (v := 1) hx hb d_Mar_reachByKeys_62 (by decide) ?_
      refine lv_goto (tgt := 67) hx hb d_Mar_reachByKeys_63 (by decide) ?_
      exact x_zret C hlocks hr hI ⟨rfl, h⟩ d_Mar_reachByKeys_67
  · have h := h.2 c1
    refine lv_aload_n hx hb d_Mar_reachByKeys_9 rfl (lv_at hl 0 rfl) ?_
    refine x_get C hI (d := 11) (by decide) (xE11 V _) fd_Mar_15 rfl d_Mar_reachByKeys_10 ?_
    refine lv_iload_n hx hb d_Mar_reachByKeys_13 rfl (lv_at hl 1 rfl) ?_
    obtain ⟨i3, h⟩ := h
    refine x_zald C hI (d := 26) (by decide) (xE26 V) i3 d_Mar_reachByKeys_14 ?_
    refine lv_if_eq (tgt := 49) hx hb d_Mar_reachByKeys_15 (by decide) (fun c4 => ?_) (fun c4 => ?_)
    · have h := h.1 c4
      obtain ⟨z5, ez5⟩ : ∃ y : Int32, y = x1 + 1 := ⟨_, rfl⟩
      have h := h z5 ez5
      refine lv_iinc (v := z5) (lv' := [(1, .int z5), (0, .ref (V.2.2 11))]) hx hb d_Mar_reachByKeys_49 hl (k := 1) rfl (by rw [ez5]; rfl) (by decide) rfl (fun ls hl => ?_)
      refine lv_goto (tgt := 2) hx hb d_Mar_reachByKeys_52 (by decide) ?_
      exact hK2 _ _ _ _ _ h hI (lv_sub hl [1, 0] rfl)
    · have h := h.2 c4
      refine lv_aload_n hx hb d_Mar_reachByKeys_18 rfl (lv_at hl 0 rfl) ?_
      refine x_get C hI (d := 11) (by decide) (xE11 V _) fd_Mar_9 rfl d_Mar_reachByKeys_19 ?_
      refine x_get C hI (d := 1) (by decide) (xE1 V _) fd_Mar_27 rfl d_Mar_reachByKeys_22 ?_
      refine lv_iload_n hx hb d_Mar_reachByKeys_25 rfl (lv_at hl 1 rfl) ?_
      refine x_calli C hI hl.1 (d := 6) (As := [.int x1]) (rest := []) (by decide) (c_Hea_kindOf h) (xE6 V _) rfl yw_Hea_kindOf ml_Mar_91 rfl rfl ⟨Nat.le_of_ble_eq_true rfl, Nat.le_of_ble_eq_true rfl⟩ rfl rfl (Nat.le_of_ble_eq_true rfl) d_Mar_reachByKeys_26 ⟨Nat.zero_le _, Nat.zero_le _⟩ (fun r7 σ6 H locs h hI => ?_)
      refine lv_iconst (v := 2) hx hb d_Mar_reachByKeys_29 (by decide) ?_
      refine lv_icmp_ne (tgt := 49) hx hb d_Mar_reachByKeys_30 (by decide) (fun c8 => ?_) (fun c8 => ?_)
      · have h := h.1 c8
        obtain ⟨z9, ez9⟩ : ∃ y : Int32, y = x1 + 1 := ⟨_, rfl⟩
        have h := h z9 ez9
        refine lv_iinc (v := z9) (lv' := [(1, .int z9), (0, .ref (V.2.2 11))]) hx hb d_Mar_reachByKeys_49 hl (k := 1) rfl (by rw [ez9]; rfl) (by decide) rfl (fun ls hl => ?_)
        refine lv_goto (tgt := 2) hx hb d_Mar_reachByKeys_52 (by decide) ?_
        exact hK2 _ _ _ _ _ h hI (lv_sub hl [1, 0] rfl)
      · have h := h.2 c8
        refine lv_aload_n hx hb d_Mar_reachByKeys_33 rfl (lv_at hl 0 rfl) ?_
        refine lv_iload_n hx hb d_Mar_reachByKeys_34 rfl (lv_at hl 1 rfl) ?_
        refine lv_iconst (v := 1) hx hb d_Mar_reachByKeys_35 (by decide) ?_
        refine lv_iadd hx hb d_Mar_reachByKeys_36 ?_
        refine x_calli C hI hl.1 (d := 11) (As := [.int (x1 + 1)]) (rest := []) (by decide) (c_Mar_refersToDead h) (xE11 V _) rfl yw_Mar_refersToDead ml_Mar_98 rfl rfl ⟨Nat.le_of_ble_eq_true rfl, Nat.le_of_ble_eq_true rfl⟩ rfl rfl (Nat.le_of_ble_eq_true rfl) d_Mar_reachByKeys_37 ⟨Nat.zero_le _, Nat.zero_le _⟩ (fun r11 σ10 H locs h hI => ?_)
        refine lv_if_ne (tgt := 49) hx hb d_Mar_reachByKeys_40 (by decide) (fun c12 => ?_) (fun c12 => ?_)
        · have h := h.1 c12
          obtain ⟨z13, ez13⟩ : ∃ y : Int32, y = x1 + 1 := ⟨_, rfl⟩
          have h := h z13 ez13
          refine lv_iinc (v := z13) (lv' := [(1, .int z13), (0, .ref (V.2.2 11))]) hx hb d_Mar_reachByKeys_49 hl (k := 1) rfl (by rw [ez13]; rfl) (by decide) rfl (fun ls hl => ?_)
          refine lv_goto (tgt := 2) hx hb d_Mar_reachByKeys_52 (by decide) ?_
          exact hK2 _ _ _ _ _ h hI (lv_sub hl [1, 0] rfl)
        · have h := h.2 c12
          refine lv_aload_n hx hb d_Mar_reachByKeys_43 rfl (lv_at hl 0 rfl) ?_
          refine lv_iload_n hx hb d_Mar_reachByKeys_44 rfl (lv_at hl 1 rfl) ?_
          refine lv_iconst (v := 1) hx hb d_Mar_reachByKeys_45 (by decide) ?_
          refine x_callv C hI hl.1 (d := 11) (As := [.int x1, .int 1]) (rest := []) (by decide) (c_Mar_reachFields h) (xE11 V _) rfl yw_Mar_reachFields ml_Mar_94 rfl rfl ⟨Nat.le_of_ble_eq_true rfl, Nat.le_of_ble_eq_true rfl⟩ rfl rfl (Nat.le_of_ble_eq_true rfl) d_Mar_reachByKeys_46 ⟨Nat.zero_le _, Nat.zero_le _⟩ (fun σ14 H locs h hI => ?_)
          obtain ⟨z15, ez15⟩ : ∃ y : Int32, y = x1 + 1 := ⟨_, rfl⟩
          have h := h z15 ez15
          refine lv_iinc (v := z15) (lv' := [(1, .int z15), (0, .ref (V.2.2 11))]) hx hb d_Mar_reachByKeys_49 hl (k := 1) rfl (by rw [ez15]; rfl) (by decide) rfl (fun ls hl => ?_)
          refine lv_goto (tgt := 2) hx hb d_Mar_reachByKeys_52 (by decide) ?_
          exact hK2 _ _ _ _ _ h hI (lv_sub hl [1, 0] rfl)
theorem w_Mar_reachByKeys_L2 {p : Program} {l : Launch} {e : Env} {s : State} {m : MethodId} {args : Array Value} {below : List Frame} {meth : Method} {c : Code} {V : xV} (C : xC p s m args c cd_Mar_reachByKeys 2 R_Mar V) (hlocks : meth.locks = false) (hr : meth.sig.returnType = (some .boolean)) {Q : Int32 → xS → Prop} : ∀ (n : Nat) (x1 : Int32) (σ : xS) (H : Heap) (locs : List Loc) (ls : Array Slot), p_Mar_reachByKeys_L2 Q n x1 σ → xI V s.heap σ H locs → lv_has ls 2 [(0, .ref (V.2.2 11)), (1, .int x1)] → W p l e rm_Mar_reachByKeys s m args below meth c H locs 0 0 (xZi below V args s Q) (F0 m 2 ls []) := by
  intro n
  induction n with
  | zero =>
    intro x1 σ H locs ls h
    exact False.elim h
  | succ n ih =>
    intro x1 σ H locs ls h hI hl
    exact s_Mar_reachByKeys_L2 C hlocks hr (K2 := p_Mar_reachByKeys_L2 Q n) (fun x1 σ H locs ls h hI hl => ih x1 σ H locs ls h hI hl) h hI hl
set_option maxRecDepth 100000 in
set_option maxHeartbeats 4000000 in
theorem c_Mar_reachByKeys {l : Launch} {V : xV} {σ : xS} {Q : Int32 → xS → Prop} (h : p_Mar_reachByKeys σ Q) : xMi l y_Mar_reachByKeys (.code y_Mar_reachByKeys cd_Mar_reachByKeys 2 (some .boolean) :: xG) rm_Mar_reachByKeys V [.ref (V.2.2 11)] σ Q := by
  refine x_begini (by decide) (Nat.le_of_ble_eq_true rfl) (fun p e s m below meth c ls C hlocks hr hI hl => ?_)
  have C : xC p s m _ c cd_Mar_reachByKeys 2 R_Mar V := C
  have hx := C.1
  have hb := C.2.1
  have hl : lv_has ls 2 [(0, .ref (V.2.2 11))] := hl
  unfold p_Mar_reachByKeys at h
  refine lv_iconst (v := 0) hx hb d_Mar_reachByKeys_0 (by decide) ?_
  refine lv_istore_n (lv' := [(1, .int 0), (0, .ref (V.2.2 11))]) hx hb d_Mar_reachByKeys_1 rfl hl (by decide) rfl (fun ls hl => ?_)
  obtain ⟨n, h⟩ := h
  exact w_Mar_reachByKeys_L2 C hlocks hr n _ _ _ _ _ h hI (lv_sub hl [1, 0] rfl)
theorem yw_Mar_reachByKeys : xY y_Mar_reachByKeys cd_Mar_reachByKeys 2 (some .boolean) 0 := ⟨xG_mem 583 (by decide +kernel) (by decide +kernel), xG_mem 7 (by decide +kernel) (by decide +kernel), xG_mem 62 (by decide +kernel) (by decide +kernel), xG_mem 584 (by decide +kernel) (by decide +kernel), by decide, by decide, by decide +kernel⟩
theorem ml_Mar_84 : Cond.methodLink R_Mar 84 y_Mar_reachByKeys ∈ xG := xG_mem 581 (by decide +kernel) (by decide +kernel)
def b_Mar_spread_L6 (K6 : Int32 → xS → Prop) (Q : xS → Prop) (x1 : Int32) (σ : xS) : Prop :=
  ((640 ≤ x1 → Q σ) ∧ (¬ 640 ≤ x1 → p_Mar_reachByKeys σ (fun r4 σ3 => ((r4 = 0 → Q σ3) ∧ (¬ r4 = 0 → p_Mar_followPending σ3 (fun σ6 => (∀ z7 : Int32, z7 = x1 + 1 → K6 z7 σ6)))))))
def p_Mar_spread_L6 (Q : xS → Prop) (n : Nat) : Int32 → xS → Prop := Nat.rec (motive := fun _ => Int32 → xS → Prop) (fun _ _ => False) (fun _ K x1 σ => b_Mar_spread_L6 K Q x1 σ) n
def p_Mar_spread (σ : xS) (Q : xS → Prop) : Prop :=
  p_Mar_followPending σ (fun σ1 => (∃ n, p_Mar_spread_L6 Q n 0 σ1))
abbrev rm_Mar_spread : Room := { frames := 3, cells := 0, slots := 0, locals := 68 }
theorem d_Mar_spread_0 : decode cd_Mar_spread 0 = .ok (.aload_n 0, 1) := by decide +kernel
theorem d_Mar_spread_1 : decode cd_Mar_spread 1 = .ok (.invokevirtual 81, 3) := by decide +kernel
theorem d_Mar_spread_4 : decode cd_Mar_spread 4 = .ok (.iconst 0, 1) := by decide +kernel
theorem d_Mar_spread_5 : decode cd_Mar_spread 5 = .ok (.istore_n 1, 1) := by decide +kernel
theorem d_Mar_spread_6 : decode cd_Mar_spread 6 = .ok (.iload_n 1, 1) := by decide +kernel
theorem d_Mar_spread_7 : decode cd_Mar_spread 7 = .ok (.sipush 640, 3) := by decide +kernel
theorem d_Mar_spread_10 : decode cd_Mar_spread 10 = .ok (.if_icmp .ge 20, 3) := by decide +kernel
theorem d_Mar_spread_13 : decode cd_Mar_spread 13 = .ok (.aload_n 0, 1) := by decide +kernel
theorem d_Mar_spread_14 : decode cd_Mar_spread 14 = .ok (.invokevirtual 84, 3) := by decide +kernel
theorem d_Mar_spread_17 : decode cd_Mar_spread 17 = .ok (.ifCond .eq 13, 3) := by decide +kernel
theorem d_Mar_spread_20 : decode cd_Mar_spread 20 = .ok (.aload_n 0, 1) := by decide +kernel
theorem d_Mar_spread_21 : decode cd_Mar_spread 21 = .ok (.invokevirtual 81, 3) := by decide +kernel
theorem d_Mar_spread_24 : decode cd_Mar_spread 24 = .ok (.iinc 1 1, 3) := by decide +kernel
theorem d_Mar_spread_27 : decode cd_Mar_spread 27 = .ok (.goto (-21), 3) := by decide +kernel
theorem d_Mar_spread_30 : decode cd_Mar_spread 30 = .ok (.return_, 1) := by decide +kernel
set_option maxRecDepth 100000 in
set_option maxHeartbeats 4000000 in
theorem s_Mar_spread_L6 {p : Program} {l : Launch} {e : Env} {s : State} {m : MethodId} {args : Array Value} {below : List Frame} {meth : Method} {c : Code} {V : xV} (C : xC p s m args c cd_Mar_spread 2 R_Mar V) (hlocks : meth.locks = false) (hr : meth.sig.returnType = none) {Q : xS → Prop} {K6 : Int32 → xS → Prop} (hK6 : ∀ (x1 : Int32) (σ : xS) (H : Heap) (locs : List Loc) (ls : Array Slot), K6 x1 σ → xI V s.heap σ H locs → lv_has ls 2 [(0, .ref (V.2.2 11)), (1, .int x1)] → W p l e rm_Mar_spread s m args below meth c H locs 0 0 (xZv below V args s Q) (F0 m 6 ls [])) {x1 : Int32} {σ : xS} {H : Heap} {locs : List Loc} {ls : Array Slot} (h : b_Mar_spread_L6 K6 Q x1 σ) (hI : xI V s.heap σ H locs) (hl : lv_has ls 2 [(0, .ref (V.2.2 11)), (1, .int x1)]) : W p l e rm_Mar_spread s m args below meth c H locs 0 0 (xZv below V args s Q) (F0 m 6 ls []) := by
  have hx := C.1
  have hb := C.2.1
  unfold b_Mar_spread_L6 at h
  refine lv_iload_n hx hb d_Mar_spread_6 rfl (lv_at hl 1 rfl) ?_
  refine lv_sipush (v := 640) hx hb d_Mar_spread_7 (by decide) ?_
  refine lv_icmp_ge (tgt := 30) hx hb d_Mar_spread_10 (by decide) (fun c2 => ?_) (fun c2 => ?_)
  · have h := h.1 c2
    exact x_vret C hlocks hr hI h d_Mar_spread_30
  · have h := h.2 c2
    refine lv_aload_n hx hb d_Mar_spread_13 rfl (lv_at hl 0 rfl) ?_
    refine x_calli C hI hl.1 (d := 11) (As := []) (rest := []) (by decide) (c_Mar_reachByKeys h) (xE11 V _) rfl yw_Mar_reachByKeys ml_Mar_84 rfl rfl ⟨Nat.le_of_ble_eq_true rfl, Nat.le_of_ble_eq_true rfl⟩ rfl rfl (Nat.le_of_ble_eq_true rfl) d_Mar_spread_14 ⟨Nat.zero_le _, Nat.zero_le _⟩ (fun r4 σ3 H locs h hI => ?_)
    refine lv_if_eq (tgt := 30) hx hb d_Mar_spread_17 (by decide) (fun c5 => ?_) (fun c5 => ?_)
    · have h := h.1 c5
      exact x_vret C hlocks hr hI h d_Mar_spread_30
    · have h := h.2 c5
      refine lv_aload_n hx hb d_Mar_spread_20 rfl (lv_at hl 0 rfl) ?_
      refine x_callv C hI hl.1 (d := 11) (As := []) (rest := []) (by decide) (c_Mar_followPending h) (xE11 V _) rfl yw_Mar_followPending ml_Mar_81 rfl rfl ⟨Nat.le_of_ble_eq_true rfl, Nat.le_of_ble_eq_true rfl⟩ rfl rfl (Nat.le_of_ble_eq_true rfl) d_Mar_spread_21 ⟨Nat.zero_le _, Nat.zero_le _⟩ (fun σ6 H locs h hI => ?_)
      obtain ⟨z7, ez7⟩ : ∃ y : Int32, y = x1 + 1 := ⟨_, rfl⟩
      have h := h z7 ez7
      refine lv_iinc (v := z7) (lv' := [(1, .int z7), (0, .ref (V.2.2 11))]) hx hb d_Mar_spread_24 hl (k := 1) rfl (by rw [ez7]; rfl) (by decide) rfl (fun ls hl => ?_)
      refine lv_goto (tgt := 6) hx hb d_Mar_spread_27 (by decide) ?_
      exact hK6 _ _ _ _ _ h hI (lv_sub hl [1, 0] rfl)
theorem w_Mar_spread_L6 {p : Program} {l : Launch} {e : Env} {s : State} {m : MethodId} {args : Array Value} {below : List Frame} {meth : Method} {c : Code} {V : xV} (C : xC p s m args c cd_Mar_spread 2 R_Mar V) (hlocks : meth.locks = false) (hr : meth.sig.returnType = none) {Q : xS → Prop} : ∀ (n : Nat) (x1 : Int32) (σ : xS) (H : Heap) (locs : List Loc) (ls : Array Slot), p_Mar_spread_L6 Q n x1 σ → xI V s.heap σ H locs → lv_has ls 2 [(0, .ref (V.2.2 11)), (1, .int x1)] → W p l e rm_Mar_spread s m args below meth c H locs 0 0 (xZv below V args s Q) (F0 m 6 ls []) := by
  intro n
  induction n with
  | zero =>
    intro x1 σ H locs ls h
    exact False.elim h
  | succ n ih =>
    intro x1 σ H locs ls h hI hl
    exact s_Mar_spread_L6 C hlocks hr (K6 := p_Mar_spread_L6 Q n) (fun x1 σ H locs ls h hI hl => ih x1 σ H locs ls h hI hl) h hI hl
set_option maxRecDepth 100000 in
set_option maxHeartbeats 4000000 in
theorem c_Mar_spread {l : Launch} {V : xV} {σ : xS} {Q : xS → Prop} (h : p_Mar_spread σ Q) : xMv l y_Mar_spread (.code y_Mar_spread cd_Mar_spread 2 none :: xG) rm_Mar_spread V [.ref (V.2.2 11)] σ Q := by
  refine x_beginv (by decide) (Nat.le_of_ble_eq_true rfl) (fun p e s m below meth c ls C hlocks hr hI hl => ?_)
  have C : xC p s m _ c cd_Mar_spread 2 R_Mar V := C
  have hx := C.1
  have hb := C.2.1
  have hl : lv_has ls 2 [(0, .ref (V.2.2 11))] := hl
  unfold p_Mar_spread at h
  refine lv_aload_n hx hb d_Mar_spread_0 rfl (lv_at hl 0 rfl) ?_
  refine x_callv C hI hl.1 (d := 11) (As := []) (rest := []) (by decide) (c_Mar_followPending h) (xE11 V _) rfl yw_Mar_followPending ml_Mar_81 rfl rfl ⟨Nat.le_of_ble_eq_true rfl, Nat.le_of_ble_eq_true rfl⟩ rfl rfl (Nat.le_of_ble_eq_true rfl) d_Mar_spread_1 ⟨Nat.zero_le _, Nat.zero_le _⟩ (fun σ1 H locs h hI => ?_)
  refine lv_iconst (v := 0) hx hb d_Mar_spread_4 (by decide) ?_
  refine lv_istore_n (lv' := [(1, .int 0), (0, .ref (V.2.2 11))]) hx hb d_Mar_spread_5 rfl hl (by decide) rfl (fun ls hl => ?_)
  obtain ⟨n, h⟩ := h
  exact w_Mar_spread_L6 C hlocks hr n _ _ _ _ _ h hI (lv_sub hl [1, 0] rfl)
