def y_Mod_alike : MethodName := ⟨"RegionPoolModel", "alike", "(II)Z"⟩
abbrev cd_Mod_alike : ByteArray := prog_12_method_39_code
theorem fw_Mod_183 : xFw R_Mod 183 10 31 := ⟨R_Mod, T_Mod, 32, t_Mod, rfl, in_Mod, by decide, xG_mem 1015 (by decide +kernel) (by decide +kernel), tk_Mod, nm_Mod, rfl, by decide +kernel⟩
theorem xP_31_31 (V : xV) (f : Nat → Int32) (x : Int32) : xE V 31 (upd f 31 x) = .inr (10, [.int (f 0), .ref (V.2.2 40), .ref (V.2.2 41), .ref (V.2.2 42), .ref (V.2.2 43), .ref (V.2.2 44), .ref (V.2.2 45), .ref (V.2.2 46), .ref (V.2.2 47), .ref (V.2.2 48), .int (f 10), .ref (V.2.2 49), .ref (V.2.2 50), .int (f 13), .ref (V.2.2 51), .ref (V.2.2 52), .ref (V.2.2 53), .ref (V.2.2 54), .ref (V.2.2 55), .int (f 19), .ref (V.2.2 56), .int (f 21), .int (f 22), .int (f 23), .int (f 24), .int (f 25), .int (f 26), .ref (V.2.2 57), .ref (V.2.2 58), .ref (V.2.2 59), .ref (V.2.2 60), .int (f 31)].set 31 (.int x)) := rfl
def y_Mod_mayBe : MethodName := ⟨"RegionPoolModel", "mayBe", "(IIII)Z"⟩
abbrev cd_Mod_mayBe : ByteArray := prog_12_method_38_code
theorem fd_Mod_68 : xFd R_Mod 68 10 29 := ⟨R_Mod, T_Mod, 32, rfl, in_Mod, by decide, xG_mem 1013 (by decide +kernel) (by decide +kernel)⟩
theorem fd_Mod_73 : xFd R_Mod 73 10 30 := ⟨R_Mod, T_Mod, 32, rfl, in_Mod, by decide, xG_mem 1014 (by decide +kernel) (by decide +kernel)⟩
theorem fd_Mod_183 : xFd R_Mod 183 10 31 := ⟨R_Mod, T_Mod, 32, rfl, in_Mod, by decide, xG_mem 1015 (by decide +kernel) (by decide +kernel)⟩
def p_Mod_mayBe_J18 (Q : Int32 → xS → Prop) (x1 x2 x4 : Int32) (σ : xS) : Prop :=
  ((¬ x1 = 2 → Q 1 σ) ∧ (x1 = 2 → (∀ z4 : Int32, z4 = ((640 * x2) + x4) → (vp_in (z4 / 64) 6400 ∧ ((¬ (lg_cmp (((xL (σ 59) (z4 / 64).toNatClampNeg) >>> ((z4 - z4 / 64 * 64).toInt64 &&& 63)) &&& 1) 0) = 0 → Q 1 σ) ∧ ((lg_cmp (((xL (σ 59) (z4 / 64).toNatClampNeg) >>> ((z4 - z4 / 64 * 64).toInt64 &&& 63)) &&& 1) 0) = 0 → (vp_in (z4 / 64) 6400 ∧ (vp_in (z4 / 64) 6400 ∧ (vp_in ((xul σ 59 (z4 / 64).toNatClampNeg ((xL (σ 59) (z4 / 64).toNatClampNeg) ||| (1 <<< ((z4 - z4 / 64 * 64).toInt64 &&& 63)))) 31 31) 409600 ∧ Q 1 (xu (xu (xul σ 59 (z4 / 64).toNatClampNeg ((xL (σ 59) (z4 / 64).toNatClampNeg) ||| (1 <<< ((z4 - z4 / 64 * 64).toInt64 &&& 63)))) 60 ((xul σ 59 (z4 / 64).toNatClampNeg ((xL (σ 59) (z4 / 64).toNatClampNeg) ||| (1 <<< ((z4 - z4 / 64 * 64).toInt64 &&& 63)))) 31 31).toNatClampNeg z4) 31 31 (((xu (xul σ 59 (z4 / 64).toNatClampNeg ((xL (σ 59) (z4 / 64).toNatClampNeg) ||| (1 <<< ((z4 - z4 / 64 * 64).toInt64 &&& 63)))) 60 ((xul σ 59 (z4 / 64).toNatClampNeg ((xL (σ 59) (z4 / 64).toNatClampNeg) ||| (1 <<< ((z4 - z4 / 64 * 64).toInt64 &&& 63)))) 31 31).toNatClampNeg z4) 31 31) + 1)))))))))))
def p_Mod_mayBe (x1 x2 x3 x4 : Int32) (σ : xS) (Q : Int32 → xS → Prop) : Prop :=
  ((¬ x1 = x3 → Q 0 σ) ∧ (x1 = x3 → ((x1 = 2 → p_Mod_mayBe_J18 Q x1 x2 x4 σ) ∧ (¬ x1 = 2 → ((x2 = x4 → p_Mod_mayBe_J18 Q x1 x2 x4 σ) ∧ (¬ x2 = x4 → Q 0 σ))))))
abbrev rm_Mod_mayBe : Room := { frames := 0, cells := 0, slots := 0, locals := 0 }
theorem d_Mod_mayBe_0 : decode cd_Mod_mayBe 0 = .ok (.iload_n 1, 1) := by decide +kernel
theorem d_Mod_mayBe_1 : decode cd_Mod_mayBe 1 = .ok (.iload_n 3, 1) := by decide +kernel
theorem d_Mod_mayBe_2 : decode cd_Mod_mayBe 2 = .ok (.if_icmp .ne 14, 3) := by decide +kernel
theorem d_Mod_mayBe_5 : decode cd_Mod_mayBe 5 = .ok (.iload_n 1, 1) := by decide +kernel
theorem d_Mod_mayBe_6 : decode cd_Mod_mayBe 6 = .ok (.iconst 2, 1) := by decide +kernel
theorem d_Mod_mayBe_7 : decode cd_Mod_mayBe 7 = .ok (.if_icmp .eq 11, 3) := by decide +kernel
theorem d_Mod_mayBe_10 : decode cd_Mod_mayBe 10 = .ok (.iload_n 2, 1) := by decide +kernel
theorem d_Mod_mayBe_11 : decode cd_Mod_mayBe 11 = .ok (.iload 4, 2) := by decide +kernel
theorem d_Mod_mayBe_13 : decode cd_Mod_mayBe 13 = .ok (.if_icmp .eq 5, 3) := by decide +kernel
theorem d_Mod_mayBe_16 : decode cd_Mod_mayBe 16 = .ok (.iconst 0, 1) := by decide +kernel
theorem d_Mod_mayBe_17 : decode cd_Mod_mayBe 17 = .ok (.ireturn, 1) := by decide +kernel
theorem d_Mod_mayBe_18 : decode cd_Mod_mayBe 18 = .ok (.iload_n 1, 1) := by decide +kernel
theorem d_Mod_mayBe_19 : decode cd_Mod_mayBe 19 = .ok (.iconst 2, 1) := by decide +kernel
theorem d_Mod_mayBe_20 : decode cd_Mod_mayBe 20 = .ok (.if_icmp .ne 77, 3) := by decide +kernel
theorem d_Mod_mayBe_23 : decode cd_Mod_mayBe 23 = .ok (.sipush 640, 3) := by decide +kernel
theorem d_Mod_mayBe_26 : decode cd_Mod_mayBe 26 = .ok (.iload_n 2, 1) := by decide +kernel
theorem d_Mod_mayBe_27 : decode cd_Mod_mayBe 27 = .ok (.imul, 1) := by decide +kernel
theorem d_Mod_mayBe_28 : decode cd_Mod_mayBe 28 = .ok (.iload 4, 2) := by decide +kernel
theorem d_Mod_mayBe_30 : decode cd_Mod_mayBe 30 = .ok (.iadd, 1) := by decide +kernel
theorem d_Mod_mayBe_31 : decode cd_Mod_mayBe 31 = .ok (.istore 5, 2) := by decide +kernel
theorem d_Mod_mayBe_33 : decode cd_Mod_mayBe 33 = .ok (.aload_n 0, 1) := by decide +kernel
theorem d_Mod_mayBe_34 : decode cd_Mod_mayBe 34 = .ok (.getfield 68, 3) := by decide +kernel
theorem d_Mod_mayBe_37 : decode cd_Mod_mayBe 37 = .ok (.iload 5, 2) := by decide +kernel
theorem d_Mod_mayBe_39 : decode cd_Mod_mayBe 39 = .ok (.bipush 64, 2) := by decide +kernel
theorem d_Mod_mayBe_41 : decode cd_Mod_mayBe 41 = .ok (.idiv, 1) := by decide +kernel
theorem d_Mod_mayBe_42 : decode cd_Mod_mayBe 42 = .ok (.laload, 1) := by decide +kernel
theorem d_Mod_mayBe_43 : decode cd_Mod_mayBe 43 = .ok (.iload 5, 2) := by decide +kernel
theorem d_Mod_mayBe_45 : decode cd_Mod_mayBe 45 = .ok (.bipush 64, 2) := by decide +kernel
theorem d_Mod_mayBe_47 : decode cd_Mod_mayBe 47 = .ok (.irem, 1) := by decide +kernel
theorem d_Mod_mayBe_48 : decode cd_Mod_mayBe 48 = .ok (.lshr, 1) := by decide +kernel
theorem d_Mod_mayBe_49 : decode cd_Mod_mayBe 49 = .ok (.lconst 1, 1) := by decide +kernel
theorem d_Mod_mayBe_50 : decode cd_Mod_mayBe 50 = .ok (.land, 1) := by decide +kernel
theorem d_Mod_mayBe_51 : decode cd_Mod_mayBe 51 = .ok (.lconst 0, 1) := by decide +kernel
theorem d_Mod_mayBe_52 : decode cd_Mod_mayBe 52 = .ok (.lcmp, 1) := by decide +kernel
theorem d_Mod_mayBe_53 : decode cd_Mod_mayBe 53 = .ok (.ifCond .ne 44, 3) := by decide +kernel
theorem d_Mod_mayBe_56 : decode cd_Mod_mayBe 56 = .ok (.aload_n 0, 1) := by decide +kernel
theorem d_Mod_mayBe_57 : decode cd_Mod_mayBe 57 = .ok (.getfield 68, 3) := by decide +kernel
theorem d_Mod_mayBe_60 : decode cd_Mod_mayBe 60 = .ok (.iload 5, 2) := by decide +kernel
theorem d_Mod_mayBe_62 : decode cd_Mod_mayBe 62 = .ok (.bipush 64, 2) := by decide +kernel
theorem d_Mod_mayBe_64 : decode cd_Mod_mayBe 64 = .ok (.idiv, 1) := by decide +kernel
theorem d_Mod_mayBe_65 : decode cd_Mod_mayBe 65 = .ok (.dup2, 1) := by decide +kernel
theorem d_Mod_mayBe_66 : decode cd_Mod_mayBe 66 = .ok (.laload, 1) := by decide +kernel
theorem d_Mod_mayBe_67 : decode cd_Mod_mayBe 67 = .ok (.lconst 1, 1) := by decide +kernel
theorem d_Mod_mayBe_68 : decode cd_Mod_mayBe 68 = .ok (.iload 5, 2) := by decide +kernel
theorem d_Mod_mayBe_70 : decode cd_Mod_mayBe 70 = .ok (.bipush 64, 2) := by decide +kernel
theorem d_Mod_mayBe_72 : decode cd_Mod_mayBe 72 = .ok (.irem, 1) := by decide +kernel
theorem d_Mod_mayBe_73 : decode cd_Mod_mayBe 73 = .ok (.lshl, 1) := by decide +kernel
theorem d_Mod_mayBe_74 : decode cd_Mod_mayBe 74 = .ok (.lor, 1) := by decide +kernel
theorem d_Mod_mayBe_75 : decode cd_Mod_mayBe 75 = .ok (.lastore, 1) := by decide +kernel
theorem d_Mod_mayBe_76 : decode cd_Mod_mayBe 76 = .ok (.aload_n 0, 1) := by decide +kernel
theorem d_Mod_mayBe_77 : decode cd_Mod_mayBe 77 = .ok (.getfield 73, 3) := by decide +kernel
theorem d_Mod_mayBe_80 : decode cd_Mod_mayBe 80 = .ok (.aload_n 0, 1) := by decide +kernel
theorem d_Mod_mayBe_81 : decode cd_Mod_mayBe 81 = .ok (.getfield 183, 3) := by decide +kernel
theorem d_Mod_mayBe_84 : decode cd_Mod_mayBe 84 = .ok (.iload 5, 2) := by decide +kernel
theorem d_Mod_mayBe_86 : decode cd_Mod_mayBe 86 = .ok (.iastore, 1) := by decide +kernel
theorem d_Mod_mayBe_87 : decode cd_Mod_mayBe 87 = .ok (.aload_n 0, 1) := by decide +kernel
theorem d_Mod_mayBe_88 : decode cd_Mod_mayBe 88 = .ok (.dup, 1) := by decide +kernel
theorem d_Mod_mayBe_89 : decode cd_Mod_mayBe 89 = .ok (.getfield 183, 3) := by decide +kernel
theorem d_Mod_mayBe_92 : decode cd_Mod_mayBe 92 = .ok (.iconst 1, 1) := by decide +kernel
theorem d_Mod_mayBe_93 : decode cd_Mod_mayBe 93 = .ok (.iadd, 1) := by decide +kernel
theorem d_Mod_mayBe_94 : decode cd_Mod_mayBe 94 = .ok (.putfield 183, 3) := by decide +kernel
theorem d_Mod_mayBe_97 : decode cd_Mod_mayBe 97 = .ok (.iconst 1, 1) := by decide +kernel
theorem d_Mod_mayBe_98 : decode cd_Mod_mayBe 98 = .ok (.ireturn, 1) := by decide +kernel
set_option maxRecDepth 100000 in
set_option maxHeartbeats 4000000 in
theorem t_Mod_mayBe_J18 {p : Program} {l : Launch} {e : Env} {s : State} {m : MethodId} {args : Array Value} {below : List Frame} {meth : Method} {c : Code} {V : xV} (C : xC p s m args c cd_Mod_mayBe 6 R_Mod V) (hlocks : meth.locks = false) (hr : meth.sig.returnType = (some .boolean)) {Q : Int32 → xS → Prop} {x1 x2 x4 : Int32} {σ : xS} {H : Heap} {locs : List Loc} {ls : Array Slot} (h : p_Mod_mayBe_J18 Q x1 x2 x4 σ) (hI : xI V s.heap σ H locs) (hl : lv_has ls 6 [(0, .ref (V.2.2 31)), (1, .int x1), (2, .int x2), (4, .int x4)]) : W p l e rm_Mod_mayBe s m args below meth c H locs 0 0 (xZi below V args s Q) (F0 m 18 ls []) := by
  have hx := C.1
  have hb := C.2.1
  unfold p_Mod_mayBe_J18 at h
  refine lv_iload_n hx hb d_Mod_mayBe_18 rfl (lv_at hl 1 rfl) ?_
  refine lv_iconst (v := 2) hx hb d_Mod_mayBe_19 (by decide) ?_
  refine lv_icmp_ne (tgt := 97) hx hb d_Mod_mayBe_20 (by decide) (fun c3 => ?_) (fun c3 => ?_)
  · have h := h.1 c3
    refine lv_iconst (v := 1) hx hb d_Mod_mayBe_97 (by decide) ?_
    exact x_zret C hlocks hr hI ⟨rfl, h⟩ d_Mod_mayBe_98
  · have h := h.2 c3
    refine lv_sipush (v := 640) hx hb d_Mod_mayBe_23 (by decide) ?_
    refine lv_iload_n hx hb d_Mod_mayBe_26 rfl (lv_at hl 2 rfl) ?_
    refine lv_imul hx hb d_Mod_mayBe_27 ?_
    refine lv_iload hx hb d_Mod_mayBe_28 (lv_at hl 3 rfl) ?_
    refine lv_iadd hx hb d_Mod_mayBe_30 ?_
    refine lv_topi (fun z4 ez4 => ?_)
    have h := h z4 ez4
    refine lv_istore (lv' := [(5, .int z4), (0, .ref (V.2.2 31)), (1, .int x1), (2, .int x2), (4, .int x4)]) hx hb d_Mod_mayBe_31 hl (by decide) rfl (fun ls hl => ?_)
    refine lv_aload_n hx hb d_Mod_mayBe_33 rfl (lv_at hl 1 rfl) ?_
    refine x_get C hI (d := 31) (by decide) (xE31 V _) fd_Mod_68 rfl d_Mod_mayBe_34 ?_
    refine lv_iload hx hb d_Mod_mayBe_37 (lv_at hl 0 rfl) ?_
    refine lv_bipush (v := 64) hx hb d_Mod_mayBe_39 (by decide) ?_
    refine lv_idiv hx hb d_Mod_mayBe_41 (by decide) ?_
    obtain ⟨i5, h⟩ := h
    refine x_lald C hI (d := 59) (by decide) (xE59 V) i5 d_Mod_mayBe_42 ?_
    refine lv_iload hx hb d_Mod_mayBe_43 (lv_at hl 0 rfl) ?_
    refine lv_bipush (v := 64) hx hb d_Mod_mayBe_45 (by decide) ?_
    refine lv_irem hx hb d_Mod_mayBe_47 (by decide) ?_
    refine lv_lshr (v := ((xL (σ 59) (z4 / 64).toNatClampNeg) >>> ((z4 - z4 / 64 * 64).toInt64 &&& 63))) hx hb d_Mod_mayBe_48 rfl ?_
    refine lv_lconst (v := 1) hx hb d_Mod_mayBe_49 (by decide) ?_
    refine lv_land hx hb d_Mod_mayBe_50 ?_
    refine lv_lconst (v := 0) hx hb d_Mod_mayBe_51 (by decide) ?_
    refine W.lcmp hx hb d_Mod_mayBe_52 ?_
    refine lv_if_ne (tgt := 97) hx hb d_Mod_mayBe_53 (by decide) (fun c6 => ?_) (fun c6 => ?_)
    · have h := h.1 c6
      refine lv_iconst (v := 1) hx hb d_Mod_mayBe_97 (by decide) ?_
      exact x_zret C hlocks hr hI ⟨rfl, h⟩ d_Mod_mayBe_98
    · have h := h.2 c6
      refine lv_aload_n hx hb d_Mod_mayBe_56 rfl (lv_at hl 1 rfl) ?_
      refine x_get C hI (d := 31) (by decide) (xE31 V _) fd_Mod_68 rfl d_Mod_mayBe_57 ?_
      refine lv_iload hx hb d_Mod_mayBe_60 (lv_at hl 0 rfl) ?_
      refine lv_bipush (v := 64) hx hb d_Mod_mayBe_62 (by decide) ?_
      refine lv_idiv hx hb d_Mod_mayBe_64 (by decide) ?_
      refine lv_dup2_11 hx hb d_Mod_mayBe_65 rfl rfl ?_
      obtain ⟨i7, h⟩ := h
      refine x_lald C hI (d := 59) (by decide) (xE59 V) i7 d_Mod_mayBe_66 ?_
      refine lv_lconst (v := 1) hx hb d_Mod_mayBe_67 (by decide) ?_
      refine lv_iload hx hb d_Mod_mayBe_68 (lv_at hl 0 rfl) ?_
      refine lv_bipush (v := 64) hx hb d_Mod_mayBe_70 (by decide) ?_
      refine lv_irem hx hb d_Mod_mayBe_72 (by decide) ?_
      refine lv_lshl (v := (1 <<< ((z4 - z4 / 64 * 64).toInt64 &&& 63))) hx hb d_Mod_mayBe_73 rfl ?_
      refine lv_lor hx hb d_Mod_mayBe_74 ?_
      obtain ⟨i8, h⟩ := h
      refine x_last C hI (d := 59) (by decide) (xE59 V) i8 d_Mod_mayBe_75 (fun H locs hI => ?_)
      refine lv_aload_n hx hb d_Mod_mayBe_76 rfl (lv_at hl 1 rfl) ?_
      refine x_get C hI (d := 31) (by decide) (xE31 V _) fd_Mod_73 rfl d_Mod_mayBe_77 ?_
      refine lv_aload_n hx hb d_Mod_mayBe_80 rfl (lv_at hl 1 rfl) ?_
      refine x_get C hI (d := 31) (by decide) (xE31 V _) fd_Mod_183 rfl d_Mod_mayBe_81 ?_
      refine lv_iload hx hb d_Mod_mayBe_84 (lv_at hl 0 rfl) ?_
      obtain ⟨i9, h⟩ := h
      refine x_iast C hI (d := 60) (by decide) (xE60 V) i9 d_Mod_mayBe_86 (fun H locs hI => ?_)
      refine lv_aload_n hx hb d_Mod_mayBe_87 rfl (lv_at hl 1 rfl) ?_
      refine lv_dup hx hb d_Mod_mayBe_88 rfl ?_
      refine x_get C hI (d := 31) (by decide) (xE31 V _) fd_Mod_183 rfl d_Mod_mayBe_89 ?_
      refine lv_iconst (v := 1) hx hb d_Mod_mayBe_92 (by decide) ?_
      refine lv_iadd hx hb d_Mod_mayBe_93 ?_
      refine x_put C hI (d := 31) (by decide) (xE31 V _) (xP_31_31 V _ _) fw_Mod_183 (Nat.le_of_ble_eq_true rfl) d_Mod_mayBe_94 (fun H locs hI => ?_)
      refine lv_iconst (v := 1) hx hb d_Mod_mayBe_97 (by decide) ?_
      exact x_zret C hlocks hr hI ⟨rfl, h⟩ d_Mod_mayBe_98
set_option maxRecDepth 100000 in
set_option maxHeartbeats 4000000 in
theorem c_Mod_mayBe {l : Launch} {V : xV} {σ : xS} {x1 x2 x3 x4 : Int32} {Q : Int32 → xS → Prop} (h : p_Mod_mayBe x1 x2 x3 x4 σ Q) : xMi l y_Mod_mayBe (.code y_Mod_mayBe cd_Mod_mayBe 6 (some .boolean) :: xG) rm_Mod_mayBe V [.ref (V.2.2 31), .int x1, .int x2, .int x3, .int x4] σ Q := by
  refine x_begini (by decide) (Nat.le_of_ble_eq_true rfl) (fun p e s m below meth c ls C hlocks hr hI hl => ?_)
  have C : xC p s m _ c cd_Mod_mayBe 6 R_Mod V := C
  have hx := C.1
  have hb := C.2.1
  have hl : lv_has ls 6 [(0, .ref (V.2.2 31)), (1, .int x1), (2, .int x2), (3, .int x3), (4, .int x4)] := hl
  unfold p_Mod_mayBe at h
  refine lv_iload_n hx hb d_Mod_mayBe_0 rfl (lv_at hl 1 rfl) ?_
  refine lv_iload_n hx hb d_Mod_mayBe_1 rfl (lv_at hl 3 rfl) ?_
  refine lv_icmp_ne (tgt := 16) hx hb d_Mod_mayBe_2 (by decide) (fun c1 => ?_) (fun c1 => ?_)
  · have h := h.1 c1
    refine lv_iconst (v := 0) hx hb d_Mod_mayBe_16 (by decide) ?_
    exact x_zret C hlocks hr hI ⟨rfl, h⟩ d_Mod_mayBe_17
  · have h := h.2 c1
    refine lv_iload_n hx hb d_Mod_mayBe_5 rfl (lv_at hl 1 rfl) ?_
    refine lv_iconst (v := 2) hx hb d_Mod_mayBe_6 (by decide) ?_
    refine lv_icmp_eq (tgt := 18) hx hb d_Mod_mayBe_7 (by decide) (fun c2 => ?_) (fun c2 => ?_)
    · have h := h.1 c2
      exact t_Mod_mayBe_J18 C hlocks hr h hI (lv_sub hl [0, 1, 2, 4] rfl)
    · have h := h.2 c2
      refine lv_iload_n hx hb d_Mod_mayBe_10 rfl (lv_at hl 2 rfl) ?_
      refine lv_iload hx hb d_Mod_mayBe_11 (lv_at hl 4 rfl) ?_
      refine lv_icmp_eq (tgt := 18) hx hb d_Mod_mayBe_13 (by decide) (fun c10 => ?_) (fun c10 => ?_)
      · have h := h.1 c10
        exact t_Mod_mayBe_J18 C hlocks hr h hI (lv_sub hl [0, 1, 2, 4] rfl)
      · have h := h.2 c10
        refine lv_iconst (v := 0) hx hb d_Mod_mayBe_16 (by decide) ?_
        exact x_zret C hlocks hr hI ⟨rfl, h⟩ d_Mod_mayBe_17
theorem yw_Mod_mayBe : xY y_Mod_mayBe cd_Mod_mayBe 6 (some .boolean) 4 := ⟨xG_mem 1231 (by decide +kernel) (by decide +kernel), xG_mem 52 (by decide +kernel) (by decide +kernel), xG_mem 65 (by decide +kernel) (by decide +kernel), xG_mem 1232 (by decide +kernel) (by decide +kernel), by decide, by decide, by decide +kernel⟩
theorem ml_Mod_186 : Cond.methodLink R_Mod 186 y_Mod_mayBe ∈ xG := xG_mem 1229 (by decide +kernel) (by decide +kernel)
def b_Mod_alike_L196 (K85 : Int32 → xS → Prop) (K196 : Int32 → Int32 → Int32 → Int32 → xS → Prop) (Q : Int32 → xS → Prop) (x3 x4 x5 x6 : Int32) (σ : xS) : Prop :=
  ((x3 = 0 → K85 x3 σ) ∧ (¬ x3 = 0 → (vp_in x4 640 ∧ (((σ 42 x4.toNatClampNeg) ≤ x6 → K85 x3 σ) ∧ (¬ (σ 42 x4.toNatClampNeg) ≤ x6 → (vp_in ((15 * x4) + x6) 9600 ∧ (vp_in ((15 * x4) + x6) 9600 ∧ (vp_in ((15 * x5) + x6) 9600 ∧ (vp_in ((15 * x5) + x6) 9600 ∧ p_Mod_mayBe (σ 46 ((15 * x4) + x6).toNatClampNeg) (σ 47 ((15 * x4) + x6).toNatClampNeg) (σ 46 ((15 * x5) + x6).toNatClampNeg) (σ 47 ((15 * x5) + x6).toNatClampNeg) σ (fun r31 σ30 => (∀ z32 : Int32, z32 = x6 + 1 → K196 r31 x4 x5 z32 σ30)))))))))))
def p_Mod_alike_L196 (K85 : Int32 → xS → Prop) (Q : Int32 → xS → Prop) (n : Nat) : Int32 → Int32 → Int32 → Int32 → xS → Prop := Nat.rec (motive := fun _ => Int32 → Int32 → Int32 → Int32 → xS → Prop) (fun _ _ _ _ _ => False) (fun _ K x3 x4 x5 x6 σ => b_Mod_alike_L196 K85 K Q x3 x4 x5 x6 σ) n
def b_Mod_alike_L85 (K85 : Int32 → xS → Prop) (Q : Int32 → xS → Prop) (x3 : Int32) (σ : xS) : Prop :=
  ((x3 = 0 → (narrow .boolean (.int x3) = .int x3 ∧ Q x3 σ)) ∧ (¬ x3 = 0 → (((σ 31 31) ≤ 0 → (narrow .boolean (.int x3) = .int x3 ∧ Q x3 σ)) ∧ (¬ (σ 31 31) ≤ 0 → (vp_in ((xu σ 31 31 ((σ 31 31) - 1)) 31 31) 409600 ∧ (∀ z17 : Int32, z17 = (((xu σ 31 31 ((σ 31 31) - 1)) 60 ((xu σ 31 31 ((σ 31 31) - 1)) 31 31).toNatClampNeg) / 640) → (vp_in ((xu σ 31 31 ((σ 31 31) - 1)) 31 31) 409600 ∧ (∀ z19 : Int32, z19 = (((xu σ 31 31 ((σ 31 31) - 1)) 60 ((xu σ 31 31 ((σ 31 31) - 1)) 31 31).toNatClampNeg) - ((xu σ 31 31 ((σ 31 31) - 1)) 60 ((xu σ 31 31 ((σ 31 31) - 1)) 31 31).toNatClampNeg) / 640 * 640) → (vp_in z17 640 ∧ (vp_in z19 640 ∧ ((¬ ((xu σ 31 31 ((σ 31 31) - 1)) 40 z17.toNatClampNeg) = ((xu σ 31 31 ((σ 31 31) - 1)) 40 z19.toNatClampNeg) → (∃ n, p_Mod_alike_L196 K85 Q n 0 z17 z19 0 (xu σ 31 31 ((σ 31 31) - 1)))) ∧ (((xu σ 31 31 ((σ 31 31) - 1)) 40 z17.toNatClampNeg) = ((xu σ 31 31 ((σ 31 31) - 1)) 40 z19.toNatClampNeg) → (vp_in z17 640 ∧ (vp_in z19 640 ∧ ((¬ ((xu σ 31 31 ((σ 31 31) - 1)) 41 z17.toNatClampNeg) = ((xu σ 31 31 ((σ 31 31) - 1)) 41 z19.toNatClampNeg) → (∃ n, p_Mod_alike_L196 K85 Q n 0 z17 z19 0 (xu σ 31 31 ((σ 31 31) - 1)))) ∧ (((xu σ 31 31 ((σ 31 31) - 1)) 41 z17.toNatClampNeg) = ((xu σ 31 31 ((σ 31 31) - 1)) 41 z19.toNatClampNeg) → (vp_in z17 640 ∧ (vp_in z19 640 ∧ ((¬ ((xu σ 31 31 ((σ 31 31) - 1)) 42 z17.toNatClampNeg) = ((xu σ 31 31 ((σ 31 31) - 1)) 42 z19.toNatClampNeg) → (∃ n, p_Mod_alike_L196 K85 Q n 0 z17 z19 0 (xu σ 31 31 ((σ 31 31) - 1)))) ∧ (((xu σ 31 31 ((σ 31 31) - 1)) 42 z17.toNatClampNeg) = ((xu σ 31 31 ((σ 31 31) - 1)) 42 z19.toNatClampNeg) → (∃ n, p_Mod_alike_L196 K85 Q n 1 z17 z19 0 (xu σ 31 31 ((σ 31 31) - 1)))))))))))))))))))))))
def p_Mod_alike_L85 (Q : Int32 → xS → Prop) (n : Nat) : Int32 → xS → Prop := Nat.rec (motive := fun _ => Int32 → xS → Prop) (fun _ _ => False) (fun _ K x3 σ => b_Mod_alike_L85 K Q x3 σ) n
def b_Mod_alike_L31 (K31 : Int32 → Int32 → Int32 → xS → Prop) (Q : Int32 → xS → Prop) (x1 x2 x3 : Int32) (σ : xS) : Prop :=
  ((6400 ≤ x3 → (vp_in x1 16 ∧ (vp_in x1 16 ∧ (vp_in x2 16 ∧ (vp_in x2 16 ∧ p_Mod_mayBe ((xu σ 31 31 0) 54 x1.toNatClampNeg) ((xu σ 31 31 0) 55 x1.toNatClampNeg) ((xu σ 31 31 0) 54 x2.toNatClampNeg) ((xu σ 31 31 0) 55 x2.toNatClampNeg) (xu σ 31 31 0) (fun r13 σ12 => (∃ n, p_Mod_alike_L85 Q n r13 σ12))))))) ∧ (¬ 6400 ≤ x3 → (vp_in x3 6400 ∧ (∀ z40 : Int32, z40 = x3 + 1 → K31 x1 x2 z40 (xul σ 59 x3.toNatClampNeg 0)))))
def p_Mod_alike_L31 (Q : Int32 → xS → Prop) (n : Nat) : Int32 → Int32 → Int32 → xS → Prop := Nat.rec (motive := fun _ => Int32 → Int32 → Int32 → xS → Prop) (fun _ _ _ _ => False) (fun _ K x1 x2 x3 σ => b_Mod_alike_L31 K Q x1 x2 x3 σ) n
def p_Mod_alike_J20 (Q : Int32 → xS → Prop) (x1 x2 : Int32) (y0 : Int32) (σ : xS) : Prop :=
  p_Mod_goes y0 1 σ (fun r5 σ4 => ((¬ r5 = 0 → (∃ n, p_Mod_alike_L31 Q n x1 x2 0 σ4)) ∧ (r5 = 0 → Q 0 σ4)))
def p_Mod_alike_J19 (Q : Int32 → xS → Prop) (x1 x2 : Int32) (σ : xS) : Prop :=
  p_Mod_alike_J20 Q x1 x2 0 σ
def p_Mod_alike (x1 x2 : Int32) (σ : xS) (Q : Int32 → xS → Prop) : Prop :=
  p_Mod_isRoot x1 σ (fun r2 σ1 => ((r2 = 0 → p_Mod_alike_J19 Q x1 x2 σ1) ∧ (¬ r2 = 0 → p_Mod_isRoot x2 σ1 (fun r42 σ41 => ((r42 = 0 → p_Mod_alike_J19 Q x1 x2 σ41) ∧ (¬ r42 = 0 → p_Mod_alike_J20 Q x1 x2 1 σ41))))))
abbrev rm_Mod_alike : Room := { frames := 1, cells := 0, slots := 0, locals := 25 }
theorem d_Mod_alike_0 : decode cd_Mod_alike 0 = .ok (.aload_n 0, 1) := by decide +kernel
theorem d_Mod_alike_1 : decode cd_Mod_alike 1 = .ok (.iload_n 1, 1) := by decide +kernel
theorem d_Mod_alike_2 : decode cd_Mod_alike 2 = .ok (.invokestatic 151, 3) := by decide +kernel
theorem d_Mod_alike_5 : decode cd_Mod_alike 5 = .ok (.ifCond .eq 14, 3) := by decide +kernel
theorem d_Mod_alike_8 : decode cd_Mod_alike 8 = .ok (.iload_n 2, 1) := by decide +kernel
theorem d_Mod_alike_9 : decode cd_Mod_alike 9 = .ok (.invokestatic 151, 3) := by decide +kernel
theorem d_Mod_alike_12 : decode cd_Mod_alike 12 = .ok (.ifCond .eq 7, 3) := by decide +kernel
theorem d_Mod_alike_15 : decode cd_Mod_alike 15 = .ok (.iconst 1, 1) := by decide +kernel
theorem d_Mod_alike_16 : decode cd_Mod_alike 16 = .ok (.goto 4, 3) := by decide +kernel
theorem d_Mod_alike_19 : decode cd_Mod_alike 19 = .ok (.iconst 0, 1) := by decide +kernel
theorem d_Mod_alike_20 : decode cd_Mod_alike 20 = .ok (.iconst 1, 1) := by decide +kernel
theorem d_Mod_alike_21 : decode cd_Mod_alike 21 = .ok (.invokevirtual 144, 3) := by decide +kernel
theorem d_Mod_alike_24 : decode cd_Mod_alike 24 = .ok (.ifCond .ne 5, 3) := by decide +kernel
theorem d_Mod_alike_27 : decode cd_Mod_alike 27 = .ok (.iconst 0, 1) := by decide +kernel
theorem d_Mod_alike_28 : decode cd_Mod_alike 28 = .ok (.ireturn, 1) := by decide +kernel
theorem d_Mod_alike_29 : decode cd_Mod_alike 29 = .ok (.iconst 0, 1) := by decide +kernel
theorem d_Mod_alike_30 : decode cd_Mod_alike 30 = .ok (.istore_n 3, 1) := by decide +kernel
theorem d_Mod_alike_31 : decode cd_Mod_alike 31 = .ok (.iload_n 3, 1) := by decide +kernel
theorem d_Mod_alike_32 : decode cd_Mod_alike 32 = .ok (.sipush 6400, 3) := by decide +kernel
theorem d_Mod_alike_35 : decode cd_Mod_alike 35 = .ok (.if_icmp .ge 16, 3) := by decide +kernel
theorem d_Mod_alike_38 : decode cd_Mod_alike 38 = .ok (.aload_n 0, 1) := by decide +kernel
theorem d_Mod_alike_39 : decode cd_Mod_alike 39 = .ok (.getfield 68, 3) := by decide +kernel
theorem d_Mod_alike_42 : decode cd_Mod_alike 42 = .ok (.iload_n 3, 1) := by decide +kernel
theorem d_Mod_alike_43 : decode cd_Mod_alike 43 = .ok (.lconst 0, 1) := by decide +kernel
theorem d_Mod_alike_44 : decode cd_Mod_alike 44 = .ok (.lastore, 1) := by decide +kernel
theorem d_Mod_alike_45 : decode cd_Mod_alike 45 = .ok (.iinc 3 1, 3) := by decide +kernel
theorem d_Mod_alike_48 : decode cd_Mod_alike 48 = .ok (.goto (-17), 3) := by decide +kernel
theorem d_Mod_alike_51 : decode cd_Mod_alike 51 = .ok (.aload_n 0, 1) := by decide +kernel
theorem d_Mod_alike_52 : decode cd_Mod_alike 52 = .ok (.iconst 0, 1) := by decide +kernel
theorem d_Mod_alike_53 : decode cd_Mod_alike 53 = .ok (.putfield 183, 3) := by decide +kernel
theorem d_Mod_alike_56 : decode cd_Mod_alike 56 = .ok (.aload_n 0, 1) := by decide +kernel
theorem d_Mod_alike_57 : decode cd_Mod_alike 57 = .ok (.aload_n 0, 1) := by decide +kernel
theorem d_Mod_alike_58 : decode cd_Mod_alike 58 = .ok (.getfield 53, 3) := by decide +kernel
theorem d_Mod_alike_61 : decode cd_Mod_alike 61 = .ok (.iload_n 1, 1) := by decide +kernel
theorem d_Mod_alike_62 : decode cd_Mod_alike 62 = .ok (.iaload, 1) := by decide +kernel
theorem d_Mod_alike_63 : decode cd_Mod_alike 63 = .ok (.aload_n 0, 1) := by decide +kernel
theorem d_Mod_alike_64 : decode cd_Mod_alike 64 = .ok (.getfield 56, 3) := by decide +kernel
theorem d_Mod_alike_67 : decode cd_Mod_alike 67 = .ok (.iload_n 1, 1) := by decide +kernel
theorem d_Mod_alike_68 : decode cd_Mod_alike 68 = .ok (.iaload, 1) := by decide +kernel
theorem d_Mod_alike_69 : decode cd_Mod_alike 69 = .ok (.aload_n 0, 1) := by decide +kernel
theorem d_Mod_alike_70 : decode cd_Mod_alike 70 = .ok (.getfield 53, 3) := by decide +kernel
theorem d_Mod_alike_73 : decode cd_Mod_alike 73 = .ok (.iload_n 2, 1) := by decide +kernel
theorem d_Mod_alike_74 : decode cd_Mod_alike 74 = .ok (.iaload, 1) := by decide +kernel
theorem d_Mod_alike_75 : decode cd_Mod_alike 75 = .ok (.aload_n 0, 1) := by decide +kernel
theorem d_Mod_alike_76 : decode cd_Mod_alike 76 = .ok (.getfield 56, 3) := by decide +kernel
theorem d_Mod_alike_79 : decode cd_Mod_alike 79 = .ok (.iload_n 2, 1) := by decide +kernel
theorem d_Mod_alike_80 : decode cd_Mod_alike 80 = .ok (.iaload, 1) := by decide +kernel
theorem d_Mod_alike_81 : decode cd_Mod_alike 81 = .ok (.invokevirtual 186, 3) := by decide +kernel
theorem d_Mod_alike_84 : decode cd_Mod_alike 84 = .ok (.istore_n 3, 1) := by decide +kernel
theorem d_Mod_alike_85 : decode cd_Mod_alike 85 = .ok (.iload_n 3, 1) := by decide +kernel
theorem d_Mod_alike_86 : decode cd_Mod_alike 86 = .ok (.ifCond .eq 192, 3) := by decide +kernel
theorem d_Mod_alike_89 : decode cd_Mod_alike 89 = .ok (.aload_n 0, 1) := by decide +kernel
theorem d_Mod_alike_90 : decode cd_Mod_alike 90 = .ok (.getfield 183, 3) := by decide +kernel
theorem d_Mod_alike_93 : decode cd_Mod_alike 93 = .ok (.ifCond .le 185, 3) := by decide +kernel
theorem d_Mod_alike_96 : decode cd_Mod_alike 96 = .ok (.aload_n 0, 1) := by decide +kernel
theorem d_Mod_alike_97 : decode cd_Mod_alike 97 = .ok (.dup, 1) := by decide +kernel
theorem d_Mod_alike_98 : decode cd_Mod_alike 98 = .ok (.getfield 183, 3) := by decide +kernel
theorem d_Mod_alike_101 : decode cd_Mod_alike 101 = .ok (.iconst 1, 1) := by decide +kernel
theorem d_Mod_alike_102 : decode cd_Mod_alike 102 = .ok (.isub, 1) := by decide +kernel
theorem d_Mod_alike_103 : decode cd_Mod_alike 103 = .ok (.putfield 183, 3) := by decide +kernel
theorem d_Mod_alike_106 : decode cd_Mod_alike 106 = .ok (.aload_n 0, 1) := by decide +kernel
theorem d_Mod_alike_107 : decode cd_Mod_alike 107 = .ok (.getfield 73, 3) := by decide +kernel
theorem d_Mod_alike_110 : decode cd_Mod_alike 110 = .ok (.aload_n 0, 1) := by decide +kernel
theorem d_Mod_alike_111 : decode cd_Mod_alike 111 = .ok (.getfield 183, 3) := by decide +kernel
theorem d_Mod_alike_114 : decode cd_Mod_alike 114 = .ok (.iaload, 1) := by decide +kernel
theorem d_Mod_alike_115 : decode cd_Mod_alike 115 = .ok (.sipush 640, 3) := by decide +kernel
theorem d_Mod_alike_118 : decode cd_Mod_alike 118 = .ok (.idiv, 1) := by decide +kernel
theorem d_Mod_alike_119 : decode cd_Mod_alike 119 = .ok (.istore 4, 2) := by decide +kernel
theorem d_Mod_alike_121 : decode cd_Mod_alike 121 = .ok (.aload_n 0, 1) := by decide +kernel
theorem d_Mod_alike_122 : decode cd_Mod_alike 122 = .ok (.getfield 73, 3) := by decide +kernel
theorem d_Mod_alike_125 : decode cd_Mod_alike 125 = .ok (.aload_n 0, 1) := by decide +kernel
theorem d_Mod_alike_126 : decode cd_Mod_alike 126 = .ok (.getfield 183, 3) := by decide +kernel
theorem d_Mod_alike_129 : decode cd_Mod_alike 129 = .ok (.iaload, 1) := by decide +kernel
theorem d_Mod_alike_130 : decode cd_Mod_alike 130 = .ok (.sipush 640, 3) := by decide +kernel
theorem d_Mod_alike_133 : decode cd_Mod_alike 133 = .ok (.irem, 1) := by decide +kernel
theorem d_Mod_alike_134 : decode cd_Mod_alike 134 = .ok (.istore 5, 2) := by decide +kernel
theorem d_Mod_alike_136 : decode cd_Mod_alike 136 = .ok (.aload_n 0, 1) := by decide +kernel
theorem d_Mod_alike_137 : decode cd_Mod_alike 137 = .ok (.getfield 7, 3) := by decide +kernel
theorem d_Mod_alike_140 : decode cd_Mod_alike 140 = .ok (.iload 4, 2) := by decide +kernel
theorem d_Mod_alike_142 : decode cd_Mod_alike 142 = .ok (.iaload, 1) := by decide +kernel
theorem d_Mod_alike_143 : decode cd_Mod_alike 143 = .ok (.aload_n 0, 1) := by decide +kernel
theorem d_Mod_alike_144 : decode cd_Mod_alike 144 = .ok (.getfield 7, 3) := by decide +kernel
theorem d_Mod_alike_147 : decode cd_Mod_alike 147 = .ok (.iload 5, 2) := by decide +kernel
theorem d_Mod_alike_149 : decode cd_Mod_alike 149 = .ok (.iaload, 1) := by decide +kernel
theorem d_Mod_alike_150 : decode cd_Mod_alike 150 = .ok (.if_icmp .ne 41, 3) := by decide +kernel
theorem d_Mod_alike_153 : decode cd_Mod_alike 153 = .ok (.aload_n 0, 1) := by decide +kernel
theorem d_Mod_alike_154 : decode cd_Mod_alike 154 = .ok (.getfield 13, 3) := by decide +kernel
theorem d_Mod_alike_157 : decode cd_Mod_alike 157 = .ok (.iload 4, 2) := by decide +kernel
theorem d_Mod_alike_159 : decode cd_Mod_alike 159 = .ok (.iaload, 1) := by decide +kernel
theorem d_Mod_alike_160 : decode cd_Mod_alike 160 = .ok (.aload_n 0, 1) := by decide +kernel
theorem d_Mod_alike_161 : decode cd_Mod_alike 161 = .ok (.getfield 13, 3) := by decide +kernel
theorem d_Mod_alike_164 : decode cd_Mod_alike 164 = .ok (.iload 5, 2) := by decide +kernel
theorem d_Mod_alike_166 : decode cd_Mod_alike 166 = .ok (.iaload, 1) := by decide +kernel
theorem d_Mod_alike_167 : decode cd_Mod_alike 167 = .ok (.if_icmp .ne 24, 3) := by decide +kernel
theorem d_Mod_alike_170 : decode cd_Mod_alike 170 = .ok (.aload_n 0, 1) := by decide +kernel
theorem d_Mod_alike_171 : decode cd_Mod_alike 171 = .ok (.getfield 16, 3) := by decide +kernel
theorem d_Mod_alike_174 : decode cd_Mod_alike 174 = .ok (.iload 4, 2) := by decide +kernel
theorem d_Mod_alike_176 : decode cd_Mod_alike 176 = .ok (.iaload, 1) := by decide +kernel
theorem d_Mod_alike_177 : decode cd_Mod_alike 177 = .ok (.aload_n 0, 1) := by decide +kernel
theorem d_Mod_alike_178 : decode cd_Mod_alike 178 = .ok (.getfield 16, 3) := by decide +kernel
theorem d_Mod_alike_181 : decode cd_Mod_alike 181 = .ok (.iload 5, 2) := by decide +kernel
theorem d_Mod_alike_183 : decode cd_Mod_alike 183 = .ok (.iaload, 1) := by decide +kernel
theorem d_Mod_alike_184 : decode cd_Mod_alike 184 = .ok (.if_icmp .ne 7, 3) := by decide +kernel
theorem d_Mod_alike_187 : decode cd_Mod_alike 187 = .ok (.iconst 1, 1) := by decide +kernel
theorem d_Mod_alike_188 : decode cd_Mod_alike 188 = .ok (.goto 4, 3) := by decide +kernel
theorem d_Mod_alike_191 : decode cd_Mod_alike 191 = .ok (.iconst 0, 1) := by decide +kernel
theorem d_Mod_alike_192 : decode cd_Mod_alike 192 = .ok (.istore_n 3, 1) := by decide +kernel
theorem d_Mod_alike_193 : decode cd_Mod_alike 193 = .ok (.iconst 0, 1) := by decide +kernel
theorem d_Mod_alike_194 : decode cd_Mod_alike 194 = .ok (.istore 6, 2) := by decide +kernel
theorem d_Mod_alike_196 : decode cd_Mod_alike 196 = .ok (.iload_n 3, 1) := by decide +kernel
theorem d_Mod_alike_197 : decode cd_Mod_alike 197 = .ok (.ifCond .eq 78, 3) := by decide +kernel
theorem d_Mod_alike_200 : decode cd_Mod_alike 200 = .ok (.iload 6, 2) := by decide +kernel
theorem d_Mod_alike_202 : decode cd_Mod_alike 202 = .ok (.aload_n 0, 1) := by decide +kernel
theorem d_Mod_alike_203 : decode cd_Mod_alike 203 = .ok (.getfield 16, 3) := by decide +kernel
theorem d_Mod_alike_206 : decode cd_Mod_alike 206 = .ok (.iload 4, 2) := by decide +kernel
theorem d_Mod_alike_208 : decode cd_Mod_alike 208 = .ok (.iaload, 1) := by decide +kernel
theorem d_Mod_alike_209 : decode cd_Mod_alike 209 = .ok (.if_icmp .ge 66, 3) := by decide +kernel
theorem d_Mod_alike_212 : decode cd_Mod_alike 212 = .ok (.aload_n 0, 1) := by decide +kernel
theorem d_Mod_alike_213 : decode cd_Mod_alike 213 = .ok (.aload_n 0, 1) := by decide +kernel
theorem d_Mod_alike_214 : decode cd_Mod_alike 214 = .ok (.getfield 28, 3) := by decide +kernel
theorem d_Mod_alike_217 : decode cd_Mod_alike 217 = .ok (.bipush 15, 2) := by decide +kernel
theorem d_Mod_alike_219 : decode cd_Mod_alike 219 = .ok (.iload 4, 2) := by decide +kernel
theorem d_Mod_alike_221 : decode cd_Mod_alike 221 = .ok (.imul, 1) := by decide +kernel
theorem d_Mod_alike_222 : decode cd_Mod_alike 222 = .ok (.iload 6, 2) := by decide +kernel
theorem d_Mod_alike_224 : decode cd_Mod_alike 224 = .ok (.iadd, 1) := by decide +kernel
theorem d_Mod_alike_225 : decode cd_Mod_alike 225 = .ok (.iaload, 1) := by decide +kernel
theorem d_Mod_alike_226 : decode cd_Mod_alike 226 = .ok (.aload_n 0, 1) := by decide +kernel
theorem d_Mod_alike_227 : decode cd_Mod_alike 227 = .ok (.getfield 31, 3) := by decide +kernel
theorem d_Mod_alike_230 : decode cd_Mod_alike 230 = .ok (.bipush 15, 2) := by decide +kernel
theorem d_Mod_alike_232 : decode cd_Mod_alike 232 = .ok (.iload 4, 2) := by decide +kernel
theorem d_Mod_alike_234 : decode cd_Mod_alike 234 = .ok (.imul, 1) := by decide +kernel
theorem d_Mod_alike_235 : decode cd_Mod_alike 235 = .ok (.iload 6, 2) := by decide +kernel
theorem d_Mod_alike_237 : decode cd_Mod_alike 237 = .ok (.iadd, 1) := by decide +kernel
theorem d_Mod_alike_238 : decode cd_Mod_alike 238 = .ok (.iaload, 1) := by decide +kernel
theorem d_Mod_alike_239 : decode cd_Mod_alike 239 = .ok (.aload_n 0, 1) := by decide +kernel
theorem d_Mod_alike_240 : decode cd_Mod_alike 240 = .ok (.getfield 28, 3) := by decide +kernel
theorem d_Mod_alike_243 : decode cd_Mod_alike 243 = .ok (.bipush 15, 2) := by decide +kernel
theorem d_Mod_alike_245 : decode cd_Mod_alike 245 = .ok (.iload 5, 2) := by decide +kernel
theorem d_Mod_alike_247 : decode cd_Mod_alike 247 = .ok (.imul, 1) := by decide +kernel
theorem d_Mod_alike_248 : decode cd_Mod_alike 248 = .ok (.iload 6, 2) := by decide +kernel
theorem d_Mod_alike_250 : decode cd_Mod_alike 250 = .ok (.iadd, 1) := by decide +kernel
theorem d_Mod_alike_251 : decode cd_Mod_alike 251 = .ok (.iaload, 1) := by decide +kernel
theorem d_Mod_alike_252 : decode cd_Mod_alike 252 = .ok (.aload_n 0, 1) := by decide +kernel
theorem d_Mod_alike_253 : decode cd_Mod_alike 253 = .ok (.getfield 31, 3) := by decide +kernel
theorem d_Mod_alike_256 : decode cd_Mod_alike 256 = .ok (.bipush 15, 2) := by decide +kernel
theorem d_Mod_alike_258 : decode cd_Mod_alike 258 = .ok (.iload 5, 2) := by decide +kernel
theorem d_Mod_alike_260 : decode cd_Mod_alike 260 = .ok (.imul, 1) := by decide +kernel
theorem d_Mod_alike_261 : decode cd_Mod_alike 261 = .ok (.iload 6, 2) := by decide +kernel
theorem d_Mod_alike_263 : decode cd_Mod_alike 263 = .ok (.iadd, 1) := by decide +kernel
theorem d_Mod_alike_264 : decode cd_Mod_alike 264 = .ok (.iaload, 1) := by decide +kernel
theorem d_Mod_alike_265 : decode cd_Mod_alike 265 = .ok (.invokevirtual 186, 3) := by decide +kernel
theorem d_Mod_alike_268 : decode cd_Mod_alike 268 = .ok (.istore_n 3, 1) := by decide +kernel
theorem d_Mod_alike_269 : decode cd_Mod_alike 269 = .ok (.iinc 6 1, 3) := by decide +kernel
theorem d_Mod_alike_272 : decode cd_Mod_alike 272 = .ok (.goto (-76), 3) := by decide +kernel
theorem d_Mod_alike_275 : decode cd_Mod_alike 275 = .ok (.goto (-190), 3) := by decide +kernel
theorem d_Mod_alike_278 : decode cd_Mod_alike 278 = .ok (.iload_n 3, 1) := by decide +kernel
theorem d_Mod_alike_279 : decode cd_Mod_alike 279 = .ok (.ireturn, 1) := by decide +kernel
set_option maxRecDepth 100000 in
set_option maxHeartbeats 4000000 in
theorem s_Mod_alike_L196 {p : Program} {l : Launch} {e : Env} {s : State} {m : MethodId} {args : Array Value} {below : List Frame} {meth : Method} {c : Code} {V : xV} (C : xC p s m args c cd_Mod_alike 7 R_Mod V) (hlocks : meth.locks = false) (hr : meth.sig.returnType = (some .boolean)) {Q : Int32 → xS → Prop} {K85 : Int32 → xS → Prop} {K196 : Int32 → Int32 → Int32 → Int32 → xS → Prop} (hK85 : ∀ (x3 : Int32) (σ : xS) (H : Heap) (locs : List Loc) (ls : Array Slot), K85 x3 σ → xI V s.heap σ H locs → lv_has ls 7 [(0, .ref (V.2.2 31)), (3, .int x3)] → W p l e rm_Mod_alike s m args below meth c H locs 0 0 (xZi below V args s Q) (F0 m 85 ls [])) (hK196 : ∀ (x3 : Int32) (x4 : Int32) (x5 : Int32) (x6 : Int32) (σ : xS) (H : Heap) (locs : List Loc) (ls : Array Slot), K196 x3 x4 x5 x6 σ → xI V s.heap σ H locs → lv_has ls 7 [(0, .ref (V.2.2 31)), (3, .int x3), (4, .int x4), (5, .int x5), (6, .int x6)] → W p l e rm_Mod_alike s m args below meth c H locs 0 0 (xZi below V args s Q) (F0 m 196 ls [])) {x3 x4 x5 x6 : Int32} {σ : xS} {H : Heap} {locs : List Loc} {ls : Array Slot} (h : b_Mod_alike_L196 K85 K196 Q x3 x4 x5 x6 σ) (hI : xI V s.heap σ H locs) (hl : lv_has ls 7 [(0, .ref (V.2.2 31)), (3, .int x3), (4, .int x4), (5, .int x5), (6, .int x6)]) : W p l e rm_Mod_alike s m args below meth c H locs 0 0 (xZi below V args s Q) (F0 m 196 ls []) := by
  have hx := C.1
  have hb := C.2.1
  unfold b_Mod_alike_L196 at h
  refine lv_iload_n hx hb d_Mod_alike_196 rfl (lv_at hl 1 rfl) ?_
  refine lv_if_eq (tgt := 275) hx hb d_Mod_alike_197 (by decide) (fun c23 => ?_) (fun c23 => ?_)
  · have h := h.1 c23
    refine lv_goto (tgt := 85) hx hb d_Mod_alike_275 (by decide) ?_
    exact hK85 _ _ _ _ _ h hI (lv_sub hl [0, 1] rfl)
  · have h := h.2 c23
    refine lv_iload hx hb d_Mod_alike_200 (lv_at hl 4 rfl) ?_
    refine lv_aload_n hx hb d_Mod_alike_202 rfl (lv_at hl 0 rfl) ?_
    refine x_get C hI (d := 31) (by decide) (xE31 V _) fd_Mod_16 rfl d_Mod_alike_203 ?_
    refine lv_iload hx hb d_Mod_alike_206 (lv_at hl 2 rfl) ?_
    obtain ⟨i24, h⟩ := h
    refine x_iald C hI (d := 42) (by decide) (xE42 V) i24 d_Mod_alike_208 ?_
    refine lv_icmp_ge (tgt := 275) hx hb d_Mod_alike_209 (by decide) (fun c25 => ?_) (fun c25 => ?_)
    · have h := h.1 c25
      refine lv_goto (tgt := 85) hx hb d_Mod_alike_275 (by decide) ?_
      exact hK85 _ _ _ _ _ h hI (lv_sub hl [0, 1] rfl)
    · have h := h.2 c25
      refine lv_aload_n hx hb d_Mod_alike_212 rfl (lv_at hl 0 rfl) ?_
      refine lv_aload_n hx hb d_Mod_alike_213 rfl (lv_at hl 0 rfl) ?_
      refine x_get C hI (d := 31) (by decide) (xE31 V _) fd_Mod_28 rfl d_Mod_alike_214 ?_
      refine lv_bipush (v := 15) hx hb d_Mod_alike_217 (by decide) ?_
      refine lv_iload hx hb d_Mod_alike_219 (lv_at hl 2 rfl) ?_
      refine lv_imul hx hb d_Mod_alike_221 ?_
      refine lv_iload hx hb d_Mod_alike_222 (lv_at hl 4 rfl) ?_
      refine lv_iadd hx hb d_Mod_alike_224 ?_
      obtain ⟨i26, h⟩ := h
      refine x_iald C hI (d := 46) (by decide) (xE46 V) i26 d_Mod_alike_225 ?_
      refine lv_aload_n hx hb d_Mod_alike_226 rfl (lv_at hl 0 rfl) ?_
      refine x_get C hI (d := 31) (by decide) (xE31 V _) fd_Mod_31 rfl d_Mod_alike_227 ?_
      refine lv_bipush (v := 15) hx hb d_Mod_alike_230 (by decide) ?_
      refine lv_iload hx hb d_Mod_alike_232 (lv_at hl 2 rfl) ?_
      refine lv_imul hx hb d_Mod_alike_234 ?_
      refine lv_iload hx hb d_Mod_alike_235 (lv_at hl 4 rfl) ?_
      refine lv_iadd hx hb d_Mod_alike_237 ?_
      obtain ⟨i27, h⟩ := h
      refine x_iald C hI (d := 47) (by decide) (xE47 V) i27 d_Mod_alike_238 ?_
      refine lv_aload_n hx hb d_Mod_alike_239 rfl (lv_at hl 0 rfl) ?_
      refine x_get C hI (d := 31) (by decide) (xE31 V _) fd_Mod_28 rfl d_Mod_alike_240 ?_
      refine lv_bipush (v := 15) hx hb d_Mod_alike_243 (by decide) ?_
      refine lv_iload hx hb d_Mod_alike_245 (lv_at hl 3 rfl) ?_
      refine lv_imul hx hb d_Mod_alike_247 ?_
      refine lv_iload hx hb d_Mod_alike_248 (lv_at hl 4 rfl) ?_
      refine lv_iadd hx hb d_Mod_alike_250 ?_
      obtain ⟨i28, h⟩ := h
      refine x_iald C hI (d := 46) (by decide) (xE46 V) i28 d_Mod_alike_251 ?_
      refine lv_aload_n hx hb d_Mod_alike_252 rfl (lv_at hl 0 rfl) ?_
      refine x_get C hI (d := 31) (by decide) (xE31 V _) fd_Mod_31 rfl d_Mod_alike_253 ?_
      refine lv_bipush (v := 15) hx hb d_Mod_alike_256 (by decide) ?_
      refine lv_iload hx hb d_Mod_alike_258 (lv_at hl 3 rfl) ?_
      refine lv_imul hx hb d_Mod_alike_260 ?_
      refine lv_iload hx hb d_Mod_alike_261 (lv_at hl 4 rfl) ?_
      refine lv_iadd hx hb d_Mod_alike_263 ?_
      obtain ⟨i29, h⟩ := h
      refine x_iald C hI (d := 47) (by decide) (xE47 V) i29 d_Mod_alike_264 ?_
      refine x_calli C hI hl.1 (d := 31) (As := [.int (σ 46 ((15 * x4) + x6).toNatClampNeg), .int (σ 47 ((15 * x4) + x6).toNatClampNeg), .int (σ 46 ((15 * x5) + x6).toNatClampNeg), .int (σ 47 ((15 * x5) + x6).toNatClampNeg)]) (rest := []) (by decide) (c_Mod_mayBe h) (xE31 V _) rfl yw_Mod_mayBe ml_Mod_186 rfl rfl ⟨Nat.le_of_ble_eq_true rfl, Nat.le_of_ble_eq_true rfl⟩ rfl rfl (Nat.le_of_ble_eq_true rfl) d_Mod_alike_265 ⟨Nat.zero_le _, Nat.zero_le _⟩ (fun r31 σ30 H locs h hI => ?_)
      refine lv_istore_n (lv' := [(3, .int r31), (0, .ref (V.2.2 31)), (4, .int x4), (5, .int x5), (6, .int x6)]) hx hb d_Mod_alike_268 rfl hl (by decide) rfl (fun ls hl => ?_)
      obtain ⟨z32, ez32⟩ : ∃ y : Int32, y = x6 + 1 := ⟨_, rfl⟩
      have h := h z32 ez32
      refine lv_iinc (v := z32) (lv' := [(6, .int z32), (3, .int r31), (0, .ref (V.2.2 31)), (4, .int x4), (5, .int x5)]) hx hb d_Mod_alike_269 hl (k := 4) rfl (by rw [ez32]; rfl) (by decide) rfl (fun ls hl => ?_)
      refine lv_goto (tgt := 196) hx hb d_Mod_alike_272 (by decide) ?_
      exact hK196 _ _ _ _ _ _ _ _ h hI (lv_sub hl [2, 1, 3, 4, 0] rfl)
theorem w_Mod_alike_L196 {p : Program} {l : Launch} {e : Env} {s : State} {m : MethodId} {args : Array Value} {below : List Frame} {meth : Method} {c : Code} {V : xV} (C : xC p s m args c cd_Mod_alike 7 R_Mod V) (hlocks : meth.locks = false) (hr : meth.sig.returnType = (some .boolean)) {Q : Int32 → xS → Prop} {K85 : Int32 → xS → Prop} (hK85 : ∀ (x3 : Int32) (σ : xS) (H : Heap) (locs : List Loc) (ls : Array Slot), K85 x3 σ → xI V s.heap σ H locs → lv_has ls 7 [(0, .ref (V.2.2 31)), (3, .int x3)] → W p l e rm_Mod_alike s m args below meth c H locs 0 0 (xZi below V args s Q) (F0 m 85 ls [])) : ∀ (n : Nat) (x3 : Int32) (x4 : Int32) (x5 : Int32) (x6 : Int32) (σ : xS) (H : Heap) (locs : List Loc) (ls : Array Slot), p_Mod_alike_L196 K85 Q n x3 x4 x5 x6 σ → xI V s.heap σ H locs → lv_has ls 7 [(0, .ref (V.2.2 31)), (3, .int x3), (4, .int x4), (5, .int x5), (6, .int x6)] → W p l e rm_Mod_alike s m args below meth c H locs 0 0 (xZi below V args s Q) (F0 m 196 ls []) := by
  intro n
  induction n with
  | zero =>
    intro x3 x4 x5 x6 σ H locs ls h
    exact False.elim h
  | succ n ih =>
    intro x3 x4 x5 x6 σ H locs ls h hI hl
    exact s_Mod_alike_L196 C hlocks hr hK85 (K196 := p_Mod_alike_L196 K85 Q n) (fun x3 x4 x5 x6 σ H locs ls h hI hl => ih x3 x4 x5 x6 σ H locs ls h hI hl) h hI hl
set_option maxRecDepth 100000 in
set_option maxHeartbeats 4000000 in
theorem s_Mod_alike_L85 {p : Program} {l : Launch} {e : Env} {s : State} {m : MethodId} {args : Array Value} {below : List Frame} {meth : Method} {c : Code} {V : xV} (C : xC p s m args c cd_Mod_alike 7 R_Mod V) (hlocks : meth.locks = false) (hr : meth.sig.returnType = (some .boolean)) {Q : Int32 → xS → Prop} {K85 : Int32 → xS → Prop} (hK85 : ∀ (x3 : Int32) (σ : xS) (H : Heap) (locs : List Loc) (ls : Array Slot), K85 x3 σ → xI V s.heap σ H locs → lv_has ls 7 [(0, .ref (V.2.2 31)), (3, .int x3)] → W p l e rm_Mod_alike s m args below meth c H locs 0 0 (xZi below V args s Q) (F0 m 85 ls [])) {x3 : Int32} {σ : xS} {H : Heap} {locs : List Loc} {ls : Array Slot} (h : b_Mod_alike_L85 K85 Q x3 σ) (hI : xI V s.heap σ H locs) (hl : lv_has ls 7 [(0, .ref (V.2.2 31)), (3, .int x3)]) : W p l e rm_Mod_alike s m args below meth c H locs 0 0 (xZi below V args s Q) (F0 m 85 ls []) := by
  have hx := C.1
  have hb := C.2.1
  unfold b_Mod_alike_L85 at h
  refine lv_iload_n hx hb d_Mod_alike_85 rfl (lv_at hl 1 rfl) ?_
  refine lv_if_eq (tgt := 278) hx hb d_Mod_alike_86 (by decide) (fun c14 => ?_) (fun c14 => ?_)
  · have h := h.1 c14
    refine lv_iload_n hx hb d_Mod_alike_278 rfl (lv_at hl 1 rfl) ?_
    exact x_zret C hlocks hr hI h d_Mod_alike_279
  · have h := h.2 c14
    refine lv_aload_n hx hb d_Mod_alike_89 rfl (lv_at hl 0 rfl) ?_
    refine x_get C hI (d := 31) (by decide) (xE31 V _) fd_Mod_183 rfl d_Mod_alike_90 ?_
    refine lv_if_le (tgt := 278) hx hb d_Mod_alike_93 (by decide) (fun c15 => ?_) (fun c15 => ?_)
    · have h := h.1 c15
      refine lv_iload_n hx hb d_Mod_alike_278 rfl (lv_at hl 1 rfl) ?_
      exact x_zret C hlocks hr hI h d_Mod_alike_279
    · have h := h.2 c15
      refine lv_aload_n hx hb d_Mod_alike_96 rfl (lv_at hl 0 rfl) ?_
      refine lv_dup hx hb d_Mod_alike_97 rfl ?_
      refine x_get C hI (d := 31) (by decide) (xE31 V _) fd_Mod_183 rfl d_Mod_alike_98 ?_
      refine lv_iconst (v := 1) hx hb d_Mod_alike_101 (by decide) ?_
      refine lv_isub hx hb d_Mod_alike_102 ?_
      refine x_put C hI (d := 31) (by decide) (xE31 V _) (xP_31_31 V _ _) fw_Mod_183 (Nat.le_of_ble_eq_true rfl) d_Mod_alike_103 (fun H locs hI => ?_)
      refine lv_aload_n hx hb d_Mod_alike_106 rfl (lv_at hl 0 rfl) ?_
      refine x_get C hI (d := 31) (by decide) (xE31 V _) fd_Mod_73 rfl d_Mod_alike_107 ?_
      refine lv_aload_n hx hb d_Mod_alike_110 rfl (lv_at hl 0 rfl) ?_
      refine x_get C hI (d := 31) (by decide) (xE31 V _) fd_Mod_183 rfl d_Mod_alike_111 ?_
      obtain ⟨i16, h⟩ := h
      refine x_iald C hI (d := 60) (by decide) (xE60 V) i16 d_Mod_alike_114 ?_
      refine lv_sipush (v := 640) hx hb d_Mod_alike_115 (by decide) ?_
      refine lv_idiv hx hb d_Mod_alike_118 (by decide) ?_
      refine lv_topi (fun z17 ez17 => ?_)
      have h := h z17 ez17
      refine lv_istore (lv' := [(4, .int z17), (0, .ref (V.2.2 31)), (3, .int x3)]) hx hb d_Mod_alike_119 hl (by decide) rfl (fun ls hl => ?_)
      refine lv_aload_n hx hb d_Mod_alike_121 rfl (lv_at hl 1 rfl) ?_
      refine x_get C hI (d := 31) (by decide) (xE31 V _) fd_Mod_73 rfl d_Mod_alike_122 ?_
      refine lv_aload_n hx hb d_Mod_alike_125 rfl (lv_at hl 1 rfl) ?_
      refine x_get C hI (d := 31) (by decide) (xE31 V _) fd_Mod_183 rfl d_Mod_alike_126 ?_
      obtain ⟨i18, h⟩ := h
      refine x_iald C hI (d := 60) (by decide) (xE60 V) i18 d_Mod_alike_129 ?_
      refine lv_sipush (v := 640) hx hb d_Mod_alike_130 (by decide) ?_
      refine lv_irem hx hb d_Mod_alike_133 (by decide) ?_
      refine lv_topi (fun z19 ez19 => ?_)
      have h := h z19 ez19
      refine lv_istore (lv' := [(5, .int z19), (4, .int z17), (0, .ref (V.2.2 31)), (3, .int x3)]) hx hb d_Mod_alike_134 hl (by decide) rfl (fun ls hl => ?_)
      refine lv_aload_n hx hb d_Mod_alike_136 rfl (lv_at hl 2 rfl) ?_
      refine x_get C hI (d := 31) (by decide) (xE31 V _) fd_Mod_7 rfl d_Mod_alike_137 ?_
      refine lv_iload hx hb d_Mod_alike_140 (lv_at hl 1 rfl) ?_
      obtain ⟨i20, h⟩ := h
      refine x_iald C hI (d := 40) (by decide) (xE40 V) i20 d_Mod_alike_142 ?_
      refine lv_aload_n hx hb d_Mod_alike_143 rfl (lv_at hl 2 rfl) ?_
      refine x_get C hI (d := 31) (by decide) (xE31 V _) fd_Mod_7 rfl d_Mod_alike_144 ?_
      refine lv_iload hx hb d_Mod_alike_147 (lv_at hl 0 rfl) ?_
      obtain ⟨i21, h⟩ := h
      refine x_iald C hI (d := 40) (by decide) (xE40 V) i21 d_Mod_alike_149 ?_
      refine lv_icmp_ne (tgt := 191) hx hb d_Mod_alike_150 (by decide) (fun c22 => ?_) (fun c22 => ?_)
      · have h := h.1 c22
        refine lv_iconst (v := 0) hx hb d_Mod_alike_191 (by decide) ?_
        refine lv_istore_n (lv' := [(3, .int 0), (5, .int z19), (4, .int z17), (0, .ref (V.2.2 31))]) hx hb d_Mod_alike_192 rfl hl (by decide) rfl (fun ls hl => ?_)
        refine lv_iconst (v := 0) hx hb d_Mod_alike_193 (by decide) ?_
        refine lv_istore (lv' := [(6, .int 0), (3, .int 0), (5, .int z19), (4, .int z17), (0, .ref (V.2.2 31))]) hx hb d_Mod_alike_194 hl (by decide) rfl (fun ls hl => ?_)
        obtain ⟨n, h⟩ := h
        exact w_Mod_alike_L196 C hlocks hr hK85 n _ _ _ _ _ _ _ _ h hI (lv_sub hl [4, 1, 3, 2, 0] rfl)
      · have h := h.2 c22
        refine lv_aload_n hx hb d_Mod_alike_153 rfl (lv_at hl 2 rfl) ?_
        refine x_get C hI (d := 31) (by decide) (xE31 V _) fd_Mod_13 rfl d_Mod_alike_154 ?_
        refine lv_iload hx hb d_Mod_alike_157 (lv_at hl 1 rfl) ?_
        obtain ⟨i33, h⟩ := h
        refine x_iald C hI (d := 41) (by decide) (xE41 V) i33 d_Mod_alike_159 ?_
        refine lv_aload_n hx hb d_Mod_alike_160 rfl (lv_at hl 2 rfl) ?_
        refine x_get C hI (d := 31) (by decide) (xE31 V _) fd_Mod_13 rfl d_Mod_alike_161 ?_
        refine lv_iload hx hb d_Mod_alike_164 (lv_at hl 0 rfl) ?_
        obtain ⟨i34, h⟩ := h
        refine x_iald C hI (d := 41) (by decide) (xE41 V) i34 d_Mod_alike_166 ?_
        refine lv_icmp_ne (tgt := 191) hx hb d_Mod_alike_167 (by decide) (fun c35 => ?_) (fun c35 => ?_)
        · have h := h.1 c35
          refine lv_iconst (v := 0) hx hb d_Mod_alike_191 (by decide) ?_
          refine lv_istore_n (lv' := [(3, .int 0), (5, .int z19), (4, .int z17), (0, .ref (V.2.2 31))]) hx hb d_Mod_alike_192 rfl hl (by decide) rfl (fun ls hl => ?_)
          refine lv_iconst (v := 0) hx hb d_Mod_alike_193 (by decide) ?_
          refine lv_istore (lv' := [(6, .int 0), (3, .int 0), (5, .int z19), (4, .int z17), (0, .ref (V.2.2 31))]) hx hb d_Mod_alike_194 hl (by decide) rfl (fun ls hl => ?_)
          obtain ⟨n, h⟩ := h
          exact w_Mod_alike_L196 C hlocks hr hK85 n _ _ _ _ _ _ _ _ h hI (lv_sub hl [4, 1, 3, 2, 0] rfl)
        · have h := h.2 c35
          refine lv_aload_n hx hb d_Mod_alike_170 rfl (lv_at hl 2 rfl) ?_
          refine x_get C hI (d := 31) (by decide) (xE31 V _) fd_Mod_16 rfl d_Mod_alike_171 ?_
          refine lv_iload hx hb d_Mod_alike_174 (lv_at hl 1 rfl) ?_
          obtain ⟨i36, h⟩ := h
          refine x_iald C hI (d := 42) (by decide) (xE42 V) i36 d_Mod_alike_176 ?_
          refine lv_aload_n hx hb d_Mod_alike_177 rfl (lv_at hl 2 rfl) ?_
          refine x_get C hI (d := 31) (by decide) (xE31 V _) fd_Mod_16 rfl d_Mod_alike_178 ?_
          refine lv_iload hx hb d_Mod_alike_181 (lv_at hl 0 rfl) ?_
          obtain ⟨i37, h⟩ := h
          refine x_iald C hI (d := 42) (by decide) (xE42 V) i37 d_Mod_alike_183 ?_
          refine lv_icmp_ne (tgt := 191) hx hb d_Mod_alike_184 (by decide) (fun c38 => ?_) (fun c38 => ?_)
          · have h := h.1 c38
            refine lv_iconst (v := 0) hx hb d_Mod_alike_191 (by decide) ?_
            refine lv_istore_n (lv' := [(3, .int 0), (5, .int z19), (4, .int z17), (0, .ref (V.2.2 31))]) hx hb d_Mod_alike_192 rfl hl (by decide) rfl (fun ls hl => ?_)
            refine lv_iconst (v := 0) hx hb d_Mod_alike_193 (by decide) ?_
            refine lv_istore (lv' := [(6, .int 0), (3, .int 0), (5, .int z19), (4, .int z17), (0, .ref (V.2.2 31))]) hx hb d_Mod_alike_194 hl (by decide) rfl (fun ls hl => ?_)
            obtain ⟨n, h⟩ := h
            exact w_Mod_alike_L196 C hlocks hr hK85 n _ _ _ _ _ _ _ _ h hI (lv_sub hl [4, 1, 3, 2, 0] rfl)
          · have h := h.2 c38
            refine lv_iconst (v := 1) hx hb d_Mod_alike_187 (by decide) ?_
            refine lv_goto (tgt := 192) hx hb d_Mod_alike_188 (by decide) ?_
            refine lv_istore_n (lv' := [(3, .int 1), (5, .int z19), (4, .int z17), (0, .ref (V.2.2 31))]) hx hb d_Mod_alike_192 rfl hl (by decide) rfl (fun ls hl => ?_)
            refine lv_iconst (v := 0) hx hb d_Mod_alike_193 (by decide) ?_
            refine lv_istore (lv' := [(6, .int 0), (3, .int 1), (5, .int z19), (4, .int z17), (0, .ref (V.2.2 31))]) hx hb d_Mod_alike_194 hl (by decide) rfl (fun ls hl => ?_)
            obtain ⟨n, h⟩ := h
            exact w_Mod_alike_L196 C hlocks hr hK85 n _ _ _ _ _ _ _ _ h hI (lv_sub hl [4, 1, 3, 2, 0] rfl)
theorem w_Mod_alike_L85 {p : Program} {l : Launch} {e : Env} {s : State} {m : MethodId} {args : Array Value} {below : List Frame} {meth : Method} {c : Code} {V : xV} (C : xC p s m args c cd_Mod_alike 7 R_Mod V) (hlocks : meth.locks = false) (hr : meth.sig.returnType = (some .boolean)) {Q : Int32 → xS → Prop} : ∀ (n : Nat) (x3 : Int32) (σ : xS) (H : Heap) (locs : List Loc) (ls : Array Slot), p_Mod_alike_L85 Q n x3 σ → xI V s.heap σ H locs → lv_has ls 7 [(0, .ref (V.2.2 31)), (3, .int x3)] → W p l e rm_Mod_alike s m args below meth c H locs 0 0 (xZi below V args s Q) (F0 m 85 ls []) := by
  intro n
  induction n with
  | zero =>
    intro x3 σ H locs ls h
    exact False.elim h
  | succ n ih =>
    intro x3 σ H locs ls h hI hl
    exact s_Mod_alike_L85 C hlocks hr (K85 := p_Mod_alike_L85 Q n) (fun x3 σ H locs ls h hI hl => ih x3 σ H locs ls h hI hl) h hI hl
set_option maxRecDepth 100000 in
set_option maxHeartbeats 4000000 in
theorem s_Mod_alike_L31 {p : Program} {l : Launch} {e : Env} {s : State} {m : MethodId} {args : Array Value} {below : List Frame} {meth : Method} {c : Code} {V : xV} (C : xC p s m args c cd_Mod_alike 7 R_Mod V) (hlocks : meth.locks = false) (hr : meth.sig.returnType = (some .boolean)) {Q : Int32 → xS → Prop} {K31 : Int32 → Int32 → Int32 → xS → Prop} (hK31 : ∀ (x1 : Int32) (x2 : Int32) (x3 : Int32) (σ : xS) (H : Heap) (locs : List Loc) (ls : Array Slot), K31 x1 x2 x3 σ → xI V s.heap σ H locs → lv_has ls 7 [(0, .ref (V.2.2 31)), (1, .int x1), (2, .int x2), (3, .int x3)] → W p l e rm_Mod_alike s m args below meth c H locs 0 0 (xZi below V args s Q) (F0 m 31 ls [])) {x1 x2 x3 : Int32} {σ : xS} {H : Heap} {locs : List Loc} {ls : Array Slot} (h : b_Mod_alike_L31 K31 Q x1 x2 x3 σ) (hI : xI V s.heap σ H locs) (hl : lv_has ls 7 [(0, .ref (V.2.2 31)), (1, .int x1), (2, .int x2), (3, .int x3)]) : W p l e rm_Mod_alike s m args below meth c H locs 0 0 (xZi below V args s Q) (F0 m 31 ls []) := by
  have hx := C.1
  have hb := C.2.1
  unfold b_Mod_alike_L31 at h
  refine lv_iload_n hx hb d_Mod_alike_31 rfl (lv_at hl 3 rfl) ?_
  refine lv_sipush (v := 6400) hx hb d_Mod_alike_32 (by decide) ?_
  refine lv_icmp_ge (tgt := 51) hx hb d_Mod_alike_35 (by decide) (fun c7 => ?_) (fun c7 => ?_)
  · have h := h.1 c7
    refine lv_aload_n hx hb d_Mod_alike_51 rfl (lv_at hl 0 rfl) ?_
    refine lv_iconst (v := 0) hx hb d_Mod_alike_52 (by decide) ?_
    refine x_put C hI (d := 31) (by decide) (xE31 V _) (xP_31_31 V _ _) fw_Mod_183 (Nat.le_of_ble_eq_true rfl) d_Mod_alike_53 (fun H locs hI => ?_)
    refine lv_aload_n hx hb d_Mod_alike_56 rfl (lv_at hl 0 rfl) ?_
    refine lv_aload_n hx hb d_Mod_alike_57 rfl (lv_at hl 0 rfl) ?_
    refine x_get C hI (d := 31) (by decide) (xE31 V _) fd_Mod_53 rfl d_Mod_alike_58 ?_
    refine lv_iload_n hx hb d_Mod_alike_61 rfl (lv_at hl 1 rfl) ?_
    obtain ⟨i8, h⟩ := h
    refine x_iald C hI (d := 54) (by decide) (xE54 V) i8 d_Mod_alike_62 ?_
    refine lv_aload_n hx hb d_Mod_alike_63 rfl (lv_at hl 0 rfl) ?_
    refine x_get C hI (d := 31) (by decide) (xE31 V _) fd_Mod_56 rfl d_Mod_alike_64 ?_
    refine lv_iload_n hx hb d_Mod_alike_67 rfl (lv_at hl 1 rfl) ?_
    obtain ⟨i9, h⟩ := h
    refine x_iald C hI (d := 55) (by decide) (xE55 V) i9 d_Mod_alike_68 ?_
    refine lv_aload_n hx hb d_Mod_alike_69 rfl (lv_at hl 0 rfl) ?_
    refine x_get C hI (d := 31) (by decide) (xE31 V _) fd_Mod_53 rfl d_Mod_alike_70 ?_
    refine lv_iload_n hx hb d_Mod_alike_73 rfl (lv_at hl 2 rfl) ?_
    obtain ⟨i10, h⟩ := h
    refine x_iald C hI (d := 54) (by decide) (xE54 V) i10 d_Mod_alike_74 ?_
    refine lv_aload_n hx hb d_Mod_alike_75 rfl (lv_at hl 0 rfl) ?_
    refine x_get C hI (d := 31) (by decide) (xE31 V _) fd_Mod_56 rfl d_Mod_alike_76 ?_
    refine lv_iload_n hx hb d_Mod_alike_79 rfl (lv_at hl 2 rfl) ?_
    obtain ⟨i11, h⟩ := h
    refine x_iald C hI (d := 55) (by decide) (xE55 V) i11 d_Mod_alike_80 ?_
    refine x_calli C hI hl.1 (d := 31) (As := [.int ((xu σ 31 31 0) 54 x1.toNatClampNeg), .int ((xu σ 31 31 0) 55 x1.toNatClampNeg), .int ((xu σ 31 31 0) 54 x2.toNatClampNeg), .int ((xu σ 31 31 0) 55 x2.toNatClampNeg)]) (rest := []) (by decide) (c_Mod_mayBe h) (xE31 V _) rfl yw_Mod_mayBe ml_Mod_186 rfl rfl ⟨Nat.le_of_ble_eq_true rfl, Nat.le_of_ble_eq_true rfl⟩ rfl rfl (Nat.le_of_ble_eq_true rfl) d_Mod_alike_81 ⟨Nat.zero_le _, Nat.zero_le _⟩ (fun r13 σ12 H locs h hI => ?_)
    refine lv_istore_n (lv' := [(3, .int r13), (0, .ref (V.2.2 31)), (1, .int x1), (2, .int x2)]) hx hb d_Mod_alike_84 rfl hl (by decide) rfl (fun ls hl => ?_)
    obtain ⟨n, h⟩ := h
    exact w_Mod_alike_L85 C hlocks hr n _ _ _ _ _ h hI (lv_sub hl [1, 0] rfl)
  · have h := h.2 c7
    refine lv_aload_n hx hb d_Mod_alike_38 rfl (lv_at hl 0 rfl) ?_
    refine x_get C hI (d := 31) (by decide) (xE31 V _) fd_Mod_68 rfl d_Mod_alike_39 ?_
    refine lv_iload_n hx hb d_Mod_alike_42 rfl (lv_at hl 3 rfl) ?_
    refine lv_lconst (v := 0) hx hb d_Mod_alike_43 (by decide) ?_
    obtain ⟨i39, h⟩ := h
    refine x_last C hI (d := 59) (by decide) (xE59 V) i39 d_Mod_alike_44 (fun H locs hI => ?_)
    obtain ⟨z40, ez40⟩ : ∃ y : Int32, y = x3 + 1 := ⟨_, rfl⟩
    have h := h z40 ez40
    refine lv_iinc (v := z40) (lv' := [(3, .int z40), (0, .ref (V.2.2 31)), (1, .int x1), (2, .int x2)]) hx hb d_Mod_alike_45 hl (k := 3) rfl (by rw [ez40]; rfl) (by decide) rfl (fun ls hl => ?_)
    refine lv_goto (tgt := 31) hx hb d_Mod_alike_48 (by decide) ?_
    exact hK31 _ _ _ _ _ _ _ h hI (lv_sub hl [1, 2, 3, 0] rfl)
theorem w_Mod_alike_L31 {p : Program} {l : Launch} {e : Env} {s : State} {m : MethodId} {args : Array Value} {below : List Frame} {meth : Method} {c : Code} {V : xV} (C : xC p s m args c cd_Mod_alike 7 R_Mod V) (hlocks : meth.locks = false) (hr : meth.sig.returnType = (some .boolean)) {Q : Int32 → xS → Prop} : ∀ (n : Nat) (x1 : Int32) (x2 : Int32) (x3 : Int32) (σ : xS) (H : Heap) (locs : List Loc) (ls : Array Slot), p_Mod_alike_L31 Q n x1 x2 x3 σ → xI V s.heap σ H locs → lv_has ls 7 [(0, .ref (V.2.2 31)), (1, .int x1), (2, .int x2), (3, .int x3)] → W p l e rm_Mod_alike s m args below meth c H locs 0 0 (xZi below V args s Q) (F0 m 31 ls []) := by
  intro n
  induction n with
  | zero =>
    intro x1 x2 x3 σ H locs ls h
    exact False.elim h
  | succ n ih =>
    intro x1 x2 x3 σ H locs ls h hI hl
    exact s_Mod_alike_L31 C hlocks hr (K31 := p_Mod_alike_L31 Q n) (fun x1 x2 x3 σ H locs ls h hI hl => ih x1 x2 x3 σ H locs ls h hI hl) h hI hl
set_option maxRecDepth 100000 in
set_option maxHeartbeats 4000000 in
theorem t_Mod_alike_J20 {p : Program} {l : Launch} {e : Env} {s : State} {m : MethodId} {args : Array Value} {below : List Frame} {meth : Method} {c : Code} {V : xV} (C : xC p s m args c cd_Mod_alike 7 R_Mod V) (hlocks : meth.locks = false) (hr : meth.sig.returnType = (some .boolean)) {Q : Int32 → xS → Prop} {x1 x2 : Int32} {y0 : Int32} {σ : xS} {H : Heap} {locs : List Loc} {ls : Array Slot} (h : p_Mod_alike_J20 Q x1 x2 y0 σ) (hI : xI V s.heap σ H locs) (hl : lv_has ls 7 [(0, .ref (V.2.2 31)), (1, .int x1), (2, .int x2)]) : W p l e rm_Mod_alike s m args below meth c H locs 0 0 (xZi below V args s Q) (F0 m 20 ls [.int y0, .ref (V.2.2 31)]) := by
  have hx := C.1
  have hb := C.2.1
  unfold p_Mod_alike_J20 at h
  refine lv_iconst (v := 1) hx hb d_Mod_alike_20 (by decide) ?_
  refine x_calli C hI hl.1 (d := 31) (As := [.int y0, .int 1]) (rest := []) (by decide) (c_Mod_goes h) (xE31 V _) rfl yw_Mod_goes ml_Mod_144 rfl rfl ⟨Nat.le_of_ble_eq_true rfl, Nat.le_of_ble_eq_true rfl⟩ rfl rfl (Nat.le_of_ble_eq_true rfl) d_Mod_alike_21 ⟨Nat.zero_le _, Nat.zero_le _⟩ (fun r5 σ4 H locs h hI => ?_)
  refine lv_if_ne (tgt := 29) hx hb d_Mod_alike_24 (by decide) (fun c6 => ?_) (fun c6 => ?_)
  · have h := h.1 c6
    refine lv_iconst (v := 0) hx hb d_Mod_alike_29 (by decide) ?_
    refine lv_istore_n (lv' := [(3, .int 0), (0, .ref (V.2.2 31)), (1, .int x1), (2, .int x2)]) hx hb d_Mod_alike_30 rfl hl (by decide) rfl (fun ls hl => ?_)
    obtain ⟨n, h⟩ := h
    exact w_Mod_alike_L31 C hlocks hr n _ _ _ _ _ _ _ h hI (lv_sub hl [1, 2, 3, 0] rfl)
  · have h := h.2 c6
    refine lv_iconst (v := 0) hx hb d_Mod_alike_27 (by decide) ?_
    exact x_zret C hlocks hr hI ⟨rfl, h⟩ d_Mod_alike_28
set_option maxRecDepth 100000 in
set_option maxHeartbeats 4000000 in
theorem t_Mod_alike_J19 {p : Program} {l : Launch} {e : Env} {s : State} {m : MethodId} {args : Array Value} {below : List Frame} {meth : Method} {c : Code} {V : xV} (C : xC p s m args c cd_Mod_alike 7 R_Mod V) (hlocks : meth.locks = false) (hr : meth.sig.returnType = (some .boolean)) {Q : Int32 → xS → Prop} {x1 x2 : Int32} {σ : xS} {H : Heap} {locs : List Loc} {ls : Array Slot} (h : p_Mod_alike_J19 Q x1 x2 σ) (hI : xI V s.heap σ H locs) (hl : lv_has ls 7 [(0, .ref (V.2.2 31)), (1, .int x1), (2, .int x2)]) : W p l e rm_Mod_alike s m args below meth c H locs 0 0 (xZi below V args s Q) (F0 m 19 ls [.ref (V.2.2 31)]) := by
  have hx := C.1
  have hb := C.2.1
  unfold p_Mod_alike_J19 at h
  refine lv_iconst (v := 0) hx hb d_Mod_alike_19 (by decide) ?_
  exact t_Mod_alike_J20 C hlocks hr h hI (lv_sub hl [0, 1, 2] rfl)
set_option maxRecDepth 100000 in
set_option maxHeartbeats 4000000 in
theorem c_Mod_alike {l : Launch} {V : xV} {σ : xS} {x1 x2 : Int32} {Q : Int32 → xS → Prop} (h : p_Mod_alike x1 x2 σ Q) : xMi l y_Mod_alike (.code y_Mod_alike cd_Mod_alike 7 (some .boolean) :: xG) rm_Mod_alike V [.ref (V.2.2 31), .int x1, .int x2] σ Q := by
  refine x_begini (by decide) (Nat.le_of_ble_eq_true rfl) (fun p e s m below meth c ls C hlocks hr hI hl => ?_)
  have C : xC p s m _ c cd_Mod_alike 7 R_Mod V := C
  have hx := C.1
  have hb := C.2.1
  have hl : lv_has ls 7 [(0, .ref (V.2.2 31)), (1, .int x1), (2, .int x2)] := hl
  unfold p_Mod_alike at h
  refine lv_aload_n hx hb d_Mod_alike_0 rfl (lv_at hl 0 rfl) ?_
  refine lv_iload_n hx hb d_Mod_alike_1 rfl (lv_at hl 1 rfl) ?_
  refine x_calliS C hI hl.1 (As := [.int x1]) (rest := [.ref (V.2.2 31)]) (c_Mod_isRoot h) yw_Mod_isRoot ml_Mod_151 rfl rfl ⟨Nat.le_of_ble_eq_true rfl, Nat.le_of_ble_eq_true rfl⟩ rfl rfl (Nat.le_of_ble_eq_true rfl) d_Mod_alike_2 ⟨Nat.zero_le _, Nat.zero_le _⟩ (fun r2 σ1 H locs h hI => ?_)
  refine lv_if_eq (tgt := 19) hx hb d_Mod_alike_5 (by decide) (fun c3 => ?_) (fun c3 => ?_)
  · have h := h.1 c3
    exact t_Mod_alike_J19 C hlocks hr h hI (lv_sub hl [0, 1, 2] rfl)
  · have h := h.2 c3
    refine lv_iload_n hx hb d_Mod_alike_8 rfl (lv_at hl 2 rfl) ?_
    refine x_calliS C hI hl.1 (As := [.int x2]) (rest := [.ref (V.2.2 31)]) (c_Mod_isRoot h) yw_Mod_isRoot ml_Mod_151 rfl rfl ⟨Nat.le_of_ble_eq_true rfl, Nat.le_of_ble_eq_true rfl⟩ rfl rfl (Nat.le_of_ble_eq_true rfl) d_Mod_alike_9 ⟨Nat.zero_le _, Nat.zero_le _⟩ (fun r42 σ41 H locs h hI => ?_)
    refine lv_if_eq (tgt := 19) hx hb d_Mod_alike_12 (by decide) (fun c43 => ?_) (fun c43 => ?_)
    · have h := h.1 c43
      exact t_Mod_alike_J19 C hlocks hr h hI (lv_sub hl [0, 1, 2] rfl)
    · have h := h.2 c43
      refine lv_iconst (v := 1) hx hb d_Mod_alike_15 (by decide) ?_
      refine lv_goto (tgt := 20) hx hb d_Mod_alike_16 (by decide) ?_
      exact t_Mod_alike_J20 C hlocks hr h hI (lv_sub hl [0, 1, 2] rfl)
def y_Mod_root : MethodName := ⟨"RegionPoolModel", "root", "(II)I"⟩
abbrev cd_Mod_root : ByteArray := prog_12_method_40_code
def p_Mod_root (x1 x2 : Int32) (σ : xS) (Q : Int32 → xS → Prop) : Prop :=
  p_Mod_isRoot x1 σ (fun r2 σ1 => p_Mod_goes r2 1 σ1 (fun r4 σ3 => ((¬ r4 = 0 → (vp_in x1 16 ∧ (∀ z7 : Int32, z7 = (σ3 54 x1.toNatClampNeg) → (vp_in x1 16 ∧ (∀ z9 : Int32, z9 = (σ3 55 x1.toNatClampNeg) → ((¬ x2 = 0 → ((¬ x2 = 1 → ((z7 = 2 → ((x2 = 2 → (vp_in z9 640 ∧ Q (σ3 40 z9.toNatClampNeg) σ3)) ∧ (x2 = 3 → (vp_in z9 640 ∧ Q (σ3 41 z9.toNatClampNeg) σ3)) ∧ (x2 = 4 → (vp_in z9 640 ∧ Q (σ3 42 z9.toNatClampNeg) σ3)) ∧ (x2 = 5 → (vp_in z9 640 ∧ Q (σ3 43 z9.toNatClampNeg) σ3)) ∧ (x2 = 6 → (vp_in z9 640 ∧ (((σ3 45 z9.toNatClampNeg) ≤ 0 → Q 0 σ3) ∧ (¬ (σ3 45 z9.toNatClampNeg) ≤ 0 → Q 1 σ3)))) ∧ (¬ x2 = 2 → ¬ x2 = 3 → ¬ x2 = 4 → ¬ x2 = 5 → ¬ x2 = 6 → Q (-1) σ3))) ∧ (¬ z7 = 2 → Q (-1) σ3))) ∧ (x2 = 1 → ((¬ z7 = 2 → Q z9 σ3) ∧ (z7 = 2 → (vp_in z9 640 ∧ Q (σ3 44 z9.toNatClampNeg) σ3)))))) ∧ (x2 = 0 → Q z7 σ3))))))) ∧ (r4 = 0 → Q 0 σ3))))
abbrev rm_Mod_root : Room := { frames := 1, cells := 0, slots := 0, locals := 22 }
theorem d_Mod_root_0 : decode cd_Mod_root 0 = .ok (.aload_n 0, 1) := by decide +kernel
theorem d_Mod_root_1 : decode cd_Mod_root 1 = .ok (.iload_n 1, 1) := by decide +kernel
theorem d_Mod_root_2 : decode cd_Mod_root 2 = .ok (.invokestatic 151, 3) := by decide +kernel
theorem d_Mod_root_5 : decode cd_Mod_root 5 = .ok (.iconst 1, 1) := by decide +kernel
theorem d_Mod_root_6 : decode cd_Mod_root 6 = .ok (.invokevirtual 144, 3) := by decide +kernel
theorem d_Mod_root_9 : decode cd_Mod_root 9 = .ok (.ifCond .ne 5, 3) := by decide +kernel
theorem d_Mod_root_12 : decode cd_Mod_root 12 = .ok (.iconst 0, 1) := by decide +kernel
theorem d_Mod_root_13 : decode cd_Mod_root 13 = .ok (.ireturn, 1) := by decide +kernel
theorem d_Mod_root_14 : decode cd_Mod_root 14 = .ok (.aload_n 0, 1) := by decide +kernel
theorem d_Mod_root_15 : decode cd_Mod_root 15 = .ok (.getfield 53, 3) := by decide +kernel
theorem d_Mod_root_18 : decode cd_Mod_root 18 = .ok (.iload_n 1, 1) := by decide +kernel
theorem d_Mod_root_19 : decode cd_Mod_root 19 = .ok (.iaload, 1) := by decide +kernel
theorem d_Mod_root_20 : decode cd_Mod_root 20 = .ok (.istore_n 3, 1) := by decide +kernel
theorem d_Mod_root_21 : decode cd_Mod_root 21 = .ok (.aload_n 0, 1) := by decide +kernel
theorem d_Mod_root_22 : decode cd_Mod_root 22 = .ok (.getfield 56, 3) := by decide +kernel
theorem d_Mod_root_25 : decode cd_Mod_root 25 = .ok (.iload_n 1, 1) := by decide +kernel
theorem d_Mod_root_26 : decode cd_Mod_root 26 = .ok (.iaload, 1) := by decide +kernel
theorem d_Mod_root_27 : decode cd_Mod_root 27 = .ok (.istore 4, 2) := by decide +kernel
theorem d_Mod_root_29 : decode cd_Mod_root 29 = .ok (.iload_n 2, 1) := by decide +kernel
theorem d_Mod_root_30 : decode cd_Mod_root 30 = .ok (.ifCond .ne 5, 3) := by decide +kernel
theorem d_Mod_root_33 : decode cd_Mod_root 33 = .ok (.iload_n 3, 1) := by decide +kernel
theorem d_Mod_root_34 : decode cd_Mod_root 34 = .ok (.ireturn, 1) := by decide +kernel
theorem d_Mod_root_35 : decode cd_Mod_root 35 = .ok (.iload_n 2, 1) := by decide +kernel
theorem d_Mod_root_36 : decode cd_Mod_root 36 = .ok (.iconst 1, 1) := by decide +kernel
theorem d_Mod_root_37 : decode cd_Mod_root 37 = .ok (.if_icmp .ne 21, 3) := by decide +kernel
theorem d_Mod_root_40 : decode cd_Mod_root 40 = .ok (.iload_n 3, 1) := by decide +kernel
theorem d_Mod_root_41 : decode cd_Mod_root 41 = .ok (.iconst 2, 1) := by decide +kernel
theorem d_Mod_root_42 : decode cd_Mod_root 42 = .ok (.if_icmp .ne 13, 3) := by decide +kernel
theorem d_Mod_root_45 : decode cd_Mod_root 45 = .ok (.aload_n 0, 1) := by decide +kernel
theorem d_Mod_root_46 : decode cd_Mod_root 46 = .ok (.getfield 22, 3) := by decide +kernel
theorem d_Mod_root_49 : decode cd_Mod_root 49 = .ok (.iload 4, 2) := by decide +kernel
theorem d_Mod_root_51 : decode cd_Mod_root 51 = .ok (.iaload, 1) := by decide +kernel
theorem d_Mod_root_52 : decode cd_Mod_root 52 = .ok (.goto 5, 3) := by decide +kernel
theorem d_Mod_root_55 : decode cd_Mod_root 55 = .ok (.iload 4, 2) := by decide +kernel
theorem d_Mod_root_57 : decode cd_Mod_root 57 = .ok (.ireturn, 1) := by decide +kernel
theorem d_Mod_root_58 : decode cd_Mod_root 58 = .ok (.iload_n 3, 1) := by decide +kernel
theorem d_Mod_root_59 : decode cd_Mod_root 59 = .ok (.iconst 2, 1) := by decide +kernel
theorem d_Mod_root_60 : decode cd_Mod_root 60 = .ok (.if_icmp .eq 5, 3) := by decide +kernel
theorem d_Mod_root_63 : decode cd_Mod_root 63 = .ok (.iconst (-1), 1) := by decide +kernel
theorem d_Mod_root_64 : decode cd_Mod_root 64 = .ok (.ireturn, 1) := by decide +kernel
theorem d_Mod_root_65 : decode cd_Mod_root 65 = .ok (.iload_n 2, 1) := by decide +kernel
theorem d_Mod_root_66 : decode cd_Mod_root 66 = .ok (.tableswitch 82 2 6 #[34, 42, 50, 58, 66], 34) := by decide +kernel
theorem d_Mod_root_100 : decode cd_Mod_root 100 = .ok (.aload_n 0, 1) := by decide +kernel
theorem d_Mod_root_101 : decode cd_Mod_root 101 = .ok (.getfield 7, 3) := by decide +kernel
theorem d_Mod_root_104 : decode cd_Mod_root 104 = .ok (.iload 4, 2) := by decide +kernel
theorem d_Mod_root_106 : decode cd_Mod_root 106 = .ok (.iaload, 1) := by decide +kernel
theorem d_Mod_root_107 : decode cd_Mod_root 107 = .ok (.ireturn, 1) := by decide +kernel
theorem d_Mod_root_108 : decode cd_Mod_root 108 = .ok (.aload_n 0, 1) := by decide +kernel
theorem d_Mod_root_109 : decode cd_Mod_root 109 = .ok (.getfield 13, 3) := by decide +kernel
theorem d_Mod_root_112 : decode cd_Mod_root 112 = .ok (.iload 4, 2) := by decide +kernel
theorem d_Mod_root_114 : decode cd_Mod_root 114 = .ok (.iaload, 1) := by decide +kernel
theorem d_Mod_root_115 : decode cd_Mod_root 115 = .ok (.ireturn, 1) := by decide +kernel
theorem d_Mod_root_116 : decode cd_Mod_root 116 = .ok (.aload_n 0, 1) := by decide +kernel
theorem d_Mod_root_117 : decode cd_Mod_root 117 = .ok (.getfield 16, 3) := by decide +kernel
theorem d_Mod_root_120 : decode cd_Mod_root 120 = .ok (.iload 4, 2) := by decide +kernel
theorem d_Mod_root_122 : decode cd_Mod_root 122 = .ok (.iaload, 1) := by decide +kernel
theorem d_Mod_root_123 : decode cd_Mod_root 123 = .ok (.ireturn, 1) := by decide +kernel
theorem d_Mod_root_124 : decode cd_Mod_root 124 = .ok (.aload_n 0, 1) := by decide +kernel
theorem d_Mod_root_125 : decode cd_Mod_root 125 = .ok (.getfield 19, 3) := by decide +kernel
theorem d_Mod_root_128 : decode cd_Mod_root 128 = .ok (.iload 4, 2) := by decide +kernel
theorem d_Mod_root_130 : decode cd_Mod_root 130 = .ok (.iaload, 1) := by decide +kernel
theorem d_Mod_root_131 : decode cd_Mod_root 131 = .ok (.ireturn, 1) := by decide +kernel
theorem d_Mod_root_132 : decode cd_Mod_root 132 = .ok (.aload_n 0, 1) := by decide +kernel
theorem d_Mod_root_133 : decode cd_Mod_root 133 = .ok (.getfield 25, 3) := by decide +kernel
theorem d_Mod_root_136 : decode cd_Mod_root 136 = .ok (.iload 4, 2) := by decide +kernel
theorem d_Mod_root_138 : decode cd_Mod_root 138 = .ok (.iaload, 1) := by decide +kernel
theorem d_Mod_root_139 : decode cd_Mod_root 139 = .ok (.ifCond .le 7, 3) := by decide +kernel
theorem d_Mod_root_142 : decode cd_Mod_root 142 = .ok (.iconst 1, 1) := by decide +kernel
theorem d_Mod_root_143 : decode cd_Mod_root 143 = .ok (.goto 4, 3) := by decide +kernel
theorem d_Mod_root_146 : decode cd_Mod_root 146 = .ok (.iconst 0, 1) := by decide +kernel
theorem d_Mod_root_147 : decode cd_Mod_root 147 = .ok (.ireturn, 1) := by decide +kernel
theorem d_Mod_root_148 : decode cd_Mod_root 148 = .ok (.iconst (-1), 1) := by decide +kernel
theorem d_Mod_root_149 : decode cd_Mod_root 149 = .ok (.ireturn, 1) := by decide +kernel
set_option maxRecDepth 100000 in
set_option maxHeartbeats 4000000 in
theorem c_Mod_root {l : Launch} {V : xV} {σ : xS} {x1 x2 : Int32} {Q : Int32 → xS → Prop} (h : p_Mod_root x1 x2 σ Q) : xMi l y_Mod_root (.code y_Mod_root cd_Mod_root 5 (some .int) :: xG) rm_Mod_root V [.ref (V.2.2 31), .int x1, .int x2] σ Q := by
  refine x_begini (by decide) (Nat.le_of_ble_eq_true rfl) (fun p e s m below meth c ls C hlocks hr hI hl => ?_)
  have C : xC p s m _ c cd_Mod_root 5 R_Mod V := C
  have hx := C.1
  have hb := C.2.1
  have hl : lv_has ls 5 [(0, .ref (V.2.2 31)), (1, .int x1), (2, .int x2)] := hl
  unfold p_Mod_root at h
  refine lv_aload_n hx hb d_Mod_root_0 rfl (lv_at hl 0 rfl) ?_
  refine lv_iload_n hx hb d_Mod_root_1 rfl (lv_at hl 1 rfl) ?_
  refine x_calliS C hI hl.1 (As := [.int x1]) (rest := [.ref (V.2.2 31)]) (c_Mod_isRoot h) yw_Mod_isRoot ml_Mod_151 rfl rfl ⟨Nat.le_of_ble_eq_true rfl, Nat.le_of_ble_eq_true rfl⟩ rfl rfl (Nat.le_of_ble_eq_true rfl) d_Mod_root_2 ⟨Nat.zero_le _, Nat.zero_le _⟩ (fun r2 σ1 H locs h hI => ?_)
  refine lv_iconst (v := 1) hx hb d_Mod_root_5 (by decide) ?_
  refine x_calli C hI hl.1 (d := 31) (As := [.int r2, .int 1]) (rest := []) (by decide) (c_Mod_goes h) (xE31 V _) rfl yw_Mod_goes ml_Mod_144 rfl rfl ⟨Nat.le_of_ble_eq_true rfl, Nat.le_of_ble_eq_true rfl⟩ rfl rfl (Nat.le_of_ble_eq_true rfl) d_Mod_root_6 ⟨Nat.zero_le _, Nat.zero_le _⟩ (fun r4 σ3 H locs h hI => ?_)
  refine lv_if_ne (tgt := 14) hx hb d_Mod_root_9 (by decide) (fun c5 => ?_) (fun c5 => ?_)
  · have h := h.1 c5
    refine lv_aload_n hx hb d_Mod_root_14 rfl (lv_at hl 0 rfl) ?_
    refine x_get C hI (d := 31) (by decide) (xE31 V _) fd_Mod_53 rfl d_Mod_root_15 ?_
    refine lv_iload_n hx hb d_Mod_root_18 rfl (lv_at hl 1 rfl) ?_
    obtain ⟨i6, h⟩ := h
    refine x_iald C hI (d := 54) (by decide) (xE54 V) i6 d_Mod_root_19 ?_
    refine lv_topi (fun z7 ez7 => ?_)
    have h := h z7 ez7
    refine lv_istore_n (lv' := [(3, .int z7), (0, .ref (V.2.2 31)), (1, .int x1), (2, .int x2)]) hx hb d_Mod_root_20 rfl hl (by decide) rfl (fun ls hl => ?_)
    refine lv_aload_n hx hb d_Mod_root_21 rfl (lv_at hl 1 rfl) ?_
    refine x_get C hI (d := 31) (by decide) (xE31 V _) fd_Mod_56 rfl d_Mod_root_22 ?_
    refine lv_iload_n hx hb d_Mod_root_25 rfl (lv_at hl 2 rfl) ?_
    obtain ⟨i8, h⟩ := h
    refine x_iald C hI (d := 55) (by decide) (xE55 V) i8 d_Mod_root_26 ?_
    refine lv_topi (fun z9 ez9 => ?_)
    have h := h z9 ez9
    refine lv_istore (lv' := [(4, .int z9), (3, .int z7), (0, .ref (V.2.2 31)), (1, .int x1), (2, .int x2)]) hx hb d_Mod_root_27 hl (by decide) rfl (fun ls hl => ?_)
    refine lv_iload_n hx hb d_Mod_root_29 rfl (lv_at hl 4 rfl) ?_
    refine lv_if_ne (tgt := 35) hx hb d_Mod_root_30 (by decide) (fun c10 => ?_) (fun c10 => ?_)
    · have h := h.1 c10
      refine lv_iload_n hx hb d_Mod_root_35 rfl (lv_at hl 4 rfl) ?_
      refine lv_iconst (v := 1) hx hb d_Mod_root_36 (by decide) ?_
      refine lv_icmp_ne (tgt := 58) hx hb d_Mod_root_37 (by decide) (fun c11 => ?_) (fun c11 => ?_)
      · have h := h.1 c11
        refine lv_iload_n hx hb d_Mod_root_58 rfl (lv_at hl 1 rfl) ?_
        refine lv_iconst (v := 2) hx hb d_Mod_root_59 (by decide) ?_
        refine lv_icmp_eq (tgt := 65) hx hb d_Mod_root_60 (by decide) (fun c12 => ?_) (fun c12 => ?_)
        · have h := h.1 c12
          refine lv_iload_n hx hb d_Mod_root_65 rfl (lv_at hl 4 rfl) ?_
          by_cases c19 : x2 = 2
          · have h := h.1 c19
            refine lv_tableIn (tgt := 100) hx hb d_Mod_root_66 (by rw [c19]; decide) (by rw [c19]; decide) (by rw [c19]; rfl) (by decide) ?_
            refine lv_aload_n hx hb d_Mod_root_100 rfl (lv_at hl 2 rfl) ?_
            refine x_get C hI (d := 31) (by decide) (xE31 V _) fd_Mod_7 rfl d_Mod_root_101 ?_
            refine lv_iload hx hb d_Mod_root_104 (lv_at hl 0 rfl) ?_
            obtain ⟨i13, h⟩ := h
            refine x_iald C hI (d := 40) (by decide) (xE40 V) i13 d_Mod_root_106 ?_
            exact x_iret C hlocks hr hI h d_Mod_root_107
          by_cases c20 : x2 = 3
          · have h := h.2.1 c20
            refine lv_tableIn (tgt := 108) hx hb d_Mod_root_66 (by rw [c20]; decide) (by rw [c20]; decide) (by rw [c20]; rfl) (by decide) ?_
            refine lv_aload_n hx hb d_Mod_root_108 rfl (lv_at hl 2 rfl) ?_
            refine x_get C hI (d := 31) (by decide) (xE31 V _) fd_Mod_13 rfl d_Mod_root_109 ?_
            refine lv_iload hx hb d_Mod_root_112 (lv_at hl 0 rfl) ?_
            obtain ⟨i14, h⟩ := h
            refine x_iald C hI (d := 41) (by decide) (xE41 V) i14 d_Mod_root_114 ?_
            exact x_iret C hlocks hr hI h d_Mod_root_115
          by_cases c21 : x2 = 4
          · have h := h.2.2.1 c21
            refine lv_tableIn (tgt := 116) hx hb d_Mod_root_66 (by rw [c21]; decide) (by rw [c21]; decide) (by rw [c21]; rfl) (by decide) ?_
            refine lv_aload_n hx hb d_Mod_root_116 rfl (lv_at hl 2 rfl) ?_
            refine x_get C hI (d := 31) (by decide) (xE31 V _) fd_Mod_16 rfl d_Mod_root_117 ?_
            refine lv_iload hx hb d_Mod_root_120 (lv_at hl 0 rfl) ?_
            obtain ⟨i15, h⟩ := h
            refine x_iald C hI (d := 42) (by decide) (xE42 V) i15 d_Mod_root_122 ?_
            exact x_iret C hlocks hr hI h d_Mod_root_123
          by_cases c22 : x2 = 5
          · have h := h.2.2.2.1 c22
            refine lv_tableIn (tgt := 124) hx hb d_Mod_root_66 (by rw [c22]; decide) (by rw [c22]; decide) (by rw [c22]; rfl) (by decide) ?_
            refine lv_aload_n hx hb d_Mod_root_124 rfl (lv_at hl 2 rfl) ?_
            refine x_get C hI (d := 31) (by decide) (xE31 V _) fd_Mod_19 rfl d_Mod_root_125 ?_
            refine lv_iload hx hb d_Mod_root_128 (lv_at hl 0 rfl) ?_
            obtain ⟨i16, h⟩ := h
            refine x_iald C hI (d := 43) (by decide) (xE43 V) i16 d_Mod_root_130 ?_
            exact x_iret C hlocks hr hI h d_Mod_root_131
          by_cases c23 : x2 = 6
          · have h := h.2.2.2.2.1 c23
            refine lv_tableIn (tgt := 132) hx hb d_Mod_root_66 (by rw [c23]; decide) (by rw [c23]; decide) (by rw [c23]; rfl) (by decide) ?_
            refine lv_aload_n hx hb d_Mod_root_132 rfl (lv_at hl 2 rfl) ?_
            refine x_get C hI (d := 31) (by decide) (xE31 V _) fd_Mod_25 rfl d_Mod_root_133 ?_
            refine lv_iload hx hb d_Mod_root_136 (lv_at hl 0 rfl) ?_
            obtain ⟨i17, h⟩ := h
            refine x_iald C hI (d := 45) (by decide) (xE45 V) i17 d_Mod_root_138 ?_
            refine lv_if_le (tgt := 146) hx hb d_Mod_root_139 (by decide) (fun c18 => ?_) (fun c18 => ?_)
            · have h := h.1 c18
              refine lv_iconst (v := 0) hx hb d_Mod_root_146 (by decide) ?_
              exact x_iret C hlocks hr hI h d_Mod_root_147
            · have h := h.2 c18
              refine lv_iconst (v := 1) hx hb d_Mod_root_142 (by decide) ?_
              refine lv_goto (tgt := 147) hx hb d_Mod_root_143 (by decide) ?_
              exact x_iret C hlocks hr hI h d_Mod_root_147
          have h := h.2.2.2.2.2 c19 c20 c21 c22 c23
          refine lv_tableOut (tgt := 148) hx hb d_Mod_root_66 (by have := x_ne c19 (n := 2) (by decide); have := x_ne c20 (n := 3) (by decide); have := x_ne c21 (n := 4) (by decide); have := x_ne c22 (n := 5) (by decide); have := x_ne c23 (n := 6) (by decide); omega) (by decide) ?_
          refine lv_iconst (v := (-1)) hx hb d_Mod_root_148 (by decide) ?_
          exact x_iret C hlocks hr hI h d_Mod_root_149
        · have h := h.2 c12
          refine lv_iconst (v := (-1)) hx hb d_Mod_root_63 (by decide) ?_
          exact x_iret C hlocks hr hI h d_Mod_root_64
      · have h := h.2 c11
        refine lv_iload_n hx hb d_Mod_root_40 rfl (lv_at hl 1 rfl) ?_
        refine lv_iconst (v := 2) hx hb d_Mod_root_41 (by decide) ?_
        refine lv_icmp_ne (tgt := 55) hx hb d_Mod_root_42 (by decide) (fun c24 => ?_) (fun c24 => ?_)
        · have h := h.1 c24
          refine lv_iload hx hb d_Mod_root_55 (lv_at hl 0 rfl) ?_
          exact x_iret C hlocks hr hI h d_Mod_root_57
        · have h := h.2 c24
          refine lv_aload_n hx hb d_Mod_root_45 rfl (lv_at hl 2 rfl) ?_
          refine x_get C hI (d := 31) (by decide) (xE31 V _) fd_Mod_22 rfl d_Mod_root_46 ?_
          refine lv_iload hx hb d_Mod_root_49 (lv_at hl 0 rfl) ?_
          obtain ⟨i25, h⟩ := h
          refine x_iald C hI (d := 44) (by decide) (xE44 V) i25 d_Mod_root_51 ?_
          refine lv_goto (tgt := 57) hx hb d_Mod_root_52 (by decide) ?_
          exact x_iret C hlocks hr hI h d_Mod_root_57
    · have h := h.2 c10
      refine lv_iload_n hx hb d_Mod_root_33 rfl (lv_at hl 1 rfl) ?_
      exact x_iret C hlocks hr hI h d_Mod_root_34
  · have h := h.2 c5
    refine lv_iconst (v := 0) hx hb d_Mod_root_12 (by decide) ?_
    exact x_iret C hlocks hr hI h d_Mod_root_13
def y_Mod_field : MethodName := ⟨"RegionPoolModel", "field", "(III)I"⟩
abbrev cd_Mod_field : ByteArray := prog_12_method_41_code
def p_Mod_field_J57 (Q : Int32 → xS → Prop) (x2 x3 x4 : Int32) (y0 : Int32) (y2 : Int32) (σ : xS) : Prop :=
  (vp_in y0 640 ∧ ((y2 < (σ 42 y0.toNatClampNeg) → (vp_in ((15 * x4) + x2) 9600 ∧ (∀ z16 : Int32, z16 = (σ 46 ((15 * x4) + x2).toNatClampNeg) → (vp_in ((15 * x4) + x2) 9600 ∧ (∀ z18 : Int32, z18 = (σ 47 ((15 * x4) + x2).toNatClampNeg) → ((x3 = 0 → Q z16 σ) ∧ (x3 = 1 → ((¬ z16 = 2 → Q z18 σ) ∧ (z16 = 2 → (vp_in z18 640 ∧ Q (σ 44 z18.toNatClampNeg) σ)))) ∧ (x3 = 2 → ((¬ z16 = 2 → Q (-1) σ) ∧ (z16 = 2 → (vp_in z18 640 ∧ Q (σ 41 z18.toNatClampNeg) σ)))) ∧ (¬ x3 = 0 → ¬ x3 = 1 → ¬ x3 = 2 → Q (-1) σ))))))) ∧ (¬ y2 < (σ 42 y0.toNatClampNeg) → Q (-1) σ)))
def p_Mod_field (x1 x2 x3 : Int32) (σ : xS) (Q : Int32 → xS → Prop) : Prop :=
  p_Mod_isRoot x1 σ (fun r2 σ1 => p_Mod_goes r2 1 σ1 (fun r4 σ3 => ((¬ r4 = 0 → (vp_in x1 16 ∧ (∀ z7 : Int32, z7 = (σ3 55 x1.toNatClampNeg) → (vp_in x1 16 ∧ ((¬ (σ3 54 x1.toNatClampNeg) = 2 → Q (-1) σ3) ∧ ((σ3 54 x1.toNatClampNeg) = 2 → ((x2 < 0 → Q (-1) σ3) ∧ (¬ x2 < 0 → (vp_in x1 16 ∧ ((¬ (σ3 54 x1.toNatClampNeg) = 2 → p_Mod_field_J57 Q x2 x3 z7 0 x2 σ3) ∧ ((σ3 54 x1.toNatClampNeg) = 2 → p_Mod_field_J57 Q x2 x3 z7 z7 x2 σ3))))))))))) ∧ (r4 = 0 → Q 0 σ3))))
abbrev rm_Mod_field : Room := { frames := 1, cells := 0, slots := 0, locals := 22 }
theorem d_Mod_field_0 : decode cd_Mod_field 0 = .ok (.aload_n 0, 1) := by decide +kernel
theorem d_Mod_field_1 : decode cd_Mod_field 1 = .ok (.iload_n 1, 1) := by decide +kernel
theorem d_Mod_field_2 : decode cd_Mod_field 2 = .ok (.invokestatic 151, 3) := by decide +kernel
theorem d_Mod_field_5 : decode cd_Mod_field 5 = .ok (.iconst 1, 1) := by decide +kernel
theorem d_Mod_field_6 : decode cd_Mod_field 6 = .ok (.invokevirtual 144, 3) := by decide +kernel
theorem d_Mod_field_9 : decode cd_Mod_field 9 = .ok (.ifCond .ne 5, 3) := by decide +kernel
theorem d_Mod_field_12 : decode cd_Mod_field 12 = .ok (.iconst 0, 1) := by decide +kernel
theorem d_Mod_field_13 : decode cd_Mod_field 13 = .ok (.ireturn, 1) := by decide +kernel
theorem d_Mod_field_14 : decode cd_Mod_field 14 = .ok (.aload_n 0, 1) := by decide +kernel
theorem d_Mod_field_15 : decode cd_Mod_field 15 = .ok (.getfield 56, 3) := by decide +kernel
theorem d_Mod_field_18 : decode cd_Mod_field 18 = .ok (.iload_n 1, 1) := by decide +kernel
theorem d_Mod_field_19 : decode cd_Mod_field 19 = .ok (.iaload, 1) := by decide +kernel
theorem d_Mod_field_20 : decode cd_Mod_field 20 = .ok (.istore 4, 2) := by decide +kernel
theorem d_Mod_field_22 : decode cd_Mod_field 22 = .ok (.aload_n 0, 1) := by decide +kernel
theorem d_Mod_field_23 : decode cd_Mod_field 23 = .ok (.getfield 53, 3) := by decide +kernel
theorem d_Mod_field_26 : decode cd_Mod_field 26 = .ok (.iload_n 1, 1) := by decide +kernel
theorem d_Mod_field_27 : decode cd_Mod_field 27 = .ok (.iaload, 1) := by decide +kernel
theorem d_Mod_field_28 : decode cd_Mod_field 28 = .ok (.iconst 2, 1) := by decide +kernel
theorem d_Mod_field_29 : decode cd_Mod_field 29 = .ok (.if_icmp .ne 32, 3) := by decide +kernel
theorem d_Mod_field_32 : decode cd_Mod_field 32 = .ok (.iload_n 2, 1) := by decide +kernel
theorem d_Mod_field_33 : decode cd_Mod_field 33 = .ok (.ifCond .lt 28, 3) := by decide +kernel
theorem d_Mod_field_36 : decode cd_Mod_field 36 = .ok (.iload_n 2, 1) := by decide +kernel
theorem d_Mod_field_37 : decode cd_Mod_field 37 = .ok (.aload_n 0, 1) := by decide +kernel
theorem d_Mod_field_38 : decode cd_Mod_field 38 = .ok (.getfield 16, 3) := by decide +kernel
theorem d_Mod_field_41 : decode cd_Mod_field 41 = .ok (.aload_n 0, 1) := by decide +kernel
theorem d_Mod_field_42 : decode cd_Mod_field 42 = .ok (.getfield 53, 3) := by decide +kernel
theorem d_Mod_field_45 : decode cd_Mod_field 45 = .ok (.iload_n 1, 1) := by decide +kernel
theorem d_Mod_field_46 : decode cd_Mod_field 46 = .ok (.iaload, 1) := by decide +kernel
theorem d_Mod_field_47 : decode cd_Mod_field 47 = .ok (.iconst 2, 1) := by decide +kernel
theorem d_Mod_field_48 : decode cd_Mod_field 48 = .ok (.if_icmp .ne 8, 3) := by decide +kernel
theorem d_Mod_field_51 : decode cd_Mod_field 51 = .ok (.iload 4, 2) := by decide +kernel
theorem d_Mod_field_53 : decode cd_Mod_field 53 = .ok (.goto 4, 3) := by decide +kernel
theorem d_Mod_field_56 : decode cd_Mod_field 56 = .ok (.iconst 0, 1) := by decide +kernel
theorem d_Mod_field_57 : decode cd_Mod_field 57 = .ok (.iaload, 1) := by decide +kernel
theorem d_Mod_field_58 : decode cd_Mod_field 58 = .ok (.if_icmp .lt 5, 3) := by decide +kernel
theorem d_Mod_field_61 : decode cd_Mod_field 61 = .ok (.iconst (-1), 1) := by decide +kernel
theorem d_Mod_field_62 : decode cd_Mod_field 62 = .ok (.ireturn, 1) := by decide +kernel
theorem d_Mod_field_63 : decode cd_Mod_field 63 = .ok (.aload_n 0, 1) := by decide +kernel
theorem d_Mod_field_64 : decode cd_Mod_field 64 = .ok (.getfield 28, 3) := by decide +kernel
theorem d_Mod_field_67 : decode cd_Mod_field 67 = .ok (.bipush 15, 2) := by decide +kernel
theorem d_Mod_field_69 : decode cd_Mod_field 69 = .ok (.iload 4, 2) := by decide +kernel
theorem d_Mod_field_71 : decode cd_Mod_field 71 = .ok (.imul, 1) := by decide +kernel
theorem d_Mod_field_72 : decode cd_Mod_field 72 = .ok (.iload_n 2, 1) := by decide +kernel
theorem d_Mod_field_73 : decode cd_Mod_field 73 = .ok (.iadd, 1) := by decide +kernel
theorem d_Mod_field_74 : decode cd_Mod_field 74 = .ok (.iaload, 1) := by decide +kernel
theorem d_Mod_field_75 : decode cd_Mod_field 75 = .ok (.istore 5, 2) := by decide +kernel
theorem d_Mod_field_77 : decode cd_Mod_field 77 = .ok (.aload_n 0, 1) := by decide +kernel
theorem d_Mod_field_78 : decode cd_Mod_field 78 = .ok (.getfield 31, 3) := by decide +kernel
theorem d_Mod_field_81 : decode cd_Mod_field 81 = .ok (.bipush 15, 2) := by decide +kernel
theorem d_Mod_field_83 : decode cd_Mod_field 83 = .ok (.iload 4, 2) := by decide +kernel
theorem d_Mod_field_85 : decode cd_Mod_field 85 = .ok (.imul, 1) := by decide +kernel
theorem d_Mod_field_86 : decode cd_Mod_field 86 = .ok (.iload_n 2, 1) := by decide +kernel
theorem d_Mod_field_87 : decode cd_Mod_field 87 = .ok (.iadd, 1) := by decide +kernel
theorem d_Mod_field_88 : decode cd_Mod_field 88 = .ok (.iaload, 1) := by decide +kernel
theorem d_Mod_field_89 : decode cd_Mod_field 89 = .ok (.istore 6, 2) := by decide +kernel
theorem d_Mod_field_91 : decode cd_Mod_field 91 = .ok (.iload_n 3, 1) := by decide +kernel
theorem d_Mod_field_92 : decode cd_Mod_field 92 = .ok (.tableswitch 68 0 2 #[28, 31, 50], 28) := by decide +kernel
theorem d_Mod_field_120 : decode cd_Mod_field 120 = .ok (.iload 5, 2) := by decide +kernel
theorem d_Mod_field_122 : decode cd_Mod_field 122 = .ok (.ireturn, 1) := by decide +kernel
theorem d_Mod_field_123 : decode cd_Mod_field 123 = .ok (.iload 5, 2) := by decide +kernel
theorem d_Mod_field_125 : decode cd_Mod_field 125 = .ok (.iconst 2, 1) := by decide +kernel
theorem d_Mod_field_126 : decode cd_Mod_field 126 = .ok (.if_icmp .ne 13, 3) := by decide +kernel
theorem d_Mod_field_129 : decode cd_Mod_field 129 = .ok (.aload_n 0, 1) := by decide +kernel
theorem d_Mod_field_130 : decode cd_Mod_field 130 = .ok (.getfield 22, 3) := by decide +kernel
theorem d_Mod_field_133 : decode cd_Mod_field 133 = .ok (.iload 6, 2) := by decide +kernel
theorem d_Mod_field_135 : decode cd_Mod_field 135 = .ok (.iaload, 1) := by decide +kernel
theorem d_Mod_field_136 : decode cd_Mod_field 136 = .ok (.goto 5, 3) := by decide +kernel
theorem d_Mod_field_139 : decode cd_Mod_field 139 = .ok (.iload 6, 2) := by decide +kernel
theorem d_Mod_field_141 : decode cd_Mod_field 141 = .ok (.ireturn, 1) := by decide +kernel
theorem d_Mod_field_142 : decode cd_Mod_field 142 = .ok (.iload 5, 2) := by decide +kernel
theorem d_Mod_field_144 : decode cd_Mod_field 144 = .ok (.iconst 2, 1) := by decide +kernel
theorem d_Mod_field_145 : decode cd_Mod_field 145 = .ok (.if_icmp .ne 13, 3) := by decide +kernel
theorem d_Mod_field_148 : decode cd_Mod_field 148 = .ok (.aload_n 0, 1) := by decide +kernel
theorem d_Mod_field_149 : decode cd_Mod_field 149 = .ok (.getfield 13, 3) := by decide +kernel
theorem d_Mod_field_152 : decode cd_Mod_field 152 = .ok (.iload 6, 2) := by decide +kernel
theorem d_Mod_field_154 : decode cd_Mod_field 154 = .ok (.iaload, 1) := by decide +kernel
theorem d_Mod_field_155 : decode cd_Mod_field 155 = .ok (.goto 4, 3) := by decide +kernel
theorem d_Mod_field_158 : decode cd_Mod_field 158 = .ok (.iconst (-1), 1) := by decide +kernel
theorem d_Mod_field_159 : decode cd_Mod_field 159 = .ok (.ireturn, 1) := by decide +kernel
theorem d_Mod_field_160 : decode cd_Mod_field 160 = .ok (.iconst (-1), 1) := by decide +kernel
theorem d_Mod_field_161 : decode cd_Mod_field 161 = .ok (.ireturn, 1) := by decide +kernel
set_option maxRecDepth 100000 in
set_option maxHeartbeats 4000000 in
theorem t_Mod_field_J57 {p : Program} {l : Launch} {e : Env} {s : State} {m : MethodId} {args : Array Value} {below : List Frame} {meth : Method} {c : Code} {V : xV} (C : xC p s m args c cd_Mod_field 7 R_Mod V) (hlocks : meth.locks = false) (hr : meth.sig.returnType = (some .int)) {Q : Int32 → xS → Prop} {x2 x3 x4 : Int32} {y0 : Int32} {y2 : Int32} {σ : xS} {H : Heap} {locs : List Loc} {ls : Array Slot} (h : p_Mod_field_J57 Q x2 x3 x4 y0 y2 σ) (hI : xI V s.heap σ H locs) (hl : lv_has ls 7 [(0, .ref (V.2.2 31)), (2, .int x2), (3, .int x3), (4, .int x4)]) : W p l e rm_Mod_field s m args below meth c H locs 0 0 (xZi below V args s Q) (F0 m 57 ls [.int y0, .ref (V.2.2 42), .int y2]) := by
  have hx := C.1
  have hb := C.2.1
  unfold p_Mod_field_J57 at h
  obtain ⟨i13, h⟩ := h
  refine x_iald C hI (d := 42) (by decide) (xE42 V) i13 d_Mod_field_57 ?_
  refine lv_icmp_lt (tgt := 63) hx hb d_Mod_field_58 (by decide) (fun c14 => ?_) (fun c14 => ?_)
  · have h := h.1 c14
    refine lv_aload_n hx hb d_Mod_field_63 rfl (lv_at hl 0 rfl) ?_
    refine x_get C hI (d := 31) (by decide) (xE31 V _) fd_Mod_28 rfl d_Mod_field_64 ?_
    refine lv_bipush (v := 15) hx hb d_Mod_field_67 (by decide) ?_
    refine lv_iload hx hb d_Mod_field_69 (lv_at hl 3 rfl) ?_
    refine lv_imul hx hb d_Mod_field_71 ?_
    refine lv_iload_n hx hb d_Mod_field_72 rfl (lv_at hl 1 rfl) ?_
    refine lv_iadd hx hb d_Mod_field_73 ?_
    obtain ⟨i15, h⟩ := h
    refine x_iald C hI (d := 46) (by decide) (xE46 V) i15 d_Mod_field_74 ?_
    refine lv_topi (fun z16 ez16 => ?_)
    have h := h z16 ez16
    refine lv_istore (lv' := [(5, .int z16), (0, .ref (V.2.2 31)), (2, .int x2), (3, .int x3), (4, .int x4)]) hx hb d_Mod_field_75 hl (by decide) rfl (fun ls hl => ?_)
    refine lv_aload_n hx hb d_Mod_field_77 rfl (lv_at hl 1 rfl) ?_
    refine x_get C hI (d := 31) (by decide) (xE31 V _) fd_Mod_31 rfl d_Mod_field_78 ?_
    refine lv_bipush (v := 15) hx hb d_Mod_field_81 (by decide) ?_
    refine lv_iload hx hb d_Mod_field_83 (lv_at hl 4 rfl) ?_
    refine lv_imul hx hb d_Mod_field_85 ?_
    refine lv_iload_n hx hb d_Mod_field_86 rfl (lv_at hl 2 rfl) ?_
    refine lv_iadd hx hb d_Mod_field_87 ?_
    obtain ⟨i17, h⟩ := h
    refine x_iald C hI (d := 47) (by decide) (xE47 V) i17 d_Mod_field_88 ?_
    refine lv_topi (fun z18 ez18 => ?_)
    have h := h z18 ez18
    refine lv_istore (lv' := [(6, .int z18), (5, .int z16), (0, .ref (V.2.2 31)), (2, .int x2), (3, .int x3), (4, .int x4)]) hx hb d_Mod_field_89 hl (by decide) rfl (fun ls hl => ?_)
    refine lv_iload_n hx hb d_Mod_field_91 rfl (lv_at hl 4 rfl) ?_
    by_cases c23 : x3 = 0
    · have h := h.1 c23
      refine lv_tableIn (tgt := 120) hx hb d_Mod_field_92 (by rw [c23]; decide) (by rw [c23]; decide) (by rw [c23]; rfl) (by decide) ?_
      refine lv_iload hx hb d_Mod_field_120 (lv_at hl 1 rfl) ?_
      exact x_iret C hlocks hr hI h d_Mod_field_122
    by_cases c24 : x3 = 1
    · have h := h.2.1 c24
      refine lv_tableIn (tgt := 123) hx hb d_Mod_field_92 (by rw [c24]; decide) (by rw [c24]; decide) (by rw [c24]; rfl) (by decide) ?_
      refine lv_iload hx hb d_Mod_field_123 (lv_at hl 1 rfl) ?_
      refine lv_iconst (v := 2) hx hb d_Mod_field_125 (by decide) ?_
      refine lv_icmp_ne (tgt := 139) hx hb d_Mod_field_126 (by decide) (fun c19 => ?_) (fun c19 => ?_)
      · have h := h.1 c19
        refine lv_iload hx hb d_Mod_field_139 (lv_at hl 0 rfl) ?_
        exact x_iret C hlocks hr hI h d_Mod_field_141
      · have h := h.2 c19
        refine lv_aload_n hx hb d_Mod_field_129 rfl (lv_at hl 2 rfl) ?_
        refine x_get C hI (d := 31) (by decide) (xE31 V _) fd_Mod_22 rfl d_Mod_field_130 ?_
        refine lv_iload hx hb d_Mod_field_133 (lv_at hl 0 rfl) ?_
        obtain ⟨i20, h⟩ := h
        refine x_iald C hI (d := 44) (by decide) (xE44 V) i20 d_Mod_field_135 ?_
        refine lv_goto (tgt := 141) hx hb d_Mod_field_136 (by decide) ?_
        exact x_iret C hlocks hr hI h d_Mod_field_141
    by_cases c25 : x3 = 2
    · have h := h.2.2.1 c25
      refine lv_tableIn (tgt := 142) hx hb d_Mod_field_92 (by rw [c25]; decide) (by rw [c25]; decide) (by rw [c25]; rfl) (by decide) ?_
      refine lv_iload hx hb d_Mod_field_142 (lv_at hl 1 rfl) ?_
      refine lv_iconst (v := 2) hx hb d_Mod_field_144 (by decide) ?_
      refine lv_icmp_ne (tgt := 158) hx hb d_Mod_field_145 (by decide) (fun c21 => ?_) (fun c21 => ?_)
      · have h := h.1 c21
        refine lv_iconst (v := (-1)) hx hb d_Mod_field_158 (by decide) ?_
        exact x_iret C hlocks hr hI h d_Mod_field_159
      · have h := h.2 c21
        refine lv_aload_n hx hb d_Mod_field_148 rfl (lv_at hl 2 rfl) ?_
        refine x_get C hI (d := 31) (by decide) (xE31 V _) fd_Mod_13 rfl d_Mod_field_149 ?_
        refine lv_iload hx hb d_Mod_field_152 (lv_at hl 0 rfl) ?_
        obtain ⟨i22, h⟩ := h
        refine x_iald C hI (d := 41) (by decide) (xE41 V) i22 d_Mod_field_154 ?_
        refine lv_goto (tgt := 159) hx hb d_Mod_field_155 (by decide) ?_
        exact x_iret C hlocks hr hI h d_Mod_field_159
    have h := h.2.2.2 c23 c24 c25
    refine lv_tableOut (tgt := 160) hx hb d_Mod_field_92 (by have := x_ne c23 (n := 0) (by decide); have := x_ne c24 (n := 1) (by decide); have := x_ne c25 (n := 2) (by decide); omega) (by decide) ?_
    refine lv_iconst (v := (-1)) hx hb d_Mod_field_160 (by decide) ?_
    exact x_iret C hlocks hr hI h d_Mod_field_161
  · have h := h.2 c14
    refine lv_iconst (v := (-1)) hx hb d_Mod_field_61 (by decide) ?_
    exact x_iret C hlocks hr hI h d_Mod_field_62
set_option maxRecDepth 100000 in
set_option maxHeartbeats 4000000 in
theorem c_Mod_field {l : Launch} {V : xV} {σ : xS} {x1 x2 x3 : Int32} {Q : Int32 → xS → Prop} (h : p_Mod_field x1 x2 x3 σ Q) : xMi l y_Mod_field (.code y_Mod_field cd_Mod_field 7 (some .int) :: xG) rm_Mod_field V [.ref (V.2.2 31), .int x1, .int x2, .int x3] σ Q := by
  refine x_begini (by decide) (Nat.le_of_ble_eq_true rfl) (fun p e s m below meth c ls C hlocks hr hI hl => ?_)
  have C : xC p s m _ c cd_Mod_field 7 R_Mod V := C
  have hx := C.1
  have hb := C.2.1
  have hl : lv_has ls 7 [(0, .ref (V.2.2 31)), (1, .int x1), (2, .int x2), (3, .int x3)] := hl
  unfold p_Mod_field at h
  refine lv_aload_n hx hb d_Mod_field_0 rfl (lv_at hl 0 rfl) ?_
  refine lv_iload_n hx hb d_Mod_field_1 rfl (lv_at hl 1 rfl) ?_
  refine x_calliS C hI hl.1 (As := [.int x1]) (rest := [.ref (V.2.2 31)]) (c_Mod_isRoot h) yw_Mod_isRoot ml_Mod_151 rfl rfl ⟨Nat.le_of_ble_eq_true rfl, Nat.le_of_ble_eq_true rfl⟩ rfl rfl (Nat.le_of_ble_eq_true rfl) d_Mod_field_2 ⟨Nat.zero_le _, Nat.zero_le _⟩ (fun r2 σ1 H locs h hI => ?_)
  refine lv_iconst (v := 1) hx hb d_Mod_field_5 (by decide) ?_
  refine x_calli C hI hl.1 (d := 31) (As := [.int r2, .int 1]) (rest := []) (by decide) (c_Mod_goes h) (xE31 V _) rfl yw_Mod_goes ml_Mod_144 rfl rfl ⟨Nat.le_of_ble_eq_true rfl, Nat.le_of_ble_eq_true rfl⟩ rfl rfl (Nat.le_of_ble_eq_true rfl) d_Mod_field_6 ⟨Nat.zero_le _, Nat.zero_le _⟩ (fun r4 σ3 H locs h hI => ?_)
  refine lv_if_ne (tgt := 14) hx hb d_Mod_field_9 (by decide) (fun c5 => ?_) (fun c5 => ?_)
  · have h := h.1 c5
    refine lv_aload_n hx hb d_Mod_field_14 rfl (lv_at hl 0 rfl) ?_
    refine x_get C hI (d := 31) (by decide) (xE31 V _) fd_Mod_56 rfl d_Mod_field_15 ?_
    refine lv_iload_n hx hb d_Mod_field_18 rfl (lv_at hl 1 rfl) ?_
    obtain ⟨i6, h⟩ := h
    refine x_iald C hI (d := 55) (by decide) (xE55 V) i6 d_Mod_field_19 ?_
    refine lv_topi (fun z7 ez7 => ?_)
    have h := h z7 ez7
    refine lv_istore (lv' := [(4, .int z7), (0, .ref (V.2.2 31)), (1, .int x1), (2, .int x2), (3, .int x3)]) hx hb d_Mod_field_20 hl (by decide) rfl (fun ls hl => ?_)
    refine lv_aload_n hx hb d_Mod_field_22 rfl (lv_at hl 1 rfl) ?_
    refine x_get C hI (d := 31) (by decide) (xE31 V _) fd_Mod_53 rfl d_Mod_field_23 ?_
    refine lv_iload_n hx hb d_Mod_field_26 rfl (lv_at hl 2 rfl) ?_
    obtain ⟨i8, h⟩ := h
    refine x_iald C hI (d := 54) (by decide) (xE54 V) i8 d_Mod_field_27 ?_
    refine lv_iconst (v := 2) hx hb d_Mod_field_28 (by decide) ?_
    refine lv_icmp_ne (tgt := 61) hx hb d_Mod_field_29 (by decide) (fun c9 => ?_) (fun c9 => ?_)
    · have h := h.1 c9
      refine lv_iconst (v := (-1)) hx hb d_Mod_field_61 (by decide) ?_
      exact x_iret C hlocks hr hI h d_Mod_field_62
    · have h := h.2 c9
      refine lv_iload_n hx hb d_Mod_field_32 rfl (lv_at hl 3 rfl) ?_
      refine lv_if_lt (tgt := 61) hx hb d_Mod_field_33 (by decide) (fun c10 => ?_) (fun c10 => ?_)
      · have h := h.1 c10
        refine lv_iconst (v := (-1)) hx hb d_Mod_field_61 (by decide) ?_
        exact x_iret C hlocks hr hI h d_Mod_field_62
      · have h := h.2 c10
        refine lv_iload_n hx hb d_Mod_field_36 rfl (lv_at hl 3 rfl) ?_
        refine lv_aload_n hx hb d_Mod_field_37 rfl (lv_at hl 1 rfl) ?_
        refine x_get C hI (d := 31) (by decide) (xE31 V _) fd_Mod_16 rfl d_Mod_field_38 ?_
        refine lv_aload_n hx hb d_Mod_field_41 rfl (lv_at hl 1 rfl) ?_
        refine x_get C hI (d := 31) (by decide) (xE31 V _) fd_Mod_53 rfl d_Mod_field_42 ?_
        refine lv_iload_n hx hb d_Mod_field_45 rfl (lv_at hl 2 rfl) ?_
        obtain ⟨i11, h⟩ := h
        refine x_iald C hI (d := 54) (by decide) (xE54 V) i11 d_Mod_field_46 ?_
        refine lv_iconst (v := 2) hx hb d_Mod_field_47 (by decide) ?_
        refine lv_icmp_ne (tgt := 56) hx hb d_Mod_field_48 (by decide) (fun c12 => ?_) (fun c12 => ?_)
        · have h := h.1 c12
          refine lv_iconst (v := 0) hx hb d_Mod_field_56 (by decide) ?_
          exact t_Mod_field_J57 C hlocks hr h hI (lv_sub hl [1, 3, 4, 0] rfl)
        · have h := h.2 c12
          refine lv_iload hx hb d_Mod_field_51 (lv_at hl 0 rfl) ?_
          refine lv_goto (tgt := 57) hx hb d_Mod_field_53 (by decide) ?_
          exact t_Mod_field_J57 C hlocks hr h hI (lv_sub hl [1, 3, 4, 0] rfl)
  · have h := h.2 c5
    refine lv_iconst (v := 0) hx hb d_Mod_field_12 (by decide) ?_
    exact x_iret C hlocks hr hI h d_Mod_field_13
def y_Mod_region : MethodName := ⟨"RegionPoolModel", "region", "(II)I"⟩
abbrev cd_Mod_region : ByteArray := prog_12_method_42_code
def b_Mod_region_L23 (K23 : Int32 → Int32 → Int32 → Int32 → Int32 → xS → Prop) (Q : Int32 → xS → Prop) (x1 x2 x3 x4 x5 : Int32) (σ : xS) : Prop :=
  ((640 ≤ x5 → ((x2 = 0 → (vp_in x1 8 ∧ Q (σ 51 x1.toNatClampNeg) σ)) ∧ (x2 = 1 → Q x3 σ) ∧ (x2 = 2 → Q x4 σ) ∧ (x2 = 3 → (vp_in x1 8 ∧ Q ((16 * (σ 51 x1.toNatClampNeg)) - x4) σ)) ∧ (¬ x2 = 0 → ¬ x2 = 1 → ¬ x2 = 2 → ¬ x2 = 3 → Q (-1) σ))) ∧ (¬ 640 ≤ x5 → (vp_in x5 640 ∧ (((σ 40 x5.toNatClampNeg) = (-1) → (∀ z13 : Int32, z13 = x5 + 1 → K23 x1 x2 x3 x4 z13 σ)) ∧ (¬ (σ 40 x5.toNatClampNeg) = (-1) → (vp_in x5 640 ∧ ((¬ (σ 43 x5.toNatClampNeg) = x1 → (∀ z16 : Int32, z16 = x5 + 1 → K23 x1 x2 x3 x4 z16 σ)) ∧ ((σ 43 x5.toNatClampNeg) = x1 → (∀ z17 : Int32, z17 = x3 + 1 → (vp_in x5 640 ∧ (∀ z19 : Int32, z19 = (x4 + ((σ 42 x5.toNatClampNeg) + 1)) → (∀ z20 : Int32, z20 = x5 + 1 → K23 x1 x2 z17 z19 z20 σ))))))))))))
def p_Mod_region_L23 (Q : Int32 → xS → Prop) (n : Nat) : Int32 → Int32 → Int32 → Int32 → Int32 → xS → Prop := Nat.rec (motive := fun _ => Int32 → Int32 → Int32 → Int32 → Int32 → xS → Prop) (fun _ _ _ _ _ _ => False) (fun _ K x1 x2 x3 x4 x5 σ => b_Mod_region_L23 K Q x1 x2 x3 x4 x5 σ) n
def p_Mod_region (x1 x2 : Int32) (σ : xS) (Q : Int32 → xS → Prop) : Prop :=
  p_Mod_isRegion x1 (xu σ 31 0 0) (fun r2 σ1 => ((¬ r2 = 0 → (∃ n, p_Mod_region_L23 Q n x1 x2 0 0 0 σ1)) ∧ (r2 = 0 → Q (-1) σ1)))
abbrev rm_Mod_region : Room := { frames := 1, cells := 0, slots := 0, locals := 21 }
theorem d_Mod_region_0 : decode cd_Mod_region 0 = .ok (.aload_n 0, 1) := by decide +kernel
theorem d_Mod_region_1 : decode cd_Mod_region 1 = .ok (.iconst 0, 1) := by decide +kernel
theorem d_Mod_region_2 : decode cd_Mod_region 2 = .ok (.putfield 76, 3) := by decide +kernel
theorem d_Mod_region_5 : decode cd_Mod_region 5 = .ok (.aload_n 0, 1) := by decide +kernel
theorem d_Mod_region_6 : decode cd_Mod_region 6 = .ok (.iload_n 1, 1) := by decide +kernel
theorem d_Mod_region_7 : decode cd_Mod_region 7 = .ok (.invokevirtual 140, 3) := by decide +kernel
theorem d_Mod_region_10 : decode cd_Mod_region 10 = .ok (.ifCond .ne 5, 3) := by decide +kernel
theorem d_Mod_region_13 : decode cd_Mod_region 13 = .ok (.iconst (-1), 1) := by decide +kernel
theorem d_Mod_region_14 : decode cd_Mod_region 14 = .ok (.ireturn, 1) := by decide +kernel
theorem d_Mod_region_15 : decode cd_Mod_region 15 = .ok (.iconst 0, 1) := by decide +kernel
theorem d_Mod_region_16 : decode cd_Mod_region 16 = .ok (.istore_n 3, 1) := by decide +kernel
theorem d_Mod_region_17 : decode cd_Mod_region 17 = .ok (.iconst 0, 1) := by decide +kernel
theorem d_Mod_region_18 : decode cd_Mod_region 18 = .ok (.istore 4, 2) := by decide +kernel
theorem d_Mod_region_20 : decode cd_Mod_region 20 = .ok (.iconst 0, 1) := by decide +kernel
theorem d_Mod_region_21 : decode cd_Mod_region 21 = .ok (.istore 5, 2) := by decide +kernel
theorem d_Mod_region_23 : decode cd_Mod_region 23 = .ok (.iload 5, 2) := by decide +kernel
theorem d_Mod_region_25 : decode cd_Mod_region 25 = .ok (.sipush 640, 3) := by decide +kernel
theorem d_Mod_region_28 : decode cd_Mod_region 28 = .ok (.if_icmp .ge 48, 3) := by decide +kernel
theorem d_Mod_region_31 : decode cd_Mod_region 31 = .ok (.aload_n 0, 1) := by decide +kernel
theorem d_Mod_region_32 : decode cd_Mod_region 32 = .ok (.getfield 7, 3) := by decide +kernel
theorem d_Mod_region_35 : decode cd_Mod_region 35 = .ok (.iload 5, 2) := by decide +kernel
theorem d_Mod_region_37 : decode cd_Mod_region 37 = .ok (.iaload, 1) := by decide +kernel
theorem d_Mod_region_38 : decode cd_Mod_region 38 = .ok (.iconst (-1), 1) := by decide +kernel
theorem d_Mod_region_39 : decode cd_Mod_region 39 = .ok (.if_icmp .eq 31, 3) := by decide +kernel
theorem d_Mod_region_42 : decode cd_Mod_region 42 = .ok (.aload_n 0, 1) := by decide +kernel
theorem d_Mod_region_43 : decode cd_Mod_region 43 = .ok (.getfield 19, 3) := by decide +kernel
theorem d_Mod_region_46 : decode cd_Mod_region 46 = .ok (.iload 5, 2) := by decide +kernel
theorem d_Mod_region_48 : decode cd_Mod_region 48 = .ok (.iaload, 1) := by decide +kernel
theorem d_Mod_region_49 : decode cd_Mod_region 49 = .ok (.iload_n 1, 1) := by decide +kernel
theorem d_Mod_region_50 : decode cd_Mod_region 50 = .ok (.if_icmp .ne 20, 3) := by decide +kernel
theorem d_Mod_region_53 : decode cd_Mod_region 53 = .ok (.iinc 3 1, 3) := by decide +kernel
theorem d_Mod_region_56 : decode cd_Mod_region 56 = .ok (.iload 4, 2) := by decide +kernel
theorem d_Mod_region_58 : decode cd_Mod_region 58 = .ok (.aload_n 0, 1) := by decide +kernel
theorem d_Mod_region_59 : decode cd_Mod_region 59 = .ok (.getfield 16, 3) := by decide +kernel
theorem d_Mod_region_62 : decode cd_Mod_region 62 = .ok (.iload 5, 2) := by decide +kernel
theorem d_Mod_region_64 : decode cd_Mod_region 64 = .ok (.iaload, 1) := by decide +kernel
theorem d_Mod_region_65 : decode cd_Mod_region 65 = .ok (.iconst 1, 1) := by decide +kernel
theorem d_Mod_region_66 : decode cd_Mod_region 66 = .ok (.iadd, 1) := by decide +kernel
theorem d_Mod_region_67 : decode cd_Mod_region 67 = .ok (.iadd, 1) := by decide +kernel
theorem d_Mod_region_68 : decode cd_Mod_region 68 = .ok (.istore 4, 2) := by decide +kernel
theorem d_Mod_region_70 : decode cd_Mod_region 70 = .ok (.iinc 5 1, 3) := by decide +kernel
theorem d_Mod_region_73 : decode cd_Mod_region 73 = .ok (.goto (-50), 3) := by decide +kernel
theorem d_Mod_region_76 : decode cd_Mod_region 76 = .ok (.iload_n 2, 1) := by decide +kernel
theorem d_Mod_region_77 : decode cd_Mod_region 77 = .ok (.tableswitch 56 0 3 #[31, 38, 40, 43], 31) := by decide +kernel
theorem d_Mod_region_108 : decode cd_Mod_region 108 = .ok (.aload_n 0, 1) := by decide +kernel
theorem d_Mod_region_109 : decode cd_Mod_region 109 = .ok (.getfield 44, 3) := by decide +kernel
theorem d_Mod_region_112 : decode cd_Mod_region 112 = .ok (.iload_n 1, 1) := by decide +kernel
theorem d_Mod_region_113 : decode cd_Mod_region 113 = .ok (.iaload, 1) := by decide +kernel
theorem d_Mod_region_114 : decode cd_Mod_region 114 = .ok (.ireturn, 1) := by decide +kernel
theorem d_Mod_region_115 : decode cd_Mod_region 115 = .ok (.iload_n 3, 1) := by decide +kernel
theorem d_Mod_region_116 : decode cd_Mod_region 116 = .ok (.ireturn, 1) := by decide +kernel
theorem d_Mod_region_117 : decode cd_Mod_region 117 = .ok (.iload 4, 2) := by decide +kernel
theorem d_Mod_region_119 : decode cd_Mod_region 119 = .ok (.ireturn, 1) := by decide +kernel
theorem d_Mod_region_120 : decode cd_Mod_region 120 = .ok (.bipush 16, 2) := by decide +kernel
theorem d_Mod_region_122 : decode cd_Mod_region 122 = .ok (.aload_n 0, 1) := by decide +kernel
theorem d_Mod_region_123 : decode cd_Mod_region 123 = .ok (.getfield 44, 3) := by decide +kernel
theorem d_Mod_region_126 : decode cd_Mod_region 126 = .ok (.iload_n 1, 1) := by decide +kernel
theorem d_Mod_region_127 : decode cd_Mod_region 127 = .ok (.iaload, 1) := by decide +kernel
theorem d_Mod_region_128 : decode cd_Mod_region 128 = .ok (.imul, 1) := by decide +kernel
theorem d_Mod_region_129 : decode cd_Mod_region 129 = .ok (.iload 4, 2) := by decide +kernel
theorem d_Mod_region_131 : decode cd_Mod_region 131 = .ok (.isub, 1) := by decide +kernel
theorem d_Mod_region_132 : decode cd_Mod_region 132 = .ok (.ireturn, 1) := by decide +kernel
theorem d_Mod_region_133 : decode cd_Mod_region 133 = .ok (.iconst (-1), 1) := by decide +kernel
theorem d_Mod_region_134 : decode cd_Mod_region 134 = .ok (.ireturn, 1) := by decide +kernel
set_option maxRecDepth 100000 in
set_option maxHeartbeats 4000000 in
theorem s_Mod_region_L23 {p : Program} {l : Launch} {e : Env} {s : State} {m : MethodId} {args : Array Value} {below : List Frame} {meth : Method} {c : Code} {V : xV} (C : xC p s m args c cd_Mod_region 6 R_Mod V) (hlocks : meth.locks = false) (hr : meth.sig.returnType = (some .int)) {Q : Int32 → xS → Prop} {K23 : Int32 → Int32 → Int32 → Int32 → Int32 → xS → Prop} (hK23 : ∀ (x1 : Int32) (x2 : Int32) (x3 : Int32) (x4 : Int32) (x5 : Int32) (σ : xS) (H : Heap) (locs : List Loc) (ls : Array Slot), K23 x1 x2 x3 x4 x5 σ → xI V s.heap σ H locs → lv_has ls 6 [(0, .ref (V.2.2 31)), (1, .int x1), (2, .int x2), (3, .int x3), (4, .int x4), (5, .int x5)] → W p l e rm_Mod_region s m args below meth c H locs 0 0 (xZi below V args s Q) (F0 m 23 ls [])) {x1 x2 x3 x4 x5 : Int32} {σ : xS} {H : Heap} {locs : List Loc} {ls : Array Slot} (h : b_Mod_region_L23 K23 Q x1 x2 x3 x4 x5 σ) (hI : xI V s.heap σ H locs) (hl : lv_has ls 6 [(0, .ref (V.2.2 31)), (1, .int x1), (2, .int x2), (3, .int x3), (4, .int x4), (5, .int x5)]) : W p l e rm_Mod_region s m args below meth c H locs 0 0 (xZi below V args s Q) (F0 m 23 ls []) := by
  have hx := C.1
  have hb := C.2.1
  unfold b_Mod_region_L23 at h
  refine lv_iload hx hb d_Mod_region_23 (lv_at hl 5 rfl) ?_
  refine lv_sipush (v := 640) hx hb d_Mod_region_25 (by decide) ?_
  refine lv_icmp_ge (tgt := 76) hx hb d_Mod_region_28 (by decide) (fun c4 => ?_) (fun c4 => ?_)
  · have h := h.1 c4
    refine lv_iload_n hx hb d_Mod_region_76 rfl (lv_at hl 2 rfl) ?_
    by_cases c7 : x2 = 0
    · have h := h.1 c7
      refine lv_tableIn (tgt := 108) hx hb d_Mod_region_77 (by rw [c7]; decide) (by rw [c7]; decide) (by rw [c7]; rfl) (by decide) ?_
      refine lv_aload_n hx hb d_Mod_region_108 rfl (lv_at hl 0 rfl) ?_
      refine x_get C hI (d := 31) (by decide) (xE31 V _) fd_Mod_44 rfl d_Mod_region_109 ?_
      refine lv_iload_n hx hb d_Mod_region_112 rfl (lv_at hl 1 rfl) ?_
      obtain ⟨i5, h⟩ := h
      refine x_iald C hI (d := 51) (by decide) (xE51 V) i5 d_Mod_region_113 ?_
      exact x_iret C hlocks hr hI h d_Mod_region_114
    by_cases c8 : x2 = 1
    · have h := h.2.1 c8
      refine lv_tableIn (tgt := 115) hx hb d_Mod_region_77 (by rw [c8]; decide) (by rw [c8]; decide) (by rw [c8]; rfl) (by decide) ?_
      refine lv_iload_n hx hb d_Mod_region_115 rfl (lv_at hl 3 rfl) ?_
      exact x_iret C hlocks hr hI h d_Mod_region_116
    by_cases c9 : x2 = 2
    · have h := h.2.2.1 c9
      refine lv_tableIn (tgt := 117) hx hb d_Mod_region_77 (by rw [c9]; decide) (by rw [c9]; decide) (by rw [c9]; rfl) (by decide) ?_
      refine lv_iload hx hb d_Mod_region_117 (lv_at hl 4 rfl) ?_
      exact x_iret C hlocks hr hI h d_Mod_region_119
    by_cases c10 : x2 = 3
    · have h := h.2.2.2.1 c10
      refine lv_tableIn (tgt := 120) hx hb d_Mod_region_77 (by rw [c10]; decide) (by rw [c10]; decide) (by rw [c10]; rfl) (by decide) ?_
      refine lv_bipush (v := 16) hx hb d_Mod_region_120 (by decide) ?_
      refine lv_aload_n hx hb d_Mod_region_122 rfl (lv_at hl 0 rfl) ?_
      refine x_get C hI (d := 31) (by decide) (xE31 V _) fd_Mod_44 rfl d_Mod_region_123 ?_
      refine lv_iload_n hx hb d_Mod_region_126 rfl (lv_at hl 1 rfl) ?_
      obtain ⟨i6, h⟩ := h
      refine x_iald C hI (d := 51) (by decide) (xE51 V) i6 d_Mod_region_127 ?_
      refine lv_imul hx hb d_Mod_region_128 ?_
      refine lv_iload hx hb d_Mod_region_129 (lv_at hl 4 rfl) ?_
      refine lv_isub hx hb d_Mod_region_131 ?_
      exact x_iret C hlocks hr hI h d_Mod_region_132
    have h := h.2.2.2.2 c7 c8 c9 c10
    refine lv_tableOut (tgt := 133) hx hb d_Mod_region_77 (by have := x_ne c7 (n := 0) (by decide); have := x_ne c8 (n := 1) (by decide); have := x_ne c9 (n := 2) (by decide); have := x_ne c10 (n := 3) (by decide); omega) (by decide) ?_
    refine lv_iconst (v := (-1)) hx hb d_Mod_region_133 (by decide) ?_
    exact x_iret C hlocks hr hI h d_Mod_region_134
  · have h := h.2 c4
    refine lv_aload_n hx hb d_Mod_region_31 rfl (lv_at hl 0 rfl) ?_
    refine x_get C hI (d := 31) (by decide) (xE31 V _) fd_Mod_7 rfl d_Mod_region_32 ?_
    refine lv_iload hx hb d_Mod_region_35 (lv_at hl 5 rfl) ?_
    obtain ⟨i11, h⟩ := h
    refine x_iald C hI (d := 40) (by decide) (xE40 V) i11 d_Mod_region_37 ?_
    refine lv_iconst (v := (-1)) hx hb d_Mod_region_38 (by decide) ?_
    refine lv_icmp_eq (tgt := 70) hx hb d_Mod_region_39 (by decide) (fun c12 => ?_) (fun c12 => ?_)
    · have h := h.1 c12
      obtain ⟨z13, ez13⟩ : ∃ y : Int32, y = x5 + 1 := ⟨_, rfl⟩
      have h := h z13 ez13
      refine lv_iinc (v := z13) (lv' := [(5, .int z13), (0, .ref (V.2.2 31)), (1, .int x1), (2, .int x2), (3, .int x3), (4, .int x4)]) hx hb d_Mod_region_70 hl (k := 5) rfl (by rw [ez13]; rfl) (by decide) rfl (fun ls hl => ?_)
      refine lv_goto (tgt := 23) hx hb d_Mod_region_73 (by decide) ?_
      exact hK23 _ _ _ _ _ _ _ _ _ h hI (lv_sub hl [1, 2, 3, 4, 5, 0] rfl)
    · have h := h.2 c12
      refine lv_aload_n hx hb d_Mod_region_42 rfl (lv_at hl 0 rfl) ?_
      refine x_get C hI (d := 31) (by decide) (xE31 V _) fd_Mod_19 rfl d_Mod_region_43 ?_
      refine lv_iload hx hb d_Mod_region_46 (lv_at hl 5 rfl) ?_
      obtain ⟨i14, h⟩ := h
      refine x_iald C hI (d := 43) (by decide) (xE43 V) i14 d_Mod_region_48 ?_
      refine lv_iload_n hx hb d_Mod_region_49 rfl (lv_at hl 1 rfl) ?_
      refine lv_icmp_ne (tgt := 70) hx hb d_Mod_region_50 (by decide) (fun c15 => ?_) (fun c15 => ?_)
      · have h := h.1 c15
        obtain ⟨z16, ez16⟩ : ∃ y : Int32, y = x5 + 1 := ⟨_, rfl⟩
        have h := h z16 ez16
        refine lv_iinc (v := z16) (lv' := [(5, .int z16), (0, .ref (V.2.2 31)), (1, .int x1), (2, .int x2), (3, .int x3), (4, .int x4)]) hx hb d_Mod_region_70 hl (k := 5) rfl (by rw [ez16]; rfl) (by decide) rfl (fun ls hl => ?_)
        refine lv_goto (tgt := 23) hx hb d_Mod_region_73 (by decide) ?_
        exact hK23 _ _ _ _ _ _ _ _ _ h hI (lv_sub hl [1, 2, 3, 4, 5, 0] rfl)
      · have h := h.2 c15
        obtain ⟨z17, ez17⟩ : ∃ y : Int32, y = x3 + 1 := ⟨_, rfl⟩
        have h := h z17 ez17
        refine lv_iinc (v := z17) (lv' := [(3, .int z17), (0, .ref (V.2.2 31)), (1, .int x1), (2, .int x2), (4, .int x4), (5, .int x5)]) hx hb d_Mod_region_53 hl (k := 3) rfl (by rw [ez17]; rfl) (by decide) rfl (fun ls hl => ?_)
        refine lv_iload hx hb d_Mod_region_56 (lv_at hl 4 rfl) ?_
        refine lv_aload_n hx hb d_Mod_region_58 rfl (lv_at hl 1 rfl) ?_
        refine x_get C hI (d := 31) (by decide) (xE31 V _) fd_Mod_16 rfl d_Mod_region_59 ?_
        refine lv_iload hx hb d_Mod_region_62 (lv_at hl 5 rfl) ?_
        obtain ⟨i18, h⟩ := h
        refine x_iald C hI (d := 42) (by decide) (xE42 V) i18 d_Mod_region_64 ?_
        refine lv_iconst (v := 1) hx hb d_Mod_region_65 (by decide) ?_
        refine lv_iadd hx hb d_Mod_region_66 ?_
        refine lv_iadd hx hb d_Mod_region_67 ?_
        refine lv_topi (fun z19 ez19 => ?_)
        have h := h z19 ez19
        refine lv_istore (lv' := [(4, .int z19), (3, .int z17), (0, .ref (V.2.2 31)), (1, .int x1), (2, .int x2), (5, .int x5)]) hx hb d_Mod_region_68 hl (by decide) rfl (fun ls hl => ?_)
        obtain ⟨z20, ez20⟩ : ∃ y : Int32, y = x5 + 1 := ⟨_, rfl⟩
        have h := h z20 ez20
        refine lv_iinc (v := z20) (lv' := [(5, .int z20), (4, .int z19), (3, .int z17), (0, .ref (V.2.2 31)), (1, .int x1), (2, .int x2)]) hx hb d_Mod_region_70 hl (k := 5) rfl (by rw [ez20]; rfl) (by decide) rfl (fun ls hl => ?_)
        refine lv_goto (tgt := 23) hx hb d_Mod_region_73 (by decide) ?_
        exact hK23 _ _ _ _ _ _ _ _ _ h hI (lv_sub hl [3, 4, 5, 2, 1, 0] rfl)
theorem w_Mod_region_L23 {p : Program} {l : Launch} {e : Env} {s : State} {m : MethodId} {args : Array Value} {below : List Frame} {meth : Method} {c : Code} {V : xV} (C : xC p s m args c cd_Mod_region 6 R_Mod V) (hlocks : meth.locks = false) (hr : meth.sig.returnType = (some .int)) {Q : Int32 → xS → Prop} : ∀ (n : Nat) (x1 : Int32) (x2 : Int32) (x3 : Int32) (x4 : Int32) (x5 : Int32) (σ : xS) (H : Heap) (locs : List Loc) (ls : Array Slot), p_Mod_region_L23 Q n x1 x2 x3 x4 x5 σ → xI V s.heap σ H locs → lv_has ls 6 [(0, .ref (V.2.2 31)), (1, .int x1), (2, .int x2), (3, .int x3), (4, .int x4), (5, .int x5)] → W p l e rm_Mod_region s m args below meth c H locs 0 0 (xZi below V args s Q) (F0 m 23 ls []) := by
  intro n
  induction n with
  | zero =>
    intro x1 x2 x3 x4 x5 σ H locs ls h
    exact False.elim h
  | succ n ih =>
    intro x1 x2 x3 x4 x5 σ H locs ls h hI hl
    exact s_Mod_region_L23 C hlocks hr (K23 := p_Mod_region_L23 Q n) (fun x1 x2 x3 x4 x5 σ H locs ls h hI hl => ih x1 x2 x3 x4 x5 σ H locs ls h hI hl) h hI hl
set_option maxRecDepth 100000 in
set_option maxHeartbeats 4000000 in
theorem c_Mod_region {l : Launch} {V : xV} {σ : xS} {x1 x2 : Int32} {Q : Int32 → xS → Prop} (h : p_Mod_region x1 x2 σ Q) : xMi l y_Mod_region (.code y_Mod_region cd_Mod_region 6 (some .int) :: xG) rm_Mod_region V [.ref (V.2.2 31), .int x1, .int x2] σ Q := by
  refine x_begini (by decide) (Nat.le_of_ble_eq_true rfl) (fun p e s m below meth c ls C hlocks hr hI hl => ?_)
  have C : xC p s m _ c cd_Mod_region 6 R_Mod V := C
  have hx := C.1
  have hb := C.2.1
  have hl : lv_has ls 6 [(0, .ref (V.2.2 31)), (1, .int x1), (2, .int x2)] := hl
  unfold p_Mod_region at h
  refine lv_aload_n hx hb d_Mod_region_0 rfl (lv_at hl 0 rfl) ?_
  refine lv_iconst (v := 0) hx hb d_Mod_region_1 (by decide) ?_
  refine x_put C hI (d := 31) (by decide) (xE31 V _) (xP_31_0 V _ _) fw_Mod_76 (Nat.le_of_ble_eq_true rfl) d_Mod_region_2 (fun H locs hI => ?_)
  refine lv_aload_n hx hb d_Mod_region_5 rfl (lv_at hl 0 rfl) ?_
  refine lv_iload_n hx hb d_Mod_region_6 rfl (lv_at hl 1 rfl) ?_
  refine x_calli C hI hl.1 (d := 31) (As := [.int x1]) (rest := []) (by decide) (c_Mod_isRegion h) (xE31 V _) rfl yw_Mod_isRegion ml_Mod_140 rfl rfl ⟨Nat.le_of_ble_eq_true rfl, Nat.le_of_ble_eq_true rfl⟩ rfl rfl (Nat.le_of_ble_eq_true rfl) d_Mod_region_7 ⟨Nat.zero_le _, Nat.zero_le _⟩ (fun r2 σ1 H locs h hI => ?_)
  refine lv_if_ne (tgt := 15) hx hb d_Mod_region_10 (by decide) (fun c3 => ?_) (fun c3 => ?_)
  · have h := h.1 c3
    refine lv_iconst (v := 0) hx hb d_Mod_region_15 (by decide) ?_
    refine lv_istore_n (lv' := [(3, .int 0), (0, .ref (V.2.2 31)), (1, .int x1), (2, .int x2)]) hx hb d_Mod_region_16 rfl hl (by decide) rfl (fun ls hl => ?_)
    refine lv_iconst (v := 0) hx hb d_Mod_region_17 (by decide) ?_
    refine lv_istore (lv' := [(4, .int 0), (3, .int 0), (0, .ref (V.2.2 31)), (1, .int x1), (2, .int x2)]) hx hb d_Mod_region_18 hl (by decide) rfl (fun ls hl => ?_)
    refine lv_iconst (v := 0) hx hb d_Mod_region_20 (by decide) ?_
    refine lv_istore (lv' := [(5, .int 0), (4, .int 0), (3, .int 0), (0, .ref (V.2.2 31)), (1, .int x1), (2, .int x2)]) hx hb d_Mod_region_21 hl (by decide) rfl (fun ls hl => ?_)
    obtain ⟨n, h⟩ := h
    exact w_Mod_region_L23 C hlocks hr n _ _ _ _ _ _ _ _ _ h hI (lv_sub hl [3, 4, 5, 2, 1, 0] rfl)
  · have h := h.2 c3
    refine lv_iconst (v := (-1)) hx hb d_Mod_region_13 (by decide) ?_
    exact x_iret C hlocks hr hI h d_Mod_region_14
def y_Mod_page : MethodName := ⟨"RegionPoolModel", "page", "(II)I"⟩
abbrev cd_Mod_page : ByteArray := prog_12_method_43_code
def p_Mod_page_J35 (Q : Int32 → xS → Prop) (x1 x2 : Int32) (y0 : Int32) (y2 : Int32) (σ : xS) : Prop :=
  (vp_in y0 8 ∧ (((σ 51 y0.toNatClampNeg) ≤ y2 → Q (-1) σ) ∧ (¬ (σ 51 y0.toNatClampNeg) ≤ y2 → (vp_in ((40 * x1) + x2) 320 ∧ Q (σ 52 ((40 * x1) + x2).toNatClampNeg) σ))))
def p_Mod_page (x1 x2 : Int32) (σ : xS) (Q : Int32 → xS → Prop) : Prop :=
  p_Mod_isRegion x1 (xu σ 31 0 0) (fun r2 σ1 => ((r2 = 0 → Q (-1) σ1) ∧ (¬ r2 = 0 → ((x2 < 0 → Q (-1) σ1) ∧ (¬ x2 < 0 → p_Mod_isRegion x1 σ1 (fun r6 σ5 => ((r6 = 0 → p_Mod_page_J35 Q x1 x2 0 x2 σ5) ∧ (¬ r6 = 0 → p_Mod_page_J35 Q x1 x2 x1 x2 σ5))))))))
abbrev rm_Mod_page : Room := { frames := 1, cells := 0, slots := 0, locals := 21 }
theorem d_Mod_page_0 : decode cd_Mod_page 0 = .ok (.aload_n 0, 1) := by decide +kernel
theorem d_Mod_page_1 : decode cd_Mod_page 1 = .ok (.iconst 0, 1) := by decide +kernel
theorem d_Mod_page_2 : decode cd_Mod_page 2 = .ok (.putfield 76, 3) := by decide +kernel
theorem d_Mod_page_5 : decode cd_Mod_page 5 = .ok (.aload_n 0, 1) := by decide +kernel
theorem d_Mod_page_6 : decode cd_Mod_page 6 = .ok (.iload_n 1, 1) := by decide +kernel
theorem d_Mod_page_7 : decode cd_Mod_page 7 = .ok (.invokevirtual 140, 3) := by decide +kernel
theorem d_Mod_page_10 : decode cd_Mod_page 10 = .ok (.ifCond .eq 43, 3) := by decide +kernel
theorem d_Mod_page_13 : decode cd_Mod_page 13 = .ok (.iload_n 2, 1) := by decide +kernel
theorem d_Mod_page_14 : decode cd_Mod_page 14 = .ok (.ifCond .lt 39, 3) := by decide +kernel
theorem d_Mod_page_17 : decode cd_Mod_page 17 = .ok (.iload_n 2, 1) := by decide +kernel
theorem d_Mod_page_18 : decode cd_Mod_page 18 = .ok (.aload_n 0, 1) := by decide +kernel
theorem d_Mod_page_19 : decode cd_Mod_page 19 = .ok (.getfield 44, 3) := by decide +kernel
theorem d_Mod_page_22 : decode cd_Mod_page 22 = .ok (.aload_n 0, 1) := by decide +kernel
theorem d_Mod_page_23 : decode cd_Mod_page 23 = .ok (.iload_n 1, 1) := by decide +kernel
theorem d_Mod_page_24 : decode cd_Mod_page 24 = .ok (.invokevirtual 140, 3) := by decide +kernel
theorem d_Mod_page_27 : decode cd_Mod_page 27 = .ok (.ifCond .eq 7, 3) := by decide +kernel
theorem d_Mod_page_30 : decode cd_Mod_page 30 = .ok (.iload_n 1, 1) := by decide +kernel
theorem d_Mod_page_31 : decode cd_Mod_page 31 = .ok (.goto 4, 3) := by decide +kernel
theorem d_Mod_page_34 : decode cd_Mod_page 34 = .ok (.iconst 0, 1) := by decide +kernel
theorem d_Mod_page_35 : decode cd_Mod_page 35 = .ok (.iaload, 1) := by decide +kernel
theorem d_Mod_page_36 : decode cd_Mod_page 36 = .ok (.if_icmp .ge 17, 3) := by decide +kernel
theorem d_Mod_page_39 : decode cd_Mod_page 39 = .ok (.aload_n 0, 1) := by decide +kernel
theorem d_Mod_page_40 : decode cd_Mod_page 40 = .ok (.getfield 47, 3) := by decide +kernel
theorem d_Mod_page_43 : decode cd_Mod_page 43 = .ok (.bipush 40, 2) := by decide +kernel
theorem d_Mod_page_45 : decode cd_Mod_page 45 = .ok (.iload_n 1, 1) := by decide +kernel
theorem d_Mod_page_46 : decode cd_Mod_page 46 = .ok (.imul, 1) := by decide +kernel
theorem d_Mod_page_47 : decode cd_Mod_page 47 = .ok (.iload_n 2, 1) := by decide +kernel
theorem d_Mod_page_48 : decode cd_Mod_page 48 = .ok (.iadd, 1) := by decide +kernel
theorem d_Mod_page_49 : decode cd_Mod_page 49 = .ok (.iaload, 1) := by decide +kernel
theorem d_Mod_page_50 : decode cd_Mod_page 50 = .ok (.goto 4, 3) := by decide +kernel
theorem d_Mod_page_53 : decode cd_Mod_page 53 = .ok (.iconst (-1), 1) := by decide +kernel
theorem d_Mod_page_54 : decode cd_Mod_page 54 = .ok (.ireturn, 1) := by decide +kernel
set_option maxRecDepth 100000 in
set_option maxHeartbeats 4000000 in
theorem t_Mod_page_J35 {p : Program} {l : Launch} {e : Env} {s : State} {m : MethodId} {args : Array Value} {below : List Frame} {meth : Method} {c : Code} {V : xV} (C : xC p s m args c cd_Mod_page 3 R_Mod V) (hlocks : meth.locks = false) (hr : meth.sig.returnType = (some .int)) {Q : Int32 → xS → Prop} {x1 x2 : Int32} {y0 : Int32} {y2 : Int32} {σ : xS} {H : Heap} {locs : List Loc} {ls : Array Slot} (h : p_Mod_page_J35 Q x1 x2 y0 y2 σ) (hI : xI V s.heap σ H locs) (hl : lv_has ls 3 [(0, .ref (V.2.2 31)), (1, .int x1), (2, .int x2)]) : W p l e rm_Mod_page s m args below meth c H locs 0 0 (xZi below V args s Q) (F0 m 35 ls [.int y0, .ref (V.2.2 51), .int y2]) := by
  have hx := C.1
  have hb := C.2.1
  unfold p_Mod_page_J35 at h
  obtain ⟨i8, h⟩ := h
  refine x_iald C hI (d := 51) (by decide) (xE51 V) i8 d_Mod_page_35 ?_
  refine lv_icmp_ge (tgt := 53) hx hb d_Mod_page_36 (by decide) (fun c9 => ?_) (fun c9 => ?_)
  · have h := h.1 c9
    refine lv_iconst (v := (-1)) hx hb d_Mod_page_53 (by decide) ?_
    exact x_iret C hlocks hr hI h d_Mod_page_54
  · have h := h.2 c9
    refine lv_aload_n hx hb d_Mod_page_39 rfl (lv_at hl 0 rfl) ?_
    refine x_get C hI (d := 31) (by decide) (xE31 V _) fd_Mod_47 rfl d_Mod_page_40 ?_
    refine lv_bipush (v := 40) hx hb d_Mod_page_43 (by decide) ?_
    refine lv_iload_n hx hb d_Mod_page_45 rfl (lv_at hl 1 rfl) ?_
    refine lv_imul hx hb d_Mod_page_46 ?_
    refine lv_iload_n hx hb d_Mod_page_47 rfl (lv_at hl 2 rfl) ?_
    refine lv_iadd hx hb d_Mod_page_48 ?_
    obtain ⟨i10, h⟩ := h
    refine x_iald C hI (d := 52) (by decide) (xE52 V) i10 d_Mod_page_49 ?_
    refine lv_goto (tgt := 54) hx hb d_Mod_page_50 (by decide) ?_
    exact x_iret C hlocks hr hI h d_Mod_page_54
set_option maxRecDepth 100000 in
set_option maxHeartbeats 4000000 in
theorem c_Mod_page {l : Launch} {V : xV} {σ : xS} {x1 x2 : Int32} {Q : Int32 → xS → Prop} (h : p_Mod_page x1 x2 σ Q) : xMi l y_Mod_page (.code y_Mod_page cd_Mod_page 3 (some .int) :: xG) rm_Mod_page V [.ref (V.2.2 31), .int x1, .int x2] σ Q := by
  refine x_begini (by decide) (Nat.le_of_ble_eq_true rfl) (fun p e s m below meth c ls C hlocks hr hI hl => ?_)
  have C : xC p s m _ c cd_Mod_page 3 R_Mod V := C
  have hx := C.1
  have hb := C.2.1
  have hl : lv_has ls 3 [(0, .ref (V.2.2 31)), (1, .int x1), (2, .int x2)] := hl
  unfold p_Mod_page at h
  refine lv_aload_n hx hb d_Mod_page_0 rfl (lv_at hl 0 rfl) ?_
  refine lv_iconst (v := 0) hx hb d_Mod_page_1 (by decide) ?_
  refine x_put C hI (d := 31) (by decide) (xE31 V _) (xP_31_0 V _ _) fw_Mod_76 (Nat.le_of_ble_eq_true rfl) d_Mod_page_2 (fun H locs hI => ?_)
  refine lv_aload_n hx hb d_Mod_page_5 rfl (lv_at hl 0 rfl) ?_
  refine lv_iload_n hx hb d_Mod_page_6 rfl (lv_at hl 1 rfl) ?_
  refine x_calli C hI hl.1 (d := 31) (As := [.int x1]) (rest := []) (by decide) (c_Mod_isRegion h) (xE31 V _) rfl yw_Mod_isRegion ml_Mod_140 rfl rfl ⟨Nat.le_of_ble_eq_true rfl, Nat.le_of_ble_eq_true rfl⟩ rfl rfl (Nat.le_of_ble_eq_true rfl) d_Mod_page_7 ⟨Nat.zero_le _, Nat.zero_le _⟩ (fun r2 σ1 H locs h hI => ?_)
  refine lv_if_eq (tgt := 53) hx hb d_Mod_page_10 (by decide) (fun c3 => ?_) (fun c3 => ?_)
  · have h := h.1 c3
    refine lv_iconst (v := (-1)) hx hb d_Mod_page_53 (by decide) ?_
    exact x_iret C hlocks hr hI h d_Mod_page_54
  · have h := h.2 c3
    refine lv_iload_n hx hb d_Mod_page_13 rfl (lv_at hl 2 rfl) ?_
    refine lv_if_lt (tgt := 53) hx hb d_Mod_page_14 (by decide) (fun c4 => ?_) (fun c4 => ?_)
    · have h := h.1 c4
      refine lv_iconst (v := (-1)) hx hb d_Mod_page_53 (by decide) ?_
      exact x_iret C hlocks hr hI h d_Mod_page_54
    · have h := h.2 c4
      refine lv_iload_n hx hb d_Mod_page_17 rfl (lv_at hl 2 rfl) ?_
      refine lv_aload_n hx hb d_Mod_page_18 rfl (lv_at hl 0 rfl) ?_
      refine x_get C hI (d := 31) (by decide) (xE31 V _) fd_Mod_44 rfl d_Mod_page_19 ?_
      refine lv_aload_n hx hb d_Mod_page_22 rfl (lv_at hl 0 rfl) ?_
      refine lv_iload_n hx hb d_Mod_page_23 rfl (lv_at hl 1 rfl) ?_
      refine x_calli C hI hl.1 (d := 31) (As := [.int x1]) (rest := [.ref (V.2.2 51), .int x2]) (by decide) (c_Mod_isRegion h) (xE31 V _) rfl yw_Mod_isRegion ml_Mod_140 rfl rfl ⟨Nat.le_of_ble_eq_true rfl, Nat.le_of_ble_eq_true rfl⟩ rfl rfl (Nat.le_of_ble_eq_true rfl) d_Mod_page_24 ⟨Nat.zero_le _, Nat.zero_le _⟩ (fun r6 σ5 H locs h hI => ?_)
      refine lv_if_eq (tgt := 34) hx hb d_Mod_page_27 (by decide) (fun c7 => ?_) (fun c7 => ?_)
      · have h := h.1 c7
        refine lv_iconst (v := 0) hx hb d_Mod_page_34 (by decide) ?_
        exact t_Mod_page_J35 C hlocks hr h hI (lv_sub hl [0, 1, 2] rfl)
      · have h := h.2 c7
        refine lv_iload_n hx hb d_Mod_page_30 rfl (lv_at hl 1 rfl) ?_
        refine lv_goto (tgt := 35) hx hb d_Mod_page_31 (by decide) ?_
        exact t_Mod_page_J35 C hlocks hr h hI (lv_sub hl [0, 1, 2] rfl)
def y_Mod_at : MethodName := ⟨"RegionPoolModel", "at", "(I)I"⟩
abbrev cd_Mod_at : ByteArray := prog_12_method_44_code
def p_Mod_at_J41 (Q : Int32 → xS → Prop) (y0 : Int32) (σ : xS) : Prop :=
  ((¬ y0 = (-1) → (vp_in y0 640 ∧ Q (σ 41 y0.toNatClampNeg) σ)) ∧ (y0 = (-1) → Q (-1) σ))
def p_Mod_at_J16 (Q : Int32 → xS → Prop) (σ : xS) : Prop :=
  p_Mod_at_J41 Q (-1) σ
def p_Mod_at_J40 (Q : Int32 → xS → Prop) (y0 : Int32) (σ : xS) : Prop :=
  (vp_in y0 640 ∧ p_Mod_at_J41 Q (σ 49 y0.toNatClampNeg) σ)
def p_Mod_at_J35 (Q : Int32 → xS → Prop) (σ : xS) : Prop :=
  p_Mod_at_J40 Q 0 σ
def p_Mod_at (x1 : Int32) (σ : xS) (Q : Int32 → xS → Prop) : Prop :=
  ((x1 < 0 → p_Mod_at_J16 Q (xu σ 31 0 0)) ∧ (¬ x1 < 0 → ((x1 < 640 → ((x1 < 0 → p_Mod_at_J35 Q (xu σ 31 0 0)) ∧ (¬ x1 < 0 → ((x1 < 640 → p_Mod_at_J40 Q x1 (xu σ 31 0 0)) ∧ (¬ x1 < 640 → p_Mod_at_J35 Q (xu σ 31 0 0)))))) ∧ (¬ x1 < 640 → p_Mod_at_J16 Q (xu σ 31 0 0)))))
abbrev rm_Mod_at : Room := { frames := 0, cells := 0, slots := 0, locals := 0 }
theorem d_Mod_at_0 : decode cd_Mod_at 0 = .ok (.aload_n 0, 1) := by decide +kernel
theorem d_Mod_at_1 : decode cd_Mod_at 1 = .ok (.iconst 0, 1) := by decide +kernel
theorem d_Mod_at_2 : decode cd_Mod_at 2 = .ok (.putfield 76, 3) := by decide +kernel
theorem d_Mod_at_5 : decode cd_Mod_at 5 = .ok (.iload_n 1, 1) := by decide +kernel
theorem d_Mod_at_6 : decode cd_Mod_at 6 = .ok (.ifCond .lt 10, 3) := by decide +kernel
theorem d_Mod_at_9 : decode cd_Mod_at 9 = .ok (.iload_n 1, 1) := by decide +kernel
theorem d_Mod_at_10 : decode cd_Mod_at 10 = .ok (.sipush 640, 3) := by decide +kernel
theorem d_Mod_at_13 : decode cd_Mod_at 13 = .ok (.if_icmp .lt 7, 3) := by decide +kernel
theorem d_Mod_at_16 : decode cd_Mod_at 16 = .ok (.iconst (-1), 1) := by decide +kernel
theorem d_Mod_at_17 : decode cd_Mod_at 17 = .ok (.goto 24, 3) := by decide +kernel
theorem d_Mod_at_20 : decode cd_Mod_at 20 = .ok (.aload_n 0, 1) := by decide +kernel
theorem d_Mod_at_21 : decode cd_Mod_at 21 = .ok (.getfield 38, 3) := by decide +kernel
theorem d_Mod_at_24 : decode cd_Mod_at 24 = .ok (.iload_n 1, 1) := by decide +kernel
theorem d_Mod_at_25 : decode cd_Mod_at 25 = .ok (.ifCond .lt 10, 3) := by decide +kernel
theorem d_Mod_at_28 : decode cd_Mod_at 28 = .ok (.iload_n 1, 1) := by decide +kernel
theorem d_Mod_at_29 : decode cd_Mod_at 29 = .ok (.sipush 640, 3) := by decide +kernel
theorem d_Mod_at_32 : decode cd_Mod_at 32 = .ok (.if_icmp .lt 7, 3) := by decide +kernel
theorem d_Mod_at_35 : decode cd_Mod_at 35 = .ok (.iconst 0, 1) := by decide +kernel
theorem d_Mod_at_36 : decode cd_Mod_at 36 = .ok (.goto 4, 3) := by decide +kernel
theorem d_Mod_at_39 : decode cd_Mod_at 39 = .ok (.iload_n 1, 1) := by decide +kernel
theorem d_Mod_at_40 : decode cd_Mod_at 40 = .ok (.iaload, 1) := by decide +kernel
theorem d_Mod_at_41 : decode cd_Mod_at 41 = .ok (.istore_n 2, 1) := by decide +kernel
theorem d_Mod_at_42 : decode cd_Mod_at 42 = .ok (.iload_n 2, 1) := by decide +kernel
theorem d_Mod_at_43 : decode cd_Mod_at 43 = .ok (.iconst (-1), 1) := by decide +kernel
theorem d_Mod_at_44 : decode cd_Mod_at 44 = .ok (.if_icmp .ne 7, 3) := by decide +kernel
theorem d_Mod_at_47 : decode cd_Mod_at 47 = .ok (.iconst (-1), 1) := by decide +kernel
theorem d_Mod_at_48 : decode cd_Mod_at 48 = .ok (.goto 9, 3) := by decide +kernel
theorem d_Mod_at_51 : decode cd_Mod_at 51 = .ok (.aload_n 0, 1) := by decide +kernel
theorem d_Mod_at_52 : decode cd_Mod_at 52 = .ok (.getfield 13, 3) := by decide +kernel
theorem d_Mod_at_55 : decode cd_Mod_at 55 = .ok (.iload_n 2, 1) := by decide +kernel
theorem d_Mod_at_56 : decode cd_Mod_at 56 = .ok (.iaload, 1) := by decide +kernel
theorem d_Mod_at_57 : decode cd_Mod_at 57 = .ok (.ireturn, 1) := by decide +kernel
set_option maxRecDepth 100000 in
set_option maxHeartbeats 4000000 in
theorem t_Mod_at_J41 {p : Program} {l : Launch} {e : Env} {s : State} {m : MethodId} {args : Array Value} {below : List Frame} {meth : Method} {c : Code} {V : xV} (C : xC p s m args c cd_Mod_at 3 R_Mod V) (hlocks : meth.locks = false) (hr : meth.sig.returnType = (some .int)) {Q : Int32 → xS → Prop} {y0 : Int32} {σ : xS} {H : Heap} {locs : List Loc} {ls : Array Slot} (h : p_Mod_at_J41 Q y0 σ) (hI : xI V s.heap σ H locs) (hl : lv_has ls 3 [(0, .ref (V.2.2 31))]) : W p l e rm_Mod_at s m args below meth c H locs 0 0 (xZi below V args s Q) (F0 m 41 ls [.int y0]) := by
  have hx := C.1
  have hb := C.2.1
  unfold p_Mod_at_J41 at h
  refine lv_istore_n (lv' := [(2, .int y0), (0, .ref (V.2.2 31))]) hx hb d_Mod_at_41 rfl hl (by decide) rfl (fun ls hl => ?_)
  refine lv_iload_n hx hb d_Mod_at_42 rfl (lv_at hl 0 rfl) ?_
  refine lv_iconst (v := (-1)) hx hb d_Mod_at_43 (by decide) ?_
  refine lv_icmp_ne (tgt := 51) hx hb d_Mod_at_44 (by decide) (fun c2 => ?_) (fun c2 => ?_)
  · have h := h.1 c2
    refine lv_aload_n hx hb d_Mod_at_51 rfl (lv_at hl 1 rfl) ?_
    refine x_get C hI (d := 31) (by decide) (xE31 V _) fd_Mod_13 rfl d_Mod_at_52 ?_
    refine lv_iload_n hx hb d_Mod_at_55 rfl (lv_at hl 0 rfl) ?_
    obtain ⟨i3, h⟩ := h
    refine x_iald C hI (d := 41) (by decide) (xE41 V) i3 d_Mod_at_56 ?_
    exact x_iret C hlocks hr hI h d_Mod_at_57
  · have h := h.2 c2
    refine lv_iconst (v := (-1)) hx hb d_Mod_at_47 (by decide) ?_
    refine lv_goto (tgt := 57) hx hb d_Mod_at_48 (by decide) ?_
    exact x_iret C hlocks hr hI h d_Mod_at_57
set_option maxRecDepth 100000 in
set_option maxHeartbeats 4000000 in
theorem t_Mod_at_J16 {p : Program} {l : Launch} {e : Env} {s : State} {m : MethodId} {args : Array Value} {below : List Frame} {meth : Method} {c : Code} {V : xV} (C : xC p s m args c cd_Mod_at 3 R_Mod V) (hlocks : meth.locks = false) (hr : meth.sig.returnType = (some .int)) {Q : Int32 → xS → Prop} {σ : xS} {H : Heap} {locs : List Loc} {ls : Array Slot} (h : p_Mod_at_J16 Q σ) (hI : xI V s.heap σ H locs) (hl : lv_has ls 3 [(0, .ref (V.2.2 31))]) : W p l e rm_Mod_at s m args below meth c H locs 0 0 (xZi below V args s Q) (F0 m 16 ls []) := by
  have hx := C.1
  have hb := C.2.1
  unfold p_Mod_at_J16 at h
  refine lv_iconst (v := (-1)) hx hb d_Mod_at_16 (by decide) ?_
  refine lv_goto (tgt := 41) hx hb d_Mod_at_17 (by decide) ?_
  exact t_Mod_at_J41 C hlocks hr h hI (lv_sub hl [0] rfl)
set_option maxRecDepth 100000 in
set_option maxHeartbeats 4000000 in
theorem t_Mod_at_J40 {p : Program} {l : Launch} {e : Env} {s : State} {m : MethodId} {args : Array Value} {below : List Frame} {meth : Method} {c : Code} {V : xV} (C : xC p s m args c cd_Mod_at 3 R_Mod V) (hlocks : meth.locks = false) (hr : meth.sig.returnType = (some .int)) {Q : Int32 → xS → Prop} {y0 : Int32} {σ : xS} {H : Heap} {locs : List Loc} {ls : Array Slot} (h : p_Mod_at_J40 Q y0 σ) (hI : xI V s.heap σ H locs) (hl : lv_has ls 3 [(0, .ref (V.2.2 31))]) : W p l e rm_Mod_at s m args below meth c H locs 0 0 (xZi below V args s Q) (F0 m 40 ls [.int y0, .ref (V.2.2 49)]) := by
  have hx := C.1
  have hb := C.2.1
  unfold p_Mod_at_J40 at h
  obtain ⟨i6, h⟩ := h
  refine x_iald C hI (d := 49) (by decide) (xE49 V) i6 d_Mod_at_40 ?_
  exact t_Mod_at_J41 C hlocks hr h hI (lv_sub hl [0] rfl)
set_option maxRecDepth 100000 in
set_option maxHeartbeats 4000000 in
theorem t_Mod_at_J35 {p : Program} {l : Launch} {e : Env} {s : State} {m : MethodId} {args : Array Value} {below : List Frame} {meth : Method} {c : Code} {V : xV} (C : xC p s m args c cd_Mod_at 3 R_Mod V) (hlocks : meth.locks = false) (hr : meth.sig.returnType = (some .int)) {Q : Int32 → xS → Prop} {σ : xS} {H : Heap} {locs : List Loc} {ls : Array Slot} (h : p_Mod_at_J35 Q σ) (hI : xI V s.heap σ H locs) (hl : lv_has ls 3 [(0, .ref (V.2.2 31))]) : W p l e rm_Mod_at s m args below meth c H locs 0 0 (xZi below V args s Q) (F0 m 35 ls [.ref (V.2.2 49)]) := by
  have hx := C.1
  have hb := C.2.1
  unfold p_Mod_at_J35 at h
  refine lv_iconst (v := 0) hx hb d_Mod_at_35 (by decide) ?_
  refine lv_goto (tgt := 40) hx hb d_Mod_at_36 (by decide) ?_
  exact t_Mod_at_J40 C hlocks hr h hI (lv_sub hl [0] rfl)
set_option maxRecDepth 100000 in
set_option maxHeartbeats 4000000 in
theorem c_Mod_at {l : Launch} {V : xV} {σ : xS} {x1 : Int32} {Q : Int32 → xS → Prop} (h : p_Mod_at x1 σ Q) : xMi l y_Mod_at (.code y_Mod_at cd_Mod_at 3 (some .int) :: xG) rm_Mod_at V [.ref (V.2.2 31), .int x1] σ Q := by
  refine x_begini (by decide) (Nat.le_of_ble_eq_true rfl) (fun p e s m below meth c ls C hlocks hr hI hl => ?_)
  have C : xC p s m _ c cd_Mod_at 3 R_Mod V := C
  have hx := C.1
  have hb := C.2.1
  have hl : lv_has ls 3 [(0, .ref (V.2.2 31)), (1, .int x1)] := hl
  unfold p_Mod_at at h
  refine lv_aload_n hx hb d_Mod_at_0 rfl (lv_at hl 0 rfl) ?_
  refine lv_iconst (v := 0) hx hb d_Mod_at_1 (by decide) ?_
  refine x_put C hI (d := 31) (by decide) (xE31 V _) (xP_31_0 V _ _) fw_Mod_76 (Nat.le_of_ble_eq_true rfl) d_Mod_at_2 (fun H locs hI => ?_)
  refine lv_iload_n hx hb d_Mod_at_5 rfl (lv_at hl 1 rfl) ?_
  refine lv_if_lt (tgt := 16) hx hb d_Mod_at_6 (by decide) (fun c1 => ?_) (fun c1 => ?_)
  · have h := h.1 c1
    exact t_Mod_at_J16 C hlocks hr h hI (lv_sub hl [0] rfl)
  · have h := h.2 c1
    refine lv_iload_n hx hb d_Mod_at_9 rfl (lv_at hl 1 rfl) ?_
    refine lv_sipush (v := 640) hx hb d_Mod_at_10 (by decide) ?_
    refine lv_icmp_lt (tgt := 20) hx hb d_Mod_at_13 (by decide) (fun c4 => ?_) (fun c4 => ?_)
    · have h := h.1 c4
      refine lv_aload_n hx hb d_Mod_at_20 rfl (lv_at hl 0 rfl) ?_
      refine x_get C hI (d := 31) (by decide) (xE31 V _) fd_Mod_38 rfl d_Mod_at_21 ?_
      refine lv_iload_n hx hb d_Mod_at_24 rfl (lv_at hl 1 rfl) ?_
      refine lv_if_lt (tgt := 35) hx hb d_Mod_at_25 (by decide) (fun c5 => ?_) (fun c5 => ?_)
      · have h := h.1 c5
        exact t_Mod_at_J35 C hlocks hr h hI (lv_sub hl [0] rfl)
      · have h := h.2 c5
        refine lv_iload_n hx hb d_Mod_at_28 rfl (lv_at hl 1 rfl) ?_
        refine lv_sipush (v := 640) hx hb d_Mod_at_29 (by decide) ?_
        refine lv_icmp_lt (tgt := 39) hx hb d_Mod_at_32 (by decide) (fun c7 => ?_) (fun c7 => ?_)
        · have h := h.1 c7
          refine lv_iload_n hx hb d_Mod_at_39 rfl (lv_at hl 1 rfl) ?_
          exact t_Mod_at_J40 C hlocks hr h hI (lv_sub hl [0] rfl)
        · have h := h.2 c7
          exact t_Mod_at_J35 C hlocks hr h hI (lv_sub hl [0] rfl)
    · have h := h.2 c4
      exact t_Mod_at_J16 C hlocks hr h hI (lv_sub hl [0] rfl)
def y_Mod_count : MethodName := ⟨"RegionPoolModel", "count", "(I)I"⟩
abbrev cd_Mod_count : ByteArray := prog_12_method_45_code
def p_Mod_count_J71 (K46 : Int32 → Int32 → Int32 → Int32 → Int32 → xS → Prop) (Q : Int32 → xS → Prop) (x1 x2 x4 x5 : Int32) (y0 : Int32) (y1 : Int32) (σ : xS) : Prop :=
  (∀ z15 : Int32, z15 = (y1 + y0) → (vp_in x5 640 ∧ (((σ 40 x5.toNatClampNeg) = (-1) → (∀ z18 : Int32, z18 = (x4 + 0) → (∀ z19 : Int32, z19 = x5 + 1 → K46 x1 x2 z15 z18 z19 σ))) ∧ (¬ (σ 40 x5.toNatClampNeg) = (-1) → (vp_in x5 640 ∧ (((σ 45 x5.toNatClampNeg) ≤ 0 → (∀ z22 : Int32, z22 = (x4 + 0) → (∀ z23 : Int32, z23 = x5 + 1 → K46 x1 x2 z15 z22 z23 σ))) ∧ (¬ (σ 45 x5.toNatClampNeg) ≤ 0 → (∀ z24 : Int32, z24 = (x4 + 1) → (∀ z25 : Int32, z25 = x5 + 1 → K46 x1 x2 z15 z24 z25 σ)))))))))
def b_Mod_count_L46 (K46 : Int32 → Int32 → Int32 → Int32 → Int32 → xS → Prop) (Q : Int32 → xS → Prop) (x1 x2 x3 x4 x5 : Int32) (σ : xS) : Prop :=
  ((640 ≤ x5 → ((x1 = 0 → Q (σ 31 13) σ) ∧ (x1 = 1 → Q x2 σ) ∧ (x1 = 2 → Q x3 σ) ∧ (x1 = 3 → Q (σ 31 21) σ) ∧ (x1 = 4 → Q (σ 31 22) σ) ∧ (x1 = 5 → Q (σ 31 23) σ) ∧ (x1 = 6 → Q (σ 31 24) σ) ∧ (x1 = 7 → Q (σ 31 25) σ) ∧ (x1 = 8 → Q x4 σ) ∧ (x1 = 9 → Q (σ 31 19) σ) ∧ (¬ x1 = 0 → ¬ x1 = 1 → ¬ x1 = 2 → ¬ x1 = 3 → ¬ x1 = 4 → ¬ x1 = 5 → ¬ x1 = 6 → ¬ x1 = 7 → ¬ x1 = 8 → ¬ x1 = 9 → Q (-1) σ))) ∧ (¬ 640 ≤ x5 → (vp_in x5 640 ∧ (((σ 40 x5.toNatClampNeg) = (-1) → p_Mod_count_J71 K46 Q x1 x2 x4 x5 0 x3 σ) ∧ (¬ (σ 40 x5.toNatClampNeg) = (-1) → p_Mod_count_J71 K46 Q x1 x2 x4 x5 1 x3 σ)))))
def p_Mod_count_L46 (Q : Int32 → xS → Prop) (n : Nat) : Int32 → Int32 → Int32 → Int32 → Int32 → xS → Prop := Nat.rec (motive := fun _ => Int32 → Int32 → Int32 → Int32 → Int32 → xS → Prop) (fun _ _ _ _ _ _ => False) (fun _ K x1 x2 x3 x4 x5 σ => b_Mod_count_L46 K Q x1 x2 x3 x4 x5 σ) n
def b_Mod_count_L9 (K9 : Int32 → Int32 → Int32 → xS → Prop) (Q : Int32 → xS → Prop) (x1 x2 x3 : Int32) (σ : xS) : Prop :=
  ((40 ≤ x3 → (∃ n, p_Mod_count_L46 Q n x1 x2 0 0 0 σ)) ∧ (¬ 40 ≤ x3 → (vp_in x3 40 ∧ (((σ 50 x3.toNatClampNeg) = 0 → (∀ z28 : Int32, z28 = (x2 + 1) → (∀ z29 : Int32, z29 = x3 + 1 → K9 x1 z28 z29 σ))) ∧ (¬ (σ 50 x3.toNatClampNeg) = 0 → (∀ z30 : Int32, z30 = (x2 + 0) → (∀ z31 : Int32, z31 = x3 + 1 → K9 x1 z30 z31 σ)))))))
def p_Mod_count_L9 (Q : Int32 → xS → Prop) (n : Nat) : Int32 → Int32 → Int32 → xS → Prop := Nat.rec (motive := fun _ => Int32 → Int32 → Int32 → xS → Prop) (fun _ _ _ _ => False) (fun _ K x1 x2 x3 σ => b_Mod_count_L9 K Q x1 x2 x3 σ) n
def p_Mod_count (x1 : Int32) (σ : xS) (Q : Int32 → xS → Prop) : Prop :=
  (∃ n, p_Mod_count_L9 Q n x1 0 0 (xu σ 31 0 0))
abbrev rm_Mod_count : Room := { frames := 0, cells := 0, slots := 0, locals := 0 }
theorem d_Mod_count_0 : decode cd_Mod_count 0 = .ok (.aload_n 0, 1) := by decide +kernel
theorem d_Mod_count_1 : decode cd_Mod_count 1 = .ok (.iconst 0, 1) := by decide +kernel
theorem d_Mod_count_2 : decode cd_Mod_count 2 = .ok (.putfield 76, 3) := by decide +kernel
theorem d_Mod_count_5 : decode cd_Mod_count 5 = .ok (.iconst 0, 1) := by decide +kernel
theorem d_Mod_count_6 : decode cd_Mod_count 6 = .ok (.istore_n 2, 1) := by decide +kernel
theorem d_Mod_count_7 : decode cd_Mod_count 7 = .ok (.iconst 0, 1) := by decide +kernel
theorem d_Mod_count_8 : decode cd_Mod_count 8 = .ok (.istore_n 3, 1) := by decide +kernel
theorem d_Mod_count_9 : decode cd_Mod_count 9 = .ok (.iload_n 3, 1) := by decide +kernel
theorem d_Mod_count_10 : decode cd_Mod_count 10 = .ok (.bipush 40, 2) := by decide +kernel
theorem d_Mod_count_12 : decode cd_Mod_count 12 = .ok (.if_icmp .ge 26, 3) := by decide +kernel
theorem d_Mod_count_15 : decode cd_Mod_count 15 = .ok (.iload_n 2, 1) := by decide +kernel
theorem d_Mod_count_16 : decode cd_Mod_count 16 = .ok (.aload_n 0, 1) := by decide +kernel
theorem d_Mod_count_17 : decode cd_Mod_count 17 = .ok (.getfield 41, 3) := by decide +kernel
theorem d_Mod_count_20 : decode cd_Mod_count 20 = .ok (.iload_n 3, 1) := by decide +kernel
theorem d_Mod_count_21 : decode cd_Mod_count 21 = .ok (.baload, 1) := by decide +kernel
theorem d_Mod_count_22 : decode cd_Mod_count 22 = .ok (.ifCond .eq 7, 3) := by decide +kernel
theorem d_Mod_count_25 : decode cd_Mod_count 25 = .ok (.iconst 0, 1) := by decide +kernel
theorem d_Mod_count_26 : decode cd_Mod_count 26 = .ok (.goto 4, 3) := by decide +kernel
theorem d_Mod_count_29 : decode cd_Mod_count 29 = .ok (.iconst 1, 1) := by decide +kernel
theorem d_Mod_count_30 : decode cd_Mod_count 30 = .ok (.iadd, 1) := by decide +kernel
theorem d_Mod_count_31 : decode cd_Mod_count 31 = .ok (.istore_n 2, 1) := by decide +kernel
theorem d_Mod_count_32 : decode cd_Mod_count 32 = .ok (.iinc 3 1, 3) := by decide +kernel
theorem d_Mod_count_35 : decode cd_Mod_count 35 = .ok (.goto (-26), 3) := by decide +kernel
theorem d_Mod_count_38 : decode cd_Mod_count 38 = .ok (.iconst 0, 1) := by decide +kernel
theorem d_Mod_count_39 : decode cd_Mod_count 39 = .ok (.istore_n 3, 1) := by decide +kernel
theorem d_Mod_count_40 : decode cd_Mod_count 40 = .ok (.iconst 0, 1) := by decide +kernel
theorem d_Mod_count_41 : decode cd_Mod_count 41 = .ok (.istore 4, 2) := by decide +kernel
theorem d_Mod_count_43 : decode cd_Mod_count 43 = .ok (.iconst 0, 1) := by decide +kernel
theorem d_Mod_count_44 : decode cd_Mod_count 44 = .ok (.istore 5, 2) := by decide +kernel
theorem d_Mod_count_46 : decode cd_Mod_count 46 = .ok (.iload 5, 2) := by decide +kernel
theorem d_Mod_count_48 : decode cd_Mod_count 48 = .ok (.sipush 640, 3) := by decide +kernel
theorem d_Mod_count_51 : decode cd_Mod_count 51 = .ok (.if_icmp .ge 59, 3) := by decide +kernel
theorem d_Mod_count_54 : decode cd_Mod_count 54 = .ok (.iload_n 3, 1) := by decide +kernel
theorem d_Mod_count_55 : decode cd_Mod_count 55 = .ok (.aload_n 0, 1) := by decide +kernel
theorem d_Mod_count_56 : decode cd_Mod_count 56 = .ok (.getfield 7, 3) := by decide +kernel
theorem d_Mod_count_59 : decode cd_Mod_count 59 = .ok (.iload 5, 2) := by decide +kernel
theorem d_Mod_count_61 : decode cd_Mod_count 61 = .ok (.iaload, 1) := by decide +kernel
theorem d_Mod_count_62 : decode cd_Mod_count 62 = .ok (.iconst (-1), 1) := by decide +kernel
theorem d_Mod_count_63 : decode cd_Mod_count 63 = .ok (.if_icmp .eq 7, 3) := by decide +kernel
theorem d_Mod_count_66 : decode cd_Mod_count 66 = .ok (.iconst 1, 1) := by decide +kernel
theorem d_Mod_count_67 : decode cd_Mod_count 67 = .ok (.goto 4, 3) := by decide +kernel
theorem d_Mod_count_70 : decode cd_Mod_count 70 = .ok (.iconst 0, 1) := by decide +kernel
theorem d_Mod_count_71 : decode cd_Mod_count 71 = .ok (.iadd, 1) := by decide +kernel
theorem d_Mod_count_72 : decode cd_Mod_count 72 = .ok (.istore_n 3, 1) := by decide +kernel
theorem d_Mod_count_73 : decode cd_Mod_count 73 = .ok (.iload 4, 2) := by decide +kernel
theorem d_Mod_count_75 : decode cd_Mod_count 75 = .ok (.aload_n 0, 1) := by decide +kernel
theorem d_Mod_count_76 : decode cd_Mod_count 76 = .ok (.getfield 7, 3) := by decide +kernel
theorem d_Mod_count_79 : decode cd_Mod_count 79 = .ok (.iload 5, 2) := by decide +kernel
theorem d_Mod_count_81 : decode cd_Mod_count 81 = .ok (.iaload, 1) := by decide +kernel
theorem d_Mod_count_82 : decode cd_Mod_count 82 = .ok (.iconst (-1), 1) := by decide +kernel
theorem d_Mod_count_83 : decode cd_Mod_count 83 = .ok (.if_icmp .eq 17, 3) := by decide +kernel
theorem d_Mod_count_86 : decode cd_Mod_count 86 = .ok (.aload_n 0, 1) := by decide +kernel
theorem d_Mod_count_87 : decode cd_Mod_count 87 = .ok (.getfield 25, 3) := by decide +kernel
theorem d_Mod_count_90 : decode cd_Mod_count 90 = .ok (.iload 5, 2) := by decide +kernel
theorem d_Mod_count_92 : decode cd_Mod_count 92 = .ok (.iaload, 1) := by decide +kernel
theorem d_Mod_count_93 : decode cd_Mod_count 93 = .ok (.ifCond .le 7, 3) := by decide +kernel
theorem d_Mod_count_96 : decode cd_Mod_count 96 = .ok (.iconst 1, 1) := by decide +kernel
theorem d_Mod_count_97 : decode cd_Mod_count 97 = .ok (.goto 4, 3) := by decide +kernel
theorem d_Mod_count_100 : decode cd_Mod_count 100 = .ok (.iconst 0, 1) := by decide +kernel
theorem d_Mod_count_101 : decode cd_Mod_count 101 = .ok (.iadd, 1) := by decide +kernel
theorem d_Mod_count_102 : decode cd_Mod_count 102 = .ok (.istore 4, 2) := by decide +kernel
theorem d_Mod_count_104 : decode cd_Mod_count 104 = .ok (.iinc 5 1, 3) := by decide +kernel
theorem d_Mod_count_107 : decode cd_Mod_count 107 = .ok (.goto (-61), 3) := by decide +kernel
theorem d_Mod_count_110 : decode cd_Mod_count 110 = .ok (.iload_n 1, 1) := by decide +kernel
theorem d_Mod_count_111 : decode cd_Mod_count 111 = .ok (.tableswitch 95 0 9 #[53, 58, 60, 62, 67, 72, 77, 82, 87, 90], 53) := by decide +kernel
theorem d_Mod_count_164 : decode cd_Mod_count 164 = .ok (.aload_n 0, 1) := by decide +kernel
theorem d_Mod_count_165 : decode cd_Mod_count 165 = .ok (.getfield 80, 3) := by decide +kernel
theorem d_Mod_count_168 : decode cd_Mod_count 168 = .ok (.ireturn, 1) := by decide +kernel
theorem d_Mod_count_169 : decode cd_Mod_count 169 = .ok (.iload_n 2, 1) := by decide +kernel
theorem d_Mod_count_170 : decode cd_Mod_count 170 = .ok (.ireturn, 1) := by decide +kernel
theorem d_Mod_count_171 : decode cd_Mod_count 171 = .ok (.iload_n 3, 1) := by decide +kernel
theorem d_Mod_count_172 : decode cd_Mod_count 172 = .ok (.ireturn, 1) := by decide +kernel
theorem d_Mod_count_173 : decode cd_Mod_count 173 = .ok (.aload_n 0, 1) := by decide +kernel
theorem d_Mod_count_174 : decode cd_Mod_count 174 = .ok (.getfield 131, 3) := by decide +kernel
theorem d_Mod_count_177 : decode cd_Mod_count 177 = .ok (.ireturn, 1) := by decide +kernel
theorem d_Mod_count_178 : decode cd_Mod_count 178 = .ok (.aload_n 0, 1) := by decide +kernel
theorem d_Mod_count_179 : decode cd_Mod_count 179 = .ok (.getfield 134, 3) := by decide +kernel
theorem d_Mod_count_182 : decode cd_Mod_count 182 = .ok (.ireturn, 1) := by decide +kernel
theorem d_Mod_count_183 : decode cd_Mod_count 183 = .ok (.aload_n 0, 1) := by decide +kernel
theorem d_Mod_count_184 : decode cd_Mod_count 184 = .ok (.getfield 137, 3) := by decide +kernel
theorem d_Mod_count_187 : decode cd_Mod_count 187 = .ok (.ireturn, 1) := by decide +kernel
theorem d_Mod_count_188 : decode cd_Mod_count 188 = .ok (.aload_n 0, 1) := by decide +kernel
theorem d_Mod_count_189 : decode cd_Mod_count 189 = .ok (.getfield 174, 3) := by decide +kernel
theorem d_Mod_count_192 : decode cd_Mod_count 192 = .ok (.ireturn, 1) := by decide +kernel
theorem d_Mod_count_193 : decode cd_Mod_count 193 = .ok (.aload_n 0, 1) := by decide +kernel
theorem d_Mod_count_194 : decode cd_Mod_count 194 = .ok (.getfield 177, 3) := by decide +kernel
theorem d_Mod_count_197 : decode cd_Mod_count 197 = .ok (.ireturn, 1) := by decide +kernel
theorem d_Mod_count_198 : decode cd_Mod_count 198 = .ok (.iload 4, 2) := by decide +kernel
theorem d_Mod_count_200 : decode cd_Mod_count 200 = .ok (.ireturn, 1) := by decide +kernel
theorem d_Mod_count_201 : decode cd_Mod_count 201 = .ok (.aload_n 0, 1) := by decide +kernel
theorem d_Mod_count_202 : decode cd_Mod_count 202 = .ok (.getfield 97, 3) := by decide +kernel
theorem d_Mod_count_205 : decode cd_Mod_count 205 = .ok (.ireturn, 1) := by decide +kernel
theorem d_Mod_count_206 : decode cd_Mod_count 206 = .ok (.iconst (-1), 1) := by decide +kernel
theorem d_Mod_count_207 : decode cd_Mod_count 207 = .ok (.ireturn, 1) := by decide +kernel
set_option maxRecDepth 100000 in
set_option maxHeartbeats 4000000 in
theorem t_Mod_count_J71 {p : Program} {l : Launch} {e : Env} {s : State} {m : MethodId} {args : Array Value} {below : List Frame} {meth : Method} {c : Code} {V : xV} (C : xC p s m args c cd_Mod_count 6 R_Mod V) (hlocks : meth.locks = false) (hr : meth.sig.returnType = (some .int)) {Q : Int32 → xS → Prop} {K46 : Int32 → Int32 → Int32 → Int32 → Int32 → xS → Prop} (hK46 : ∀ (x1 : Int32) (x2 : Int32) (x3 : Int32) (x4 : Int32) (x5 : Int32) (σ : xS) (H : Heap) (locs : List Loc) (ls : Array Slot), K46 x1 x2 x3 x4 x5 σ → xI V s.heap σ H locs → lv_has ls 6 [(0, .ref (V.2.2 31)), (1, .int x1), (2, .int x2), (3, .int x3), (4, .int x4), (5, .int x5)] → W p l e rm_Mod_count s m args below meth c H locs 0 0 (xZi below V args s Q) (F0 m 46 ls [])) {x1 x2 x4 x5 : Int32} {y0 : Int32} {y1 : Int32} {σ : xS} {H : Heap} {locs : List Loc} {ls : Array Slot} (h : p_Mod_count_J71 K46 Q x1 x2 x4 x5 y0 y1 σ) (hI : xI V s.heap σ H locs) (hl : lv_has ls 6 [(0, .ref (V.2.2 31)), (1, .int x1), (2, .int x2), (4, .int x4), (5, .int x5)]) : W p l e rm_Mod_count s m args below meth c H locs 0 0 (xZi below V args s Q) (F0 m 71 ls [.int y0, .int y1]) := by
  have hx := C.1
  have hb := C.2.1
  unfold p_Mod_count_J71 at h
  refine lv_iadd hx hb d_Mod_count_71 ?_
  refine lv_topi (fun z15 ez15 => ?_)
  have h := h z15 ez15
  refine lv_istore_n (lv' := [(3, .int z15), (0, .ref (V.2.2 31)), (1, .int x1), (2, .int x2), (4, .int x4), (5, .int x5)]) hx hb d_Mod_count_72 rfl hl (by decide) rfl (fun ls hl => ?_)
  refine lv_iload hx hb d_Mod_count_73 (lv_at hl 4 rfl) ?_
  refine lv_aload_n hx hb d_Mod_count_75 rfl (lv_at hl 1 rfl) ?_
  refine x_get C hI (d := 31) (by decide) (xE31 V _) fd_Mod_7 rfl d_Mod_count_76 ?_
  refine lv_iload hx hb d_Mod_count_79 (lv_at hl 5 rfl) ?_
  obtain ⟨i16, h⟩ := h
  refine x_iald C hI (d := 40) (by decide) (xE40 V) i16 d_Mod_count_81 ?_
  refine lv_iconst (v := (-1)) hx hb d_Mod_count_82 (by decide) ?_
  refine lv_icmp_eq (tgt := 100) hx hb d_Mod_count_83 (by decide) (fun c17 => ?_) (fun c17 => ?_)
  · have h := h.1 c17
    refine lv_iconst (v := 0) hx hb d_Mod_count_100 (by decide) ?_
    refine lv_iadd hx hb d_Mod_count_101 ?_
    refine lv_topi (fun z18 ez18 => ?_)
    have h := h z18 ez18
    refine lv_istore (lv' := [(4, .int z18), (3, .int z15), (0, .ref (V.2.2 31)), (1, .int x1), (2, .int x2), (5, .int x5)]) hx hb d_Mod_count_102 hl (by decide) rfl (fun ls hl => ?_)
    obtain ⟨z19, ez19⟩ : ∃ y : Int32, y = x5 + 1 := ⟨_, rfl⟩
    have h := h z19 ez19
    refine lv_iinc (v := z19) (lv' := [(5, .int z19), (4, .int z18), (3, .int z15), (0, .ref (V.2.2 31)), (1, .int x1), (2, .int x2)]) hx hb d_Mod_count_104 hl (k := 5) rfl (by rw [ez19]; rfl) (by decide) rfl (fun ls hl => ?_)
    refine lv_goto (tgt := 46) hx hb d_Mod_count_107 (by decide) ?_
    exact hK46 _ _ _ _ _ _ _ _ _ h hI (lv_sub hl [3, 4, 5, 2, 1, 0] rfl)
  · have h := h.2 c17
    refine lv_aload_n hx hb d_Mod_count_86 rfl (lv_at hl 1 rfl) ?_
    refine x_get C hI (d := 31) (by decide) (xE31 V _) fd_Mod_25 rfl d_Mod_count_87 ?_
    refine lv_iload hx hb d_Mod_count_90 (lv_at hl 5 rfl) ?_
    obtain ⟨i20, h⟩ := h
    refine x_iald C hI (d := 45) (by decide) (xE45 V) i20 d_Mod_count_92 ?_
    refine lv_if_le (tgt := 100) hx hb d_Mod_count_93 (by decide) (fun c21 => ?_) (fun c21 => ?_)
    · have h := h.1 c21
      refine lv_iconst (v := 0) hx hb d_Mod_count_100 (by decide) ?_
      refine lv_iadd hx hb d_Mod_count_101 ?_
      refine lv_topi (fun z22 ez22 => ?_)
      have h := h z22 ez22
      refine lv_istore (lv' := [(4, .int z22), (3, .int z15), (0, .ref (V.2.2 31)), (1, .int x1), (2, .int x2), (5, .int x5)]) hx hb d_Mod_count_102 hl (by decide) rfl (fun ls hl => ?_)
      obtain ⟨z23, ez23⟩ : ∃ y : Int32, y = x5 + 1 := ⟨_, rfl⟩
      have h := h z23 ez23
      refine lv_iinc (v := z23) (lv' := [(5, .int z23), (4, .int z22), (3, .int z15), (0, .ref (V.2.2 31)), (1, .int x1), (2, .int x2)]) hx hb d_Mod_count_104 hl (k := 5) rfl (by rw [ez23]; rfl) (by decide) rfl (fun ls hl => ?_)
      refine lv_goto (tgt := 46) hx hb d_Mod_count_107 (by decide) ?_
      exact hK46 _ _ _ _ _ _ _ _ _ h hI (lv_sub hl [3, 4, 5, 2, 1, 0] rfl)
    · have h := h.2 c21
      refine lv_iconst (v := 1) hx hb d_Mod_count_96 (by decide) ?_
      refine lv_goto (tgt := 101) hx hb d_Mod_count_97 (by decide) ?_
      refine lv_iadd hx hb d_Mod_count_101 ?_
      refine lv_topi (fun z24 ez24 => ?_)
      have h := h z24 ez24
      refine lv_istore (lv' := [(4, .int z24), (3, .int z15), (0, .ref (V.2.2 31)), (1, .int x1), (2, .int x2), (5, .int x5)]) hx hb d_Mod_count_102 hl (by decide) rfl (fun ls hl => ?_)
      obtain ⟨z25, ez25⟩ : ∃ y : Int32, y = x5 + 1 := ⟨_, rfl⟩
      have h := h z25 ez25
      refine lv_iinc (v := z25) (lv' := [(5, .int z25), (4, .int z24), (3, .int z15), (0, .ref (V.2.2 31)), (1, .int x1), (2, .int x2)]) hx hb d_Mod_count_104 hl (k := 5) rfl (by rw [ez25]; rfl) (by decide) rfl (fun ls hl => ?_)
      refine lv_goto (tgt := 46) hx hb d_Mod_count_107 (by decide) ?_
      exact hK46 _ _ _ _ _ _ _ _ _ h hI (lv_sub hl [3, 4, 5, 2, 1, 0] rfl)
set_option maxRecDepth 100000 in
set_option maxHeartbeats 4000000 in
theorem s_Mod_count_L46 {p : Program} {l : Launch} {e : Env} {s : State} {m : MethodId} {args : Array Value} {below : List Frame} {meth : Method} {c : Code} {V : xV} (C : xC p s m args c cd_Mod_count 6 R_Mod V) (hlocks : meth.locks = false) (hr : meth.sig.returnType = (some .int)) {Q : Int32 → xS → Prop} {K46 : Int32 → Int32 → Int32 → Int32 → Int32 → xS → Prop} (hK46 : ∀ (x1 : Int32) (x2 : Int32) (x3 : Int32) (x4 : Int32) (x5 : Int32) (σ : xS) (H : Heap) (locs : List Loc) (ls : Array Slot), K46 x1 x2 x3 x4 x5 σ → xI V s.heap σ H locs → lv_has ls 6 [(0, .ref (V.2.2 31)), (1, .int x1), (2, .int x2), (3, .int x3), (4, .int x4), (5, .int x5)] → W p l e rm_Mod_count s m args below meth c H locs 0 0 (xZi below V args s Q) (F0 m 46 ls [])) {x1 x2 x3 x4 x5 : Int32} {σ : xS} {H : Heap} {locs : List Loc} {ls : Array Slot} (h : b_Mod_count_L46 K46 Q x1 x2 x3 x4 x5 σ) (hI : xI V s.heap σ H locs) (hl : lv_has ls 6 [(0, .ref (V.2.2 31)), (1, .int x1), (2, .int x2), (3, .int x3), (4, .int x4), (5, .int x5)]) : W p l e rm_Mod_count s m args below meth c H locs 0 0 (xZi below V args s Q) (F0 m 46 ls []) := by
  have hx := C.1
  have hb := C.2.1
  unfold b_Mod_count_L46 at h
  refine lv_iload hx hb d_Mod_count_46 (lv_at hl 5 rfl) ?_
  refine lv_sipush (v := 640) hx hb d_Mod_count_48 (by decide) ?_
  refine lv_icmp_ge (tgt := 110) hx hb d_Mod_count_51 (by decide) (fun c2 => ?_) (fun c2 => ?_)
  · have h := h.1 c2
    refine lv_iload_n hx hb d_Mod_count_110 rfl (lv_at hl 1 rfl) ?_
    by_cases c3 : x1 = 0
    · have h := h.1 c3
      refine lv_tableIn (tgt := 164) hx hb d_Mod_count_111 (by rw [c3]; decide) (by rw [c3]; decide) (by rw [c3]; rfl) (by decide) ?_
      refine lv_aload_n hx hb d_Mod_count_164 rfl (lv_at hl 0 rfl) ?_
      refine x_get C hI (d := 31) (by decide) (xE31 V _) fd_Mod_80 rfl d_Mod_count_165 ?_
      exact x_iret C hlocks hr hI h d_Mod_count_168
    by_cases c4 : x1 = 1
    · have h := h.2.1 c4
      refine lv_tableIn (tgt := 169) hx hb d_Mod_count_111 (by rw [c4]; decide) (by rw [c4]; decide) (by rw [c4]; rfl) (by decide) ?_
      refine lv_iload_n hx hb d_Mod_count_169 rfl (lv_at hl 2 rfl) ?_
      exact x_iret C hlocks hr hI h d_Mod_count_170
    by_cases c5 : x1 = 2
    · have h := h.2.2.1 c5
      refine lv_tableIn (tgt := 171) hx hb d_Mod_count_111 (by rw [c5]; decide) (by rw [c5]; decide) (by rw [c5]; rfl) (by decide) ?_
      refine lv_iload_n hx hb d_Mod_count_171 rfl (lv_at hl 3 rfl) ?_
      exact x_iret C hlocks hr hI h d_Mod_count_172
    by_cases c6 : x1 = 3
    · have h := h.2.2.2.1 c6
      refine lv_tableIn (tgt := 173) hx hb d_Mod_count_111 (by rw [c6]; decide) (by rw [c6]; decide) (by rw [c6]; rfl) (by decide) ?_
      refine lv_aload_n hx hb d_Mod_count_173 rfl (lv_at hl 0 rfl) ?_
      refine x_get C hI (d := 31) (by decide) (xE31 V _) fd_Mod_131 rfl d_Mod_count_174 ?_
      exact x_iret C hlocks hr hI h d_Mod_count_177
    by_cases c7 : x1 = 4
    · have h := h.2.2.2.2.1 c7
      refine lv_tableIn (tgt := 178) hx hb d_Mod_count_111 (by rw [c7]; decide) (by rw [c7]; decide) (by rw [c7]; rfl) (by decide) ?_
      refine lv_aload_n hx hb d_Mod_count_178 rfl (lv_at hl 0 rfl) ?_
      refine x_get C hI (d := 31) (by decide) (xE31 V _) fd_Mod_134 rfl d_Mod_count_179 ?_
      exact x_iret C hlocks hr hI h d_Mod_count_182
    by_cases c8 : x1 = 5
    · have h := h.2.2.2.2.2.1 c8
      refine lv_tableIn (tgt := 183) hx hb d_Mod_count_111 (by rw [c8]; decide) (by rw [c8]; decide) (by rw [c8]; rfl) (by decide) ?_
      refine lv_aload_n hx hb d_Mod_count_183 rfl (lv_at hl 0 rfl) ?_
      refine x_get C hI (d := 31) (by decide) (xE31 V _) fd_Mod_137 rfl d_Mod_count_184 ?_
      exact x_iret C hlocks hr hI h d_Mod_count_187
    by_cases c9 : x1 = 6
    · have h := h.2.2.2.2.2.2.1 c9
      refine lv_tableIn (tgt := 188) hx hb d_Mod_count_111 (by rw [c9]; decide) (by rw [c9]; decide) (by rw [c9]; rfl) (by decide) ?_
      refine lv_aload_n hx hb d_Mod_count_188 rfl (lv_at hl 0 rfl) ?_
      refine x_get C hI (d := 31) (by decide) (xE31 V _) fd_Mod_174 rfl d_Mod_count_189 ?_
      exact x_iret C hlocks hr hI h d_Mod_count_192
    by_cases c10 : x1 = 7
    · have h := h.2.2.2.2.2.2.2.1 c10
      refine lv_tableIn (tgt := 193) hx hb d_Mod_count_111 (by rw [c10]; decide) (by rw [c10]; decide) (by rw [c10]; rfl) (by decide) ?_
      refine lv_aload_n hx hb d_Mod_count_193 rfl (lv_at hl 0 rfl) ?_
      refine x_get C hI (d := 31) (by decide) (xE31 V _) fd_Mod_177 rfl d_Mod_count_194 ?_
      exact x_iret C hlocks hr hI h d_Mod_count_197
    by_cases c11 : x1 = 8
    · have h := h.2.2.2.2.2.2.2.2.1 c11
      refine lv_tableIn (tgt := 198) hx hb d_Mod_count_111 (by rw [c11]; decide) (by rw [c11]; decide) (by rw [c11]; rfl) (by decide) ?_
      refine lv_iload hx hb d_Mod_count_198 (lv_at hl 4 rfl) ?_
      exact x_iret C hlocks hr hI h d_Mod_count_200
    by_cases c12 : x1 = 9
    · have h := h.2.2.2.2.2.2.2.2.2.1 c12
      refine lv_tableIn (tgt := 201) hx hb d_Mod_count_111 (by rw [c12]; decide) (by rw [c12]; decide) (by rw [c12]; rfl) (by decide) ?_
      refine lv_aload_n hx hb d_Mod_count_201 rfl (lv_at hl 0 rfl) ?_
      refine x_get C hI (d := 31) (by decide) (xE31 V _) fd_Mod_97 rfl d_Mod_count_202 ?_
      exact x_iret C hlocks hr hI h d_Mod_count_205
    have h := h.2.2.2.2.2.2.2.2.2.2 c3 c4 c5 c6 c7 c8 c9 c10 c11 c12
    refine lv_tableOut (tgt := 206) hx hb d_Mod_count_111 (by have := x_ne c3 (n := 0) (by decide); have := x_ne c4 (n := 1) (by decide); have := x_ne c5 (n := 2) (by decide); have := x_ne c6 (n := 3) (by decide); have := x_ne c7 (n := 4) (by decide); have := x_ne c8 (n := 5) (by decide); have := x_ne c9 (n := 6) (by decide); have := x_ne c10 (n := 7) (by decide); have := x_ne c11 (n := 8) (by decide); have := x_ne c12 (n := 9) (by decide); omega) (by decide) ?_
    refine lv_iconst (v := (-1)) hx hb d_Mod_count_206 (by decide) ?_
    exact x_iret C hlocks hr hI h d_Mod_count_207
  · have h := h.2 c2
    refine lv_iload_n hx hb d_Mod_count_54 rfl (lv_at hl 3 rfl) ?_
    refine lv_aload_n hx hb d_Mod_count_55 rfl (lv_at hl 0 rfl) ?_
    refine x_get C hI (d := 31) (by decide) (xE31 V _) fd_Mod_7 rfl d_Mod_count_56 ?_
    refine lv_iload hx hb d_Mod_count_59 (lv_at hl 5 rfl) ?_
    obtain ⟨i13, h⟩ := h
    refine x_iald C hI (d := 40) (by decide) (xE40 V) i13 d_Mod_count_61 ?_
    refine lv_iconst (v := (-1)) hx hb d_Mod_count_62 (by decide) ?_
    refine lv_icmp_eq (tgt := 70) hx hb d_Mod_count_63 (by decide) (fun c14 => ?_) (fun c14 => ?_)
    · have h := h.1 c14
      refine lv_iconst (v := 0) hx hb d_Mod_count_70 (by decide) ?_
      exact t_Mod_count_J71 C hlocks hr hK46 h hI (lv_sub hl [0, 1, 2, 4, 5] rfl)
    · have h := h.2 c14
      refine lv_iconst (v := 1) hx hb d_Mod_count_66 (by decide) ?_
      refine lv_goto (tgt := 71) hx hb d_Mod_count_67 (by decide) ?_
      exact t_Mod_count_J71 C hlocks hr hK46 h hI (lv_sub hl [0, 1, 2, 4, 5] rfl)
theorem w_Mod_count_L46 {p : Program} {l : Launch} {e : Env} {s : State} {m : MethodId} {args : Array Value} {below : List Frame} {meth : Method} {c : Code} {V : xV} (C : xC p s m args c cd_Mod_count 6 R_Mod V) (hlocks : meth.locks = false) (hr : meth.sig.returnType = (some .int)) {Q : Int32 → xS → Prop} : ∀ (n : Nat) (x1 : Int32) (x2 : Int32) (x3 : Int32) (x4 : Int32) (x5 : Int32) (σ : xS) (H : Heap) (locs : List Loc) (ls : Array Slot), p_Mod_count_L46 Q n x1 x2 x3 x4 x5 σ → xI V s.heap σ H locs → lv_has ls 6 [(0, .ref (V.2.2 31)), (1, .int x1), (2, .int x2), (3, .int x3), (4, .int x4), (5, .int x5)] → W p l e rm_Mod_count s m args below meth c H locs 0 0 (xZi below V args s Q) (F0 m 46 ls []) := by
  intro n
  induction n with
  | zero =>
    intro x1 x2 x3 x4 x5 σ H locs ls h
    exact False.elim h
  | succ n ih =>
    intro x1 x2 x3 x4 x5 σ H locs ls h hI hl
    exact s_Mod_count_L46 C hlocks hr (K46 := p_Mod_count_L46 Q n) (fun x1 x2 x3 x4 x5 σ H locs ls h hI hl => ih x1 x2 x3 x4 x5 σ H locs ls h hI hl) h hI hl
set_option maxRecDepth 100000 in
set_option maxHeartbeats 4000000 in
theorem s_Mod_count_L9 {p : Program} {l : Launch} {e : Env} {s : State} {m : MethodId} {args : Array Value} {below : List Frame} {meth : Method} {c : Code} {V : xV} (C : xC p s m args c cd_Mod_count 6 R_Mod V) (hlocks : meth.locks = false) (hr : meth.sig.returnType = (some .int)) {Q : Int32 → xS → Prop} {K9 : Int32 → Int32 → Int32 → xS → Prop} (hK9 : ∀ (x1 : Int32) (x2 : Int32) (x3 : Int32) (σ : xS) (H : Heap) (locs : List Loc) (ls : Array Slot), K9 x1 x2 x3 σ → xI V s.heap σ H locs → lv_has ls 6 [(0, .ref (V.2.2 31)), (1, .int x1), (2, .int x2), (3, .int x3)] → W p l e rm_Mod_count s m args below meth c H locs 0 0 (xZi below V args s Q) (F0 m 9 ls [])) {x1 x2 x3 : Int32} {σ : xS} {H : Heap} {locs : List Loc} {ls : Array Slot} (h : b_Mod_count_L9 K9 Q x1 x2 x3 σ) (hI : xI V s.heap σ H locs) (hl : lv_has ls 6 [(0, .ref (V.2.2 31)), (1, .int x1), (2, .int x2), (3, .int x3)]) : W p l e rm_Mod_count s m args below meth c H locs 0 0 (xZi below V args s Q) (F0 m 9 ls []) := by
  have hx := C.1
  have hb := C.2.1
  unfold b_Mod_count_L9 at h
  refine lv_iload_n hx hb d_Mod_count_9 rfl (lv_at hl 3 rfl) ?_
  refine lv_bipush (v := 40) hx hb d_Mod_count_10 (by decide) ?_
  refine lv_icmp_ge (tgt := 38) hx hb d_Mod_count_12 (by decide) (fun c1 => ?_) (fun c1 => ?_)
  · have h := h.1 c1
    refine lv_iconst (v := 0) hx hb d_Mod_count_38 (by decide) ?_
    refine lv_istore_n (lv' := [(3, .int 0), (0, .ref (V.2.2 31)), (1, .int x1), (2, .int x2)]) hx hb d_Mod_count_39 rfl hl (by decide) rfl (fun ls hl => ?_)
    refine lv_iconst (v := 0) hx hb d_Mod_count_40 (by decide) ?_
    refine lv_istore (lv' := [(4, .int 0), (3, .int 0), (0, .ref (V.2.2 31)), (1, .int x1), (2, .int x2)]) hx hb d_Mod_count_41 hl (by decide) rfl (fun ls hl => ?_)
    refine lv_iconst (v := 0) hx hb d_Mod_count_43 (by decide) ?_
    refine lv_istore (lv' := [(5, .int 0), (4, .int 0), (3, .int 0), (0, .ref (V.2.2 31)), (1, .int x1), (2, .int x2)]) hx hb d_Mod_count_44 hl (by decide) rfl (fun ls hl => ?_)
    obtain ⟨n, h⟩ := h
    exact w_Mod_count_L46 C hlocks hr n _ _ _ _ _ _ _ _ _ h hI (lv_sub hl [3, 4, 5, 2, 1, 0] rfl)
  · have h := h.2 c1
    refine lv_iload_n hx hb d_Mod_count_15 rfl (lv_at hl 2 rfl) ?_
    refine lv_aload_n hx hb d_Mod_count_16 rfl (lv_at hl 0 rfl) ?_
    refine x_get C hI (d := 31) (by decide) (xE31 V _) fd_Mod_41 rfl d_Mod_count_17 ?_
    refine lv_iload_n hx hb d_Mod_count_20 rfl (lv_at hl 3 rfl) ?_
    obtain ⟨i26, h⟩ := h
    refine x_zald C hI (d := 50) (by decide) (xE50 V) i26 d_Mod_count_21 ?_
    refine lv_if_eq (tgt := 29) hx hb d_Mod_count_22 (by decide) (fun c27 => ?_) (fun c27 => ?_)
    · have h := h.1 c27
      refine lv_iconst (v := 1) hx hb d_Mod_count_29 (by decide) ?_
      refine lv_iadd hx hb d_Mod_count_30 ?_
      refine lv_topi (fun z28 ez28 => ?_)
      have h := h z28 ez28
      refine lv_istore_n (lv' := [(2, .int z28), (0, .ref (V.2.2 31)), (1, .int x1), (3, .int x3)]) hx hb d_Mod_count_31 rfl hl (by decide) rfl (fun ls hl => ?_)
      obtain ⟨z29, ez29⟩ : ∃ y : Int32, y = x3 + 1 := ⟨_, rfl⟩
      have h := h z29 ez29
      refine lv_iinc (v := z29) (lv' := [(3, .int z29), (2, .int z28), (0, .ref (V.2.2 31)), (1, .int x1)]) hx hb d_Mod_count_32 hl (k := 3) rfl (by rw [ez29]; rfl) (by decide) rfl (fun ls hl => ?_)
      refine lv_goto (tgt := 9) hx hb d_Mod_count_35 (by decide) ?_
      exact hK9 _ _ _ _ _ _ _ h hI (lv_sub hl [2, 3, 1, 0] rfl)
    · have h := h.2 c27
      refine lv_iconst (v := 0) hx hb d_Mod_count_25 (by decide) ?_
      refine lv_goto (tgt := 30) hx hb d_Mod_count_26 (by decide) ?_
      refine lv_iadd hx hb d_Mod_count_30 ?_
      refine lv_topi (fun z30 ez30 => ?_)
      have h := h z30 ez30
      refine lv_istore_n (lv' := [(2, .int z30), (0, .ref (V.2.2 31)), (1, .int x1), (3, .int x3)]) hx hb d_Mod_count_31 rfl hl (by decide) rfl (fun ls hl => ?_)
      obtain ⟨z31, ez31⟩ : ∃ y : Int32, y = x3 + 1 := ⟨_, rfl⟩
      have h := h z31 ez31
      refine lv_iinc (v := z31) (lv' := [(3, .int z31), (2, .int z30), (0, .ref (V.2.2 31)), (1, .int x1)]) hx hb d_Mod_count_32 hl (k := 3) rfl (by rw [ez31]; rfl) (by decide) rfl (fun ls hl => ?_)
      refine lv_goto (tgt := 9) hx hb d_Mod_count_35 (by decide) ?_
      exact hK9 _ _ _ _ _ _ _ h hI (lv_sub hl [2, 3, 1, 0] rfl)
theorem w_Mod_count_L9 {p : Program} {l : Launch} {e : Env} {s : State} {m : MethodId} {args : Array Value} {below : List Frame} {meth : Method} {c : Code} {V : xV} (C : xC p s m args c cd_Mod_count 6 R_Mod V) (hlocks : meth.locks = false) (hr : meth.sig.returnType = (some .int)) {Q : Int32 → xS → Prop} : ∀ (n : Nat) (x1 : Int32) (x2 : Int32) (x3 : Int32) (σ : xS) (H : Heap) (locs : List Loc) (ls : Array Slot), p_Mod_count_L9 Q n x1 x2 x3 σ → xI V s.heap σ H locs → lv_has ls 6 [(0, .ref (V.2.2 31)), (1, .int x1), (2, .int x2), (3, .int x3)] → W p l e rm_Mod_count s m args below meth c H locs 0 0 (xZi below V args s Q) (F0 m 9 ls []) := by
  intro n
  induction n with
  | zero =>
    intro x1 x2 x3 σ H locs ls h
    exact False.elim h
  | succ n ih =>
    intro x1 x2 x3 σ H locs ls h hI hl
    exact s_Mod_count_L9 C hlocks hr (K9 := p_Mod_count_L9 Q n) (fun x1 x2 x3 σ H locs ls h hI hl => ih x1 x2 x3 σ H locs ls h hI hl) h hI hl
set_option maxRecDepth 100000 in
set_option maxHeartbeats 4000000 in
theorem c_Mod_count {l : Launch} {V : xV} {σ : xS} {x1 : Int32} {Q : Int32 → xS → Prop} (h : p_Mod_count x1 σ Q) : xMi l y_Mod_count (.code y_Mod_count cd_Mod_count 6 (some .int) :: xG) rm_Mod_count V [.ref (V.2.2 31), .int x1] σ Q := by
  refine x_begini (by decide) (Nat.le_of_ble_eq_true rfl) (fun p e s m below meth c ls C hlocks hr hI hl => ?_)
  have C : xC p s m _ c cd_Mod_count 6 R_Mod V := C
  have hx := C.1
  have hb := C.2.1
  have hl : lv_has ls 6 [(0, .ref (V.2.2 31)), (1, .int x1)] := hl
  unfold p_Mod_count at h
  refine lv_aload_n hx hb d_Mod_count_0 rfl (lv_at hl 0 rfl) ?_
  refine lv_iconst (v := 0) hx hb d_Mod_count_1 (by decide) ?_
  refine x_put C hI (d := 31) (by decide) (xE31 V _) (xP_31_0 V _ _) fw_Mod_76 (Nat.le_of_ble_eq_true rfl) d_Mod_count_2 (fun H locs hI => ?_)
  refine lv_iconst (v := 0) hx hb d_Mod_count_5 (by decide) ?_
  refine lv_istore_n (lv' := [(2, .int 0), (0, .ref (V.2.2 31)), (1, .int x1)]) hx hb d_Mod_count_6 rfl hl (by decide) rfl (fun ls hl => ?_)
  refine lv_iconst (v := 0) hx hb d_Mod_count_7 (by decide) ?_
  refine lv_istore_n (lv' := [(3, .int 0), (2, .int 0), (0, .ref (V.2.2 31)), (1, .int x1)]) hx hb d_Mod_count_8 rfl hl (by decide) rfl (fun ls hl => ?_)
  obtain ⟨n, h⟩ := h
  exact w_Mod_count_L9 C hlocks hr n _ _ _ _ _ _ _ h hI (lv_sub hl [2, 3, 1, 0] rfl)
