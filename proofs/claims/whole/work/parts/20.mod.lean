def y_Mod_thrown : MethodName := ⟨"RegionPoolModel", "thrown", "()I"⟩
abbrev cd_Mod_thrown : ByteArray := prog_12_method_2_code
theorem fd_Mod_76 : xFd R_Mod 76 10 0 := ⟨R_Mod, T_Mod, 32, rfl, in_Mod, by decide, xG_mem 984 (by decide +kernel) (by decide +kernel)⟩
def p_Mod_thrown (σ : xS) (Q : Int32 → xS → Prop) : Prop :=
  Q (σ 31 0) σ
abbrev rm_Mod_thrown : Room := { frames := 0, cells := 0, slots := 0, locals := 0 }
theorem d_Mod_thrown_0 : decode cd_Mod_thrown 0 = .ok (.aload_n 0, 1) := by decide +kernel
theorem d_Mod_thrown_1 : decode cd_Mod_thrown 1 = .ok (.getfield 76, 3) := by decide +kernel
theorem d_Mod_thrown_4 : decode cd_Mod_thrown 4 = .ok (.ireturn, 1) := by decide +kernel
set_option maxRecDepth 100000 in
set_option maxHeartbeats 4000000 in
theorem c_Mod_thrown {l : Launch} {V : xV} {σ : xS} {Q : Int32 → xS → Prop} (h : p_Mod_thrown σ Q) : xMi l y_Mod_thrown (.code y_Mod_thrown cd_Mod_thrown 1 (some .int) :: xG) rm_Mod_thrown V [.ref (V.2.2 31)] σ Q := by
  refine x_begini (by decide) (Nat.le_of_ble_eq_true rfl) (fun p e s m below meth c ls C hlocks hr hI hl => ?_)
  have C : xC p s m _ c cd_Mod_thrown 1 R_Mod V := C
  have hx := C.1
  have hb := C.2.1
  have hl : lv_has ls 1 [(0, .ref (V.2.2 31))] := hl
  unfold p_Mod_thrown at h
  refine lv_aload_n hx hb d_Mod_thrown_0 rfl (lv_at hl 0 rfl) ?_
  refine x_get C hI (d := 31) (by decide) (xE31 V _) fd_Mod_76 rfl d_Mod_thrown_1 ?_
  exact x_iret C hlocks hr hI h d_Mod_thrown_4
def y_Mod_open : MethodName := ⟨"RegionPoolModel", "open", "()I"⟩
abbrev cd_Mod_open : ByteArray := prog_12_method_11_code
theorem fw_Mod_76 : xFw R_Mod 76 10 0 := ⟨R_Mod, T_Mod, 32, t_Mod, rfl, in_Mod, by decide, xG_mem 984 (by decide +kernel) (by decide +kernel), tk_Mod, nm_Mod, rfl, by decide +kernel⟩
theorem xP_31_0 (V : xV) (f : Nat → Int32) (x : Int32) : xE V 31 (upd f 0 x) = .inr (10, [.int (f 0), .ref (V.2.2 40), .ref (V.2.2 41), .ref (V.2.2 42), .ref (V.2.2 43), .ref (V.2.2 44), .ref (V.2.2 45), .ref (V.2.2 46), .ref (V.2.2 47), .ref (V.2.2 48), .int (f 10), .ref (V.2.2 49), .ref (V.2.2 50), .int (f 13), .ref (V.2.2 51), .ref (V.2.2 52), .ref (V.2.2 53), .ref (V.2.2 54), .ref (V.2.2 55), .int (f 19), .ref (V.2.2 56), .int (f 21), .int (f 22), .int (f 23), .int (f 24), .int (f 25), .int (f 26), .ref (V.2.2 57), .ref (V.2.2 58), .ref (V.2.2 59), .ref (V.2.2 60), .int (f 31)].set 0 (.int x)) := rfl
theorem fd_Mod_80 : xFd R_Mod 80 10 13 := ⟨R_Mod, T_Mod, 32, rfl, in_Mod, by decide, xG_mem 997 (by decide +kernel) (by decide +kernel)⟩
theorem fd_Mod_44 : xFd R_Mod 44 10 14 := ⟨R_Mod, T_Mod, 32, rfl, in_Mod, by decide, xG_mem 998 (by decide +kernel) (by decide +kernel)⟩
theorem fd_Mod_50 : xFd R_Mod 50 10 16 := ⟨R_Mod, T_Mod, 32, rfl, in_Mod, by decide, xG_mem 1000 (by decide +kernel) (by decide +kernel)⟩
theorem fw_Mod_80 : xFw R_Mod 80 10 13 := ⟨R_Mod, T_Mod, 32, t_Mod, rfl, in_Mod, by decide, xG_mem 997 (by decide +kernel) (by decide +kernel), tk_Mod, nm_Mod, rfl, by decide +kernel⟩
theorem xP_31_13 (V : xV) (f : Nat → Int32) (x : Int32) : xE V 31 (upd f 13 x) = .inr (10, [.int (f 0), .ref (V.2.2 40), .ref (V.2.2 41), .ref (V.2.2 42), .ref (V.2.2 43), .ref (V.2.2 44), .ref (V.2.2 45), .ref (V.2.2 46), .ref (V.2.2 47), .ref (V.2.2 48), .int (f 10), .ref (V.2.2 49), .ref (V.2.2 50), .int (f 13), .ref (V.2.2 51), .ref (V.2.2 52), .ref (V.2.2 53), .ref (V.2.2 54), .ref (V.2.2 55), .int (f 19), .ref (V.2.2 56), .int (f 21), .int (f 22), .int (f 23), .int (f 24), .int (f 25), .int (f 26), .ref (V.2.2 57), .ref (V.2.2 58), .ref (V.2.2 59), .ref (V.2.2 60), .int (f 31)].set 13 (.int x)) := rfl
def p_Mod_open (σ : xS) (Q : Int32 → xS → Prop) : Prop :=
  ((¬ ((xu σ 31 0 0) 31 13) = 8 → (vp_in ((xu σ 31 0 0) 31 13) 8 ∧ (vp_in ((xu (xu σ 31 0 0) 51 ((xu σ 31 0 0) 31 13).toNatClampNeg 0) 31 13) 8 ∧ Q (((xu (xu (xu (xu σ 31 0 0) 51 ((xu σ 31 0 0) 31 13).toNatClampNeg 0) 53 ((xu (xu σ 31 0 0) 51 ((xu σ 31 0 0) 31 13).toNatClampNeg 0) 31 13).toNatClampNeg 0) 31 13 (((xu (xu (xu σ 31 0 0) 51 ((xu σ 31 0 0) 31 13).toNatClampNeg 0) 53 ((xu (xu σ 31 0 0) 51 ((xu σ 31 0 0) 31 13).toNatClampNeg 0) 31 13).toNatClampNeg 0) 31 13) + 1)) 31 13) - 1) (xu (xu (xu (xu σ 31 0 0) 51 ((xu σ 31 0 0) 31 13).toNatClampNeg 0) 53 ((xu (xu σ 31 0 0) 51 ((xu σ 31 0 0) 31 13).toNatClampNeg 0) 31 13).toNatClampNeg 0) 31 13 (((xu (xu (xu σ 31 0 0) 51 ((xu σ 31 0 0) 31 13).toNatClampNeg 0) 53 ((xu (xu σ 31 0 0) 51 ((xu σ 31 0 0) 31 13).toNatClampNeg 0) 31 13).toNatClampNeg 0) 31 13) + 1))))) ∧ (((xu σ 31 0 0) 31 13) = 8 → Q (-1) (xu σ 31 0 0)))
abbrev rm_Mod_open : Room := { frames := 0, cells := 0, slots := 0, locals := 0 }
theorem d_Mod_open_0 : decode cd_Mod_open 0 = .ok (.aload_n 0, 1) := by decide +kernel
theorem d_Mod_open_1 : decode cd_Mod_open 1 = .ok (.iconst 0, 1) := by decide +kernel
theorem d_Mod_open_2 : decode cd_Mod_open 2 = .ok (.putfield 76, 3) := by decide +kernel
theorem d_Mod_open_5 : decode cd_Mod_open 5 = .ok (.aload_n 0, 1) := by decide +kernel
theorem d_Mod_open_6 : decode cd_Mod_open 6 = .ok (.getfield 80, 3) := by decide +kernel
theorem d_Mod_open_9 : decode cd_Mod_open 9 = .ok (.bipush 8, 2) := by decide +kernel
theorem d_Mod_open_11 : decode cd_Mod_open 11 = .ok (.if_icmp .ne 5, 3) := by decide +kernel
theorem d_Mod_open_14 : decode cd_Mod_open 14 = .ok (.iconst (-1), 1) := by decide +kernel
theorem d_Mod_open_15 : decode cd_Mod_open 15 = .ok (.ireturn, 1) := by decide +kernel
theorem d_Mod_open_16 : decode cd_Mod_open 16 = .ok (.aload_n 0, 1) := by decide +kernel
theorem d_Mod_open_17 : decode cd_Mod_open 17 = .ok (.getfield 44, 3) := by decide +kernel
theorem d_Mod_open_20 : decode cd_Mod_open 20 = .ok (.aload_n 0, 1) := by decide +kernel
theorem d_Mod_open_21 : decode cd_Mod_open 21 = .ok (.getfield 80, 3) := by decide +kernel
theorem d_Mod_open_24 : decode cd_Mod_open 24 = .ok (.iconst 0, 1) := by decide +kernel
theorem d_Mod_open_25 : decode cd_Mod_open 25 = .ok (.iastore, 1) := by decide +kernel
theorem d_Mod_open_26 : decode cd_Mod_open 26 = .ok (.aload_n 0, 1) := by decide +kernel
theorem d_Mod_open_27 : decode cd_Mod_open 27 = .ok (.getfield 50, 3) := by decide +kernel
theorem d_Mod_open_30 : decode cd_Mod_open 30 = .ok (.aload_n 0, 1) := by decide +kernel
theorem d_Mod_open_31 : decode cd_Mod_open 31 = .ok (.getfield 80, 3) := by decide +kernel
theorem d_Mod_open_34 : decode cd_Mod_open 34 = .ok (.iconst 0, 1) := by decide +kernel
theorem d_Mod_open_35 : decode cd_Mod_open 35 = .ok (.iastore, 1) := by decide +kernel
theorem d_Mod_open_36 : decode cd_Mod_open 36 = .ok (.aload_n 0, 1) := by decide +kernel
theorem d_Mod_open_37 : decode cd_Mod_open 37 = .ok (.dup, 1) := by decide +kernel
theorem d_Mod_open_38 : decode cd_Mod_open 38 = .ok (.getfield 80, 3) := by decide +kernel
theorem d_Mod_open_41 : decode cd_Mod_open 41 = .ok (.iconst 1, 1) := by decide +kernel
theorem d_Mod_open_42 : decode cd_Mod_open 42 = .ok (.iadd, 1) := by decide +kernel
theorem d_Mod_open_43 : decode cd_Mod_open 43 = .ok (.putfield 80, 3) := by decide +kernel
theorem d_Mod_open_46 : decode cd_Mod_open 46 = .ok (.aload_n 0, 1) := by decide +kernel
theorem d_Mod_open_47 : decode cd_Mod_open 47 = .ok (.getfield 80, 3) := by decide +kernel
theorem d_Mod_open_50 : decode cd_Mod_open 50 = .ok (.iconst 1, 1) := by decide +kernel
theorem d_Mod_open_51 : decode cd_Mod_open 51 = .ok (.isub, 1) := by decide +kernel
theorem d_Mod_open_52 : decode cd_Mod_open 52 = .ok (.ireturn, 1) := by decide +kernel
set_option maxRecDepth 100000 in
set_option maxHeartbeats 4000000 in
theorem c_Mod_open {l : Launch} {V : xV} {σ : xS} {Q : Int32 → xS → Prop} (h : p_Mod_open σ Q) : xMi l y_Mod_open (.code y_Mod_open cd_Mod_open 1 (some .int) :: xG) rm_Mod_open V [.ref (V.2.2 31)] σ Q := by
  refine x_begini (by decide) (Nat.le_of_ble_eq_true rfl) (fun p e s m below meth c ls C hlocks hr hI hl => ?_)
  have C : xC p s m _ c cd_Mod_open 1 R_Mod V := C
  have hx := C.1
  have hb := C.2.1
  have hl : lv_has ls 1 [(0, .ref (V.2.2 31))] := hl
  unfold p_Mod_open at h
  refine lv_aload_n hx hb d_Mod_open_0 rfl (lv_at hl 0 rfl) ?_
  refine lv_iconst (v := 0) hx hb d_Mod_open_1 (by decide) ?_
  refine x_put C hI (d := 31) (by decide) (xE31 V _) (xP_31_0 V _ _) fw_Mod_76 (Nat.le_of_ble_eq_true rfl) d_Mod_open_2 (fun H locs hI => ?_)
  refine lv_aload_n hx hb d_Mod_open_5 rfl (lv_at hl 0 rfl) ?_
  refine x_get C hI (d := 31) (by decide) (xE31 V _) fd_Mod_80 rfl d_Mod_open_6 ?_
  refine lv_bipush (v := 8) hx hb d_Mod_open_9 (by decide) ?_
  refine lv_icmp_ne (tgt := 16) hx hb d_Mod_open_11 (by decide) (fun c1 => ?_) (fun c1 => ?_)
  · have h := h.1 c1
    refine lv_aload_n hx hb d_Mod_open_16 rfl (lv_at hl 0 rfl) ?_
    refine x_get C hI (d := 31) (by decide) (xE31 V _) fd_Mod_44 rfl d_Mod_open_17 ?_
    refine lv_aload_n hx hb d_Mod_open_20 rfl (lv_at hl 0 rfl) ?_
    refine x_get C hI (d := 31) (by decide) (xE31 V _) fd_Mod_80 rfl d_Mod_open_21 ?_
    refine lv_iconst (v := 0) hx hb d_Mod_open_24 (by decide) ?_
    obtain ⟨i2, h⟩ := h
    refine x_iast C hI (d := 51) (by decide) (xE51 V) i2 d_Mod_open_25 (fun H locs hI => ?_)
    refine lv_aload_n hx hb d_Mod_open_26 rfl (lv_at hl 0 rfl) ?_
    refine x_get C hI (d := 31) (by decide) (xE31 V _) fd_Mod_50 rfl d_Mod_open_27 ?_
    refine lv_aload_n hx hb d_Mod_open_30 rfl (lv_at hl 0 rfl) ?_
    refine x_get C hI (d := 31) (by decide) (xE31 V _) fd_Mod_80 rfl d_Mod_open_31 ?_
    refine lv_iconst (v := 0) hx hb d_Mod_open_34 (by decide) ?_
    obtain ⟨i3, h⟩ := h
    refine x_iast C hI (d := 53) (by decide) (xE53 V) i3 d_Mod_open_35 (fun H locs hI => ?_)
    refine lv_aload_n hx hb d_Mod_open_36 rfl (lv_at hl 0 rfl) ?_
    refine lv_dup hx hb d_Mod_open_37 rfl ?_
    refine x_get C hI (d := 31) (by decide) (xE31 V _) fd_Mod_80 rfl d_Mod_open_38 ?_
    refine lv_iconst (v := 1) hx hb d_Mod_open_41 (by decide) ?_
    refine lv_iadd hx hb d_Mod_open_42 ?_
    refine x_put C hI (d := 31) (by decide) (xE31 V _) (xP_31_13 V _ _) fw_Mod_80 (Nat.le_of_ble_eq_true rfl) d_Mod_open_43 (fun H locs hI => ?_)
    refine lv_aload_n hx hb d_Mod_open_46 rfl (lv_at hl 0 rfl) ?_
    refine x_get C hI (d := 31) (by decide) (xE31 V _) fd_Mod_80 rfl d_Mod_open_47 ?_
    refine lv_iconst (v := 1) hx hb d_Mod_open_50 (by decide) ?_
    refine lv_isub hx hb d_Mod_open_51 ?_
    exact x_iret C hlocks hr hI h d_Mod_open_52
  · have h := h.2 c1
    refine lv_iconst (v := (-1)) hx hb d_Mod_open_14 (by decide) ?_
    exact x_iret C hlocks hr hI h d_Mod_open_15
def y_Mod_close : MethodName := ⟨"RegionPoolModel", "close", "()I"⟩
abbrev cd_Mod_close : ByteArray := prog_12_method_13_code
theorem fd_Mod_97 : xFd R_Mod 97 10 19 := ⟨R_Mod, T_Mod, 32, rfl, in_Mod, by decide, xG_mem 1003 (by decide +kernel) (by decide +kernel)⟩
theorem fw_Mod_97 : xFw R_Mod 97 10 19 := ⟨R_Mod, T_Mod, 32, t_Mod, rfl, in_Mod, by decide, xG_mem 1003 (by decide +kernel) (by decide +kernel), tk_Mod, nm_Mod, rfl, by decide +kernel⟩
theorem xP_31_19 (V : xV) (f : Nat → Int32) (x : Int32) : xE V 31 (upd f 19 x) = .inr (10, [.int (f 0), .ref (V.2.2 40), .ref (V.2.2 41), .ref (V.2.2 42), .ref (V.2.2 43), .ref (V.2.2 44), .ref (V.2.2 45), .ref (V.2.2 46), .ref (V.2.2 47), .ref (V.2.2 48), .int (f 10), .ref (V.2.2 49), .ref (V.2.2 50), .int (f 13), .ref (V.2.2 51), .ref (V.2.2 52), .ref (V.2.2 53), .ref (V.2.2 54), .ref (V.2.2 55), .int (f 19), .ref (V.2.2 56), .int (f 21), .int (f 22), .int (f 23), .int (f 24), .int (f 25), .int (f 26), .ref (V.2.2 57), .ref (V.2.2 58), .ref (V.2.2 59), .ref (V.2.2 60), .int (f 31)].set 19 (.int x)) := rfl
theorem fd_Mod_41 : xFd R_Mod 41 10 12 := ⟨R_Mod, T_Mod, 32, rfl, in_Mod, by decide, xG_mem 996 (by decide +kernel) (by decide +kernel)⟩
theorem fd_Mod_47 : xFd R_Mod 47 10 15 := ⟨R_Mod, T_Mod, 32, rfl, in_Mod, by decide, xG_mem 999 (by decide +kernel) (by decide +kernel)⟩
theorem fd_Mod_7 : xFd R_Mod 7 10 1 := ⟨R_Mod, T_Mod, 32, rfl, in_Mod, by decide, xG_mem 985 (by decide +kernel) (by decide +kernel)⟩
theorem fd_Mod_19 : xFd R_Mod 19 10 4 := ⟨R_Mod, T_Mod, 32, rfl, in_Mod, by decide, xG_mem 988 (by decide +kernel) (by decide +kernel)⟩
def y_Mod_remove : MethodName := ⟨"RegionPoolModel", "remove", "(I)V"⟩
abbrev cd_Mod_remove : ByteArray := prog_12_method_12_code
theorem fd_Mod_38 : xFd R_Mod 38 10 11 := ⟨R_Mod, T_Mod, 32, rfl, in_Mod, by decide, xG_mem 995 (by decide +kernel) (by decide +kernel)⟩
theorem fd_Mod_22 : xFd R_Mod 22 10 5 := ⟨R_Mod, T_Mod, 32, rfl, in_Mod, by decide, xG_mem 989 (by decide +kernel) (by decide +kernel)⟩
def p_Mod_remove (x1 : Int32) (σ : xS) (Q : xS → Prop) : Prop :=
  (vp_in x1 640 ∧ (vp_in x1 640 ∧ (vp_in ((xu σ 40 x1.toNatClampNeg (-1)) 44 x1.toNatClampNeg) 640 ∧ Q (xu (xu σ 40 x1.toNatClampNeg (-1)) 49 ((xu σ 40 x1.toNatClampNeg (-1)) 44 x1.toNatClampNeg).toNatClampNeg (-1)))))
abbrev rm_Mod_remove : Room := { frames := 0, cells := 0, slots := 0, locals := 0 }
theorem d_Mod_remove_0 : decode cd_Mod_remove 0 = .ok (.aload_n 0, 1) := by decide +kernel
theorem d_Mod_remove_1 : decode cd_Mod_remove 1 = .ok (.getfield 7, 3) := by decide +kernel
theorem d_Mod_remove_4 : decode cd_Mod_remove 4 = .ok (.iload_n 1, 1) := by decide +kernel
theorem d_Mod_remove_5 : decode cd_Mod_remove 5 = .ok (.iconst (-1), 1) := by decide +kernel
theorem d_Mod_remove_6 : decode cd_Mod_remove 6 = .ok (.iastore, 1) := by decide +kernel
theorem d_Mod_remove_7 : decode cd_Mod_remove 7 = .ok (.aload_n 0, 1) := by decide +kernel
theorem d_Mod_remove_8 : decode cd_Mod_remove 8 = .ok (.getfield 38, 3) := by decide +kernel
theorem d_Mod_remove_11 : decode cd_Mod_remove 11 = .ok (.aload_n 0, 1) := by decide +kernel
theorem d_Mod_remove_12 : decode cd_Mod_remove 12 = .ok (.getfield 22, 3) := by decide +kernel
theorem d_Mod_remove_15 : decode cd_Mod_remove 15 = .ok (.iload_n 1, 1) := by decide +kernel
theorem d_Mod_remove_16 : decode cd_Mod_remove 16 = .ok (.iaload, 1) := by decide +kernel
theorem d_Mod_remove_17 : decode cd_Mod_remove 17 = .ok (.iconst (-1), 1) := by decide +kernel
theorem d_Mod_remove_18 : decode cd_Mod_remove 18 = .ok (.iastore, 1) := by decide +kernel
theorem d_Mod_remove_19 : decode cd_Mod_remove 19 = .ok (.return_, 1) := by decide +kernel
set_option maxRecDepth 100000 in
set_option maxHeartbeats 4000000 in
theorem c_Mod_remove {l : Launch} {V : xV} {σ : xS} {x1 : Int32} {Q : xS → Prop} (h : p_Mod_remove x1 σ Q) : xMv l y_Mod_remove (.code y_Mod_remove cd_Mod_remove 2 none :: xG) rm_Mod_remove V [.ref (V.2.2 31), .int x1] σ Q := by
  refine x_beginv (by decide) (Nat.le_of_ble_eq_true rfl) (fun p e s m below meth c ls C hlocks hr hI hl => ?_)
  have C : xC p s m _ c cd_Mod_remove 2 R_Mod V := C
  have hx := C.1
  have hb := C.2.1
  have hl : lv_has ls 2 [(0, .ref (V.2.2 31)), (1, .int x1)] := hl
  unfold p_Mod_remove at h
  refine lv_aload_n hx hb d_Mod_remove_0 rfl (lv_at hl 0 rfl) ?_
  refine x_get C hI (d := 31) (by decide) (xE31 V _) fd_Mod_7 rfl d_Mod_remove_1 ?_
  refine lv_iload_n hx hb d_Mod_remove_4 rfl (lv_at hl 1 rfl) ?_
  refine lv_iconst (v := (-1)) hx hb d_Mod_remove_5 (by decide) ?_
  obtain ⟨i1, h⟩ := h
  refine x_iast C hI (d := 40) (by decide) (xE40 V) i1 d_Mod_remove_6 (fun H locs hI => ?_)
  refine lv_aload_n hx hb d_Mod_remove_7 rfl (lv_at hl 0 rfl) ?_
  refine x_get C hI (d := 31) (by decide) (xE31 V _) fd_Mod_38 rfl d_Mod_remove_8 ?_
  refine lv_aload_n hx hb d_Mod_remove_11 rfl (lv_at hl 0 rfl) ?_
  refine x_get C hI (d := 31) (by decide) (xE31 V _) fd_Mod_22 rfl d_Mod_remove_12 ?_
  refine lv_iload_n hx hb d_Mod_remove_15 rfl (lv_at hl 1 rfl) ?_
  obtain ⟨i2, h⟩ := h
  refine x_iald C hI (d := 44) (by decide) (xE44 V) i2 d_Mod_remove_16 ?_
  refine lv_iconst (v := (-1)) hx hb d_Mod_remove_17 (by decide) ?_
  obtain ⟨i3, h⟩ := h
  refine x_iast C hI (d := 49) (by decide) (xE49 V) i3 d_Mod_remove_18 (fun H locs hI => ?_)
  exact x_vret C hlocks hr hI h d_Mod_remove_19
theorem yw_Mod_remove : xY y_Mod_remove cd_Mod_remove 2 none 1 := ⟨xG_mem 1096 (by decide +kernel) (by decide +kernel), xG_mem 31 (by decide +kernel) (by decide +kernel), xG_mem 65 (by decide +kernel) (by decide +kernel), xG_mem 1097 (by decide +kernel) (by decide +kernel), by decide, by decide, by decide +kernel⟩
theorem ml_Mod_100 : Cond.methodLink R_Mod 100 y_Mod_remove ∈ xG := xG_mem 1094 (by decide +kernel) (by decide +kernel)
theorem fd_Mod_59 : xFd R_Mod 59 10 20 := ⟨R_Mod, T_Mod, 32, rfl, in_Mod, by decide, xG_mem 1004 (by decide +kernel) (by decide +kernel)⟩
theorem fd_Mod_53 : xFd R_Mod 53 10 17 := ⟨R_Mod, T_Mod, 32, rfl, in_Mod, by decide, xG_mem 1001 (by decide +kernel) (by decide +kernel)⟩
theorem fd_Mod_56 : xFd R_Mod 56 10 18 := ⟨R_Mod, T_Mod, 32, rfl, in_Mod, by decide, xG_mem 1002 (by decide +kernel) (by decide +kernel)⟩
def b_Mod_close_L169 (K169 : Int32 → Int32 → xS → Prop) (Q : Int32 → xS → Prop) (x1 x3 : Int32) (σ : xS) : Prop :=
  (vp_in x1 8 ∧ (((σ 51 x1.toNatClampNeg) ≤ x3 → (vp_in x1 8 ∧ Q ((xu σ 31 13 ((σ 31 13) - 1)) 51 x1.toNatClampNeg) (xu σ 31 13 ((σ 31 13) - 1)))) ∧ (¬ (σ 51 x1.toNatClampNeg) ≤ x3 → (vp_in ((40 * x1) + x3) 320 ∧ (vp_in (σ 52 ((40 * x1) + x3).toNatClampNeg) 40 ∧ (∀ z11 : Int32, z11 = x3 + 1 → K169 x1 z11 (xu σ 50 (σ 52 ((40 * x1) + x3).toNatClampNeg).toNatClampNeg (vp_nar .boolean 0))))))))
def p_Mod_close_L169 (Q : Int32 → xS → Prop) (n : Nat) : Int32 → Int32 → xS → Prop := Nat.rec (motive := fun _ => Int32 → Int32 → xS → Prop) (fun _ _ _ => False) (fun _ K x1 x3 σ => b_Mod_close_L169 K Q x1 x3 σ) n
def b_Mod_close_L129 (K129 : Int32 → Int32 → xS → Prop) (Q : Int32 → xS → Prop) (x1 x3 : Int32) (σ : xS) : Prop :=
  ((640 ≤ x3 → (∃ n, p_Mod_close_L169 Q n x1 0 σ)) ∧ (¬ 640 ≤ x3 → (vp_in x3 640 ∧ (((σ 40 x3.toNatClampNeg) = (-1) → (∀ z14 : Int32, z14 = x3 + 1 → K129 x1 z14 σ)) ∧ (¬ (σ 40 x3.toNatClampNeg) = (-1) → (vp_in x3 640 ∧ ((¬ (σ 43 x3.toNatClampNeg) = x1 → (∀ z17 : Int32, z17 = x3 + 1 → K129 x1 z17 σ)) ∧ ((σ 43 x3.toNatClampNeg) = x1 → p_Mod_remove x3 σ (fun σ18 => (∀ z19 : Int32, z19 = x3 + 1 → K129 x1 z19 σ18))))))))))
def p_Mod_close_L129 (Q : Int32 → xS → Prop) (n : Nat) : Int32 → Int32 → xS → Prop := Nat.rec (motive := fun _ => Int32 → Int32 → xS → Prop) (fun _ _ _ => False) (fun _ K x1 x3 σ => b_Mod_close_L129 K Q x1 x3 σ) n
def b_Mod_close_L78 (K78 : Int32 → Int32 → Int32 → xS → Prop) (Q : Int32 → xS → Prop) (x1 x2 x3 : Int32) (σ : xS) : Prop :=
  (((σ 31 19) ≤ x3 → (∃ n, p_Mod_close_L129 Q n x1 0 (xu σ 31 19 x2))) ∧ (¬ (σ 31 19) ≤ x3 → (vp_in x3 1400 ∧ (vp_in (σ 56 x3.toNatClampNeg) 640 ∧ (((σ 43 (σ 56 x3.toNatClampNeg).toNatClampNeg) = x1 → (∀ z23 : Int32, z23 = x3 + 1 → K78 x1 x2 z23 σ)) ∧ (¬ (σ 43 (σ 56 x3.toNatClampNeg).toNatClampNeg) = x1 → (vp_in x3 1400 ∧ (vp_in x2 1400 ∧ (∀ z26 : Int32, z26 = x2 + 1 → (∀ z27 : Int32, z27 = x3 + 1 → K78 x1 z26 z27 (xu σ 56 x2.toNatClampNeg (σ 56 x3.toNatClampNeg))))))))))))
def p_Mod_close_L78 (Q : Int32 → xS → Prop) (n : Nat) : Int32 → Int32 → Int32 → xS → Prop := Nat.rec (motive := fun _ => Int32 → Int32 → Int32 → xS → Prop) (fun _ _ _ _ => False) (fun _ K x1 x2 x3 σ => b_Mod_close_L78 K Q x1 x2 x3 σ) n
def b_Mod_close_L23 (K23 : Int32 → Int32 → xS → Prop) (Q : Int32 → xS → Prop) (x1 x2 : Int32) (σ : xS) : Prop :=
  ((16 ≤ x2 → (∃ n, p_Mod_close_L78 Q n x1 0 0 σ)) ∧ (¬ 16 ≤ x2 → (vp_in x2 16 ∧ ((¬ (σ 54 x2.toNatClampNeg) = 2 → (∀ z30 : Int32, z30 = x2 + 1 → K23 x1 z30 σ)) ∧ ((σ 54 x2.toNatClampNeg) = 2 → (vp_in x2 16 ∧ (vp_in (σ 55 x2.toNatClampNeg) 640 ∧ ((¬ (σ 43 (σ 55 x2.toNatClampNeg).toNatClampNeg) = x1 → (∀ z34 : Int32, z34 = x2 + 1 → K23 x1 z34 σ)) ∧ ((σ 43 (σ 55 x2.toNatClampNeg).toNatClampNeg) = x1 → (vp_in x2 16 ∧ (vp_in x2 16 ∧ (∀ z37 : Int32, z37 = x2 + 1 → K23 x1 z37 (xu (xu σ 54 x2.toNatClampNeg 0) 55 x2.toNatClampNeg 0)))))))))))))
def p_Mod_close_L23 (Q : Int32 → xS → Prop) (n : Nat) : Int32 → Int32 → xS → Prop := Nat.rec (motive := fun _ => Int32 → Int32 → xS → Prop) (fun _ _ _ => False) (fun _ K x1 x2 σ => b_Mod_close_L23 K Q x1 x2 σ) n
def p_Mod_close (σ : xS) (Q : Int32 → xS → Prop) : Prop :=
  ((¬ ((xu σ 31 0 0) 31 13) = 0 → (∀ z2 : Int32, z2 = (((xu σ 31 0 0) 31 13) - 1) → (∃ n, p_Mod_close_L23 Q n z2 0 (xu σ 31 0 0)))) ∧ (((xu σ 31 0 0) 31 13) = 0 → Q (-1) (xu σ 31 0 0)))
abbrev rm_Mod_close : Room := { frames := 1, cells := 0, slots := 0, locals := 21 }
theorem d_Mod_close_0 : decode cd_Mod_close 0 = .ok (.aload_n 0, 1) := by decide +kernel
theorem d_Mod_close_1 : decode cd_Mod_close 1 = .ok (.iconst 0, 1) := by decide +kernel
theorem d_Mod_close_2 : decode cd_Mod_close 2 = .ok (.putfield 76, 3) := by decide +kernel
theorem d_Mod_close_5 : decode cd_Mod_close 5 = .ok (.aload_n 0, 1) := by decide +kernel
theorem d_Mod_close_6 : decode cd_Mod_close 6 = .ok (.getfield 80, 3) := by decide +kernel
theorem d_Mod_close_9 : decode cd_Mod_close 9 = .ok (.ifCond .ne 5, 3) := by decide +kernel
theorem d_Mod_close_12 : decode cd_Mod_close 12 = .ok (.iconst (-1), 1) := by decide +kernel
theorem d_Mod_close_13 : decode cd_Mod_close 13 = .ok (.ireturn, 1) := by decide +kernel
theorem d_Mod_close_14 : decode cd_Mod_close 14 = .ok (.aload_n 0, 1) := by decide +kernel
theorem d_Mod_close_15 : decode cd_Mod_close 15 = .ok (.getfield 80, 3) := by decide +kernel
theorem d_Mod_close_18 : decode cd_Mod_close 18 = .ok (.iconst 1, 1) := by decide +kernel
theorem d_Mod_close_19 : decode cd_Mod_close 19 = .ok (.isub, 1) := by decide +kernel
theorem d_Mod_close_20 : decode cd_Mod_close 20 = .ok (.istore_n 1, 1) := by decide +kernel
theorem d_Mod_close_21 : decode cd_Mod_close 21 = .ok (.iconst 0, 1) := by decide +kernel
theorem d_Mod_close_22 : decode cd_Mod_close 22 = .ok (.istore_n 2, 1) := by decide +kernel
theorem d_Mod_close_23 : decode cd_Mod_close 23 = .ok (.iload_n 2, 1) := by decide +kernel
theorem d_Mod_close_24 : decode cd_Mod_close 24 = .ok (.bipush 16, 2) := by decide +kernel
theorem d_Mod_close_26 : decode cd_Mod_close 26 = .ok (.if_icmp .ge 48, 3) := by decide +kernel
theorem d_Mod_close_29 : decode cd_Mod_close 29 = .ok (.aload_n 0, 1) := by decide +kernel
theorem d_Mod_close_30 : decode cd_Mod_close 30 = .ok (.getfield 53, 3) := by decide +kernel
theorem d_Mod_close_33 : decode cd_Mod_close 33 = .ok (.iload_n 2, 1) := by decide +kernel
theorem d_Mod_close_34 : decode cd_Mod_close 34 = .ok (.iaload, 1) := by decide +kernel
theorem d_Mod_close_35 : decode cd_Mod_close 35 = .ok (.iconst 2, 1) := by decide +kernel
theorem d_Mod_close_36 : decode cd_Mod_close 36 = .ok (.if_icmp .ne 32, 3) := by decide +kernel
theorem d_Mod_close_39 : decode cd_Mod_close 39 = .ok (.aload_n 0, 1) := by decide +kernel
theorem d_Mod_close_40 : decode cd_Mod_close 40 = .ok (.getfield 19, 3) := by decide +kernel
theorem d_Mod_close_43 : decode cd_Mod_close 43 = .ok (.aload_n 0, 1) := by decide +kernel
theorem d_Mod_close_44 : decode cd_Mod_close 44 = .ok (.getfield 56, 3) := by decide +kernel
theorem d_Mod_close_47 : decode cd_Mod_close 47 = .ok (.iload_n 2, 1) := by decide +kernel
theorem d_Mod_close_48 : decode cd_Mod_close 48 = .ok (.iaload, 1) := by decide +kernel
theorem d_Mod_close_49 : decode cd_Mod_close 49 = .ok (.iaload, 1) := by decide +kernel
theorem d_Mod_close_50 : decode cd_Mod_close 50 = .ok (.iload_n 1, 1) := by decide +kernel
theorem d_Mod_close_51 : decode cd_Mod_close 51 = .ok (.if_icmp .ne 17, 3) := by decide +kernel
theorem d_Mod_close_54 : decode cd_Mod_close 54 = .ok (.aload_n 0, 1) := by decide +kernel
theorem d_Mod_close_55 : decode cd_Mod_close 55 = .ok (.getfield 53, 3) := by decide +kernel
theorem d_Mod_close_58 : decode cd_Mod_close 58 = .ok (.iload_n 2, 1) := by decide +kernel
theorem d_Mod_close_59 : decode cd_Mod_close 59 = .ok (.iconst 0, 1) := by decide +kernel
theorem d_Mod_close_60 : decode cd_Mod_close 60 = .ok (.iastore, 1) := by decide +kernel
theorem d_Mod_close_61 : decode cd_Mod_close 61 = .ok (.aload_n 0, 1) := by decide +kernel
theorem d_Mod_close_62 : decode cd_Mod_close 62 = .ok (.getfield 56, 3) := by decide +kernel
theorem d_Mod_close_65 : decode cd_Mod_close 65 = .ok (.iload_n 2, 1) := by decide +kernel
theorem d_Mod_close_66 : decode cd_Mod_close 66 = .ok (.iconst 0, 1) := by decide +kernel
theorem d_Mod_close_67 : decode cd_Mod_close 67 = .ok (.iastore, 1) := by decide +kernel
theorem d_Mod_close_68 : decode cd_Mod_close 68 = .ok (.iinc 2 1, 3) := by decide +kernel
theorem d_Mod_close_71 : decode cd_Mod_close 71 = .ok (.goto (-48), 3) := by decide +kernel
theorem d_Mod_close_74 : decode cd_Mod_close 74 = .ok (.iconst 0, 1) := by decide +kernel
theorem d_Mod_close_75 : decode cd_Mod_close 75 = .ok (.istore_n 2, 1) := by decide +kernel
theorem d_Mod_close_76 : decode cd_Mod_close 76 = .ok (.iconst 0, 1) := by decide +kernel
theorem d_Mod_close_77 : decode cd_Mod_close 77 = .ok (.istore_n 3, 1) := by decide +kernel
theorem d_Mod_close_78 : decode cd_Mod_close 78 = .ok (.iload_n 3, 1) := by decide +kernel
theorem d_Mod_close_79 : decode cd_Mod_close 79 = .ok (.aload_n 0, 1) := by decide +kernel
theorem d_Mod_close_80 : decode cd_Mod_close 80 = .ok (.getfield 97, 3) := by decide +kernel
theorem d_Mod_close_83 : decode cd_Mod_close 83 = .ok (.if_icmp .ge 39, 3) := by decide +kernel
theorem d_Mod_close_86 : decode cd_Mod_close 86 = .ok (.aload_n 0, 1) := by decide +kernel
theorem d_Mod_close_87 : decode cd_Mod_close 87 = .ok (.getfield 19, 3) := by decide +kernel
theorem d_Mod_close_90 : decode cd_Mod_close 90 = .ok (.aload_n 0, 1) := by decide +kernel
theorem d_Mod_close_91 : decode cd_Mod_close 91 = .ok (.getfield 59, 3) := by decide +kernel
theorem d_Mod_close_94 : decode cd_Mod_close 94 = .ok (.iload_n 3, 1) := by decide +kernel
theorem d_Mod_close_95 : decode cd_Mod_close 95 = .ok (.iaload, 1) := by decide +kernel
theorem d_Mod_close_96 : decode cd_Mod_close 96 = .ok (.iaload, 1) := by decide +kernel
theorem d_Mod_close_97 : decode cd_Mod_close 97 = .ok (.iload_n 1, 1) := by decide +kernel
theorem d_Mod_close_98 : decode cd_Mod_close 98 = .ok (.if_icmp .eq 18, 3) := by decide +kernel
theorem d_Mod_close_101 : decode cd_Mod_close 101 = .ok (.aload_n 0, 1) := by decide +kernel
theorem d_Mod_close_102 : decode cd_Mod_close 102 = .ok (.getfield 59, 3) := by decide +kernel
theorem d_Mod_close_105 : decode cd_Mod_close 105 = .ok (.iload_n 2, 1) := by decide +kernel
theorem d_Mod_close_106 : decode cd_Mod_close 106 = .ok (.aload_n 0, 1) := by decide +kernel
theorem d_Mod_close_107 : decode cd_Mod_close 107 = .ok (.getfield 59, 3) := by decide +kernel
theorem d_Mod_close_110 : decode cd_Mod_close 110 = .ok (.iload_n 3, 1) := by decide +kernel
theorem d_Mod_close_111 : decode cd_Mod_close 111 = .ok (.iaload, 1) := by decide +kernel
theorem d_Mod_close_112 : decode cd_Mod_close 112 = .ok (.iastore, 1) := by decide +kernel
theorem d_Mod_close_113 : decode cd_Mod_close 113 = .ok (.iinc 2 1, 3) := by decide +kernel
theorem d_Mod_close_116 : decode cd_Mod_close 116 = .ok (.iinc 3 1, 3) := by decide +kernel
theorem d_Mod_close_119 : decode cd_Mod_close 119 = .ok (.goto (-41), 3) := by decide +kernel
theorem d_Mod_close_122 : decode cd_Mod_close 122 = .ok (.aload_n 0, 1) := by decide +kernel
theorem d_Mod_close_123 : decode cd_Mod_close 123 = .ok (.iload_n 2, 1) := by decide +kernel
theorem d_Mod_close_124 : decode cd_Mod_close 124 = .ok (.putfield 97, 3) := by decide +kernel
theorem d_Mod_close_127 : decode cd_Mod_close 127 = .ok (.iconst 0, 1) := by decide +kernel
theorem d_Mod_close_128 : decode cd_Mod_close 128 = .ok (.istore_n 3, 1) := by decide +kernel
theorem d_Mod_close_129 : decode cd_Mod_close 129 = .ok (.iload_n 3, 1) := by decide +kernel
theorem d_Mod_close_130 : decode cd_Mod_close 130 = .ok (.sipush 640, 3) := by decide +kernel
theorem d_Mod_close_133 : decode cd_Mod_close 133 = .ok (.if_icmp .ge 34, 3) := by decide +kernel
theorem d_Mod_close_136 : decode cd_Mod_close 136 = .ok (.aload_n 0, 1) := by decide +kernel
theorem d_Mod_close_137 : decode cd_Mod_close 137 = .ok (.getfield 7, 3) := by decide +kernel
theorem d_Mod_close_140 : decode cd_Mod_close 140 = .ok (.iload_n 3, 1) := by decide +kernel
theorem d_Mod_close_141 : decode cd_Mod_close 141 = .ok (.iaload, 1) := by decide +kernel
theorem d_Mod_close_142 : decode cd_Mod_close 142 = .ok (.iconst (-1), 1) := by decide +kernel
theorem d_Mod_close_143 : decode cd_Mod_close 143 = .ok (.if_icmp .eq 18, 3) := by decide +kernel
theorem d_Mod_close_146 : decode cd_Mod_close 146 = .ok (.aload_n 0, 1) := by decide +kernel
theorem d_Mod_close_147 : decode cd_Mod_close 147 = .ok (.getfield 19, 3) := by decide +kernel
theorem d_Mod_close_150 : decode cd_Mod_close 150 = .ok (.iload_n 3, 1) := by decide +kernel
theorem d_Mod_close_151 : decode cd_Mod_close 151 = .ok (.iaload, 1) := by decide +kernel
theorem d_Mod_close_152 : decode cd_Mod_close 152 = .ok (.iload_n 1, 1) := by decide +kernel
theorem d_Mod_close_153 : decode cd_Mod_close 153 = .ok (.if_icmp .ne 8, 3) := by decide +kernel
theorem d_Mod_close_156 : decode cd_Mod_close 156 = .ok (.aload_n 0, 1) := by decide +kernel
theorem d_Mod_close_157 : decode cd_Mod_close 157 = .ok (.iload_n 3, 1) := by decide +kernel
theorem d_Mod_close_158 : decode cd_Mod_close 158 = .ok (.invokevirtual 100, 3) := by decide +kernel
theorem d_Mod_close_161 : decode cd_Mod_close 161 = .ok (.iinc 3 1, 3) := by decide +kernel
theorem d_Mod_close_164 : decode cd_Mod_close 164 = .ok (.goto (-35), 3) := by decide +kernel
theorem d_Mod_close_167 : decode cd_Mod_close 167 = .ok (.iconst 0, 1) := by decide +kernel
theorem d_Mod_close_168 : decode cd_Mod_close 168 = .ok (.istore_n 3, 1) := by decide +kernel
theorem d_Mod_close_169 : decode cd_Mod_close 169 = .ok (.iload_n 3, 1) := by decide +kernel
theorem d_Mod_close_170 : decode cd_Mod_close 170 = .ok (.aload_n 0, 1) := by decide +kernel
theorem d_Mod_close_171 : decode cd_Mod_close 171 = .ok (.getfield 44, 3) := by decide +kernel
theorem d_Mod_close_174 : decode cd_Mod_close 174 = .ok (.iload_n 1, 1) := by decide +kernel
theorem d_Mod_close_175 : decode cd_Mod_close 175 = .ok (.iaload, 1) := by decide +kernel
theorem d_Mod_close_176 : decode cd_Mod_close 176 = .ok (.if_icmp .ge 26, 3) := by decide +kernel
theorem d_Mod_close_179 : decode cd_Mod_close 179 = .ok (.aload_n 0, 1) := by decide +kernel
theorem d_Mod_close_180 : decode cd_Mod_close 180 = .ok (.getfield 41, 3) := by decide +kernel
theorem d_Mod_close_183 : decode cd_Mod_close 183 = .ok (.aload_n 0, 1) := by decide +kernel
theorem d_Mod_close_184 : decode cd_Mod_close 184 = .ok (.getfield 47, 3) := by decide +kernel
theorem d_Mod_close_187 : decode cd_Mod_close 187 = .ok (.bipush 40, 2) := by decide +kernel
theorem d_Mod_close_189 : decode cd_Mod_close 189 = .ok (.iload_n 1, 1) := by decide +kernel
theorem d_Mod_close_190 : decode cd_Mod_close 190 = .ok (.imul, 1) := by decide +kernel
theorem d_Mod_close_191 : decode cd_Mod_close 191 = .ok (.iload_n 3, 1) := by decide +kernel
theorem d_Mod_close_192 : decode cd_Mod_close 192 = .ok (.iadd, 1) := by decide +kernel
theorem d_Mod_close_193 : decode cd_Mod_close 193 = .ok (.iaload, 1) := by decide +kernel
theorem d_Mod_close_194 : decode cd_Mod_close 194 = .ok (.iconst 0, 1) := by decide +kernel
theorem d_Mod_close_195 : decode cd_Mod_close 195 = .ok (.bastore, 1) := by decide +kernel
theorem d_Mod_close_196 : decode cd_Mod_close 196 = .ok (.iinc 3 1, 3) := by decide +kernel
theorem d_Mod_close_199 : decode cd_Mod_close 199 = .ok (.goto (-30), 3) := by decide +kernel
theorem d_Mod_close_202 : decode cd_Mod_close 202 = .ok (.aload_n 0, 1) := by decide +kernel
theorem d_Mod_close_203 : decode cd_Mod_close 203 = .ok (.dup, 1) := by decide +kernel
theorem d_Mod_close_204 : decode cd_Mod_close 204 = .ok (.getfield 80, 3) := by decide +kernel
theorem d_Mod_close_207 : decode cd_Mod_close 207 = .ok (.iconst 1, 1) := by decide +kernel
theorem d_Mod_close_208 : decode cd_Mod_close 208 = .ok (.isub, 1) := by decide +kernel
theorem d_Mod_close_209 : decode cd_Mod_close 209 = .ok (.putfield 80, 3) := by decide +kernel
theorem d_Mod_close_212 : decode cd_Mod_close 212 = .ok (.aload_n 0, 1) := by decide +kernel
theorem d_Mod_close_213 : decode cd_Mod_close 213 = .ok (.getfield 44, 3) := by decide +kernel
theorem d_Mod_close_216 : decode cd_Mod_close 216 = .ok (.iload_n 1, 1) := by decide +kernel
theorem d_Mod_close_217 : decode cd_Mod_close 217 = .ok (.iaload, 1) := by decide +kernel
theorem d_Mod_close_218 : decode cd_Mod_close 218 = .ok (.ireturn, 1) := by decide +kernel
set_option maxRecDepth 100000 in
set_option maxHeartbeats 4000000 in
theorem s_Mod_close_L169 {p : Program} {l : Launch} {e : Env} {s : State} {m : MethodId} {args : Array Value} {below : List Frame} {meth : Method} {c : Code} {V : xV} (C : xC p s m args c cd_Mod_close 4 R_Mod V) (hlocks : meth.locks = false) (hr : meth.sig.returnType = (some .int)) {Q : Int32 → xS → Prop} {K169 : Int32 → Int32 → xS → Prop} (hK169 : ∀ (x1 : Int32) (x3 : Int32) (σ : xS) (H : Heap) (locs : List Loc) (ls : Array Slot), K169 x1 x3 σ → xI V s.heap σ H locs → lv_has ls 4 [(0, .ref (V.2.2 31)), (1, .int x1), (3, .int x3)] → W p l e rm_Mod_close s m args below meth c H locs 0 0 (xZi below V args s Q) (F0 m 169 ls [])) {x1 x3 : Int32} {σ : xS} {H : Heap} {locs : List Loc} {ls : Array Slot} (h : b_Mod_close_L169 K169 Q x1 x3 σ) (hI : xI V s.heap σ H locs) (hl : lv_has ls 4 [(0, .ref (V.2.2 31)), (1, .int x1), (3, .int x3)]) : W p l e rm_Mod_close s m args below meth c H locs 0 0 (xZi below V args s Q) (F0 m 169 ls []) := by
  have hx := C.1
  have hb := C.2.1
  unfold b_Mod_close_L169 at h
  refine lv_iload_n hx hb d_Mod_close_169 rfl (lv_at hl 2 rfl) ?_
  refine lv_aload_n hx hb d_Mod_close_170 rfl (lv_at hl 0 rfl) ?_
  refine x_get C hI (d := 31) (by decide) (xE31 V _) fd_Mod_44 rfl d_Mod_close_171 ?_
  refine lv_iload_n hx hb d_Mod_close_174 rfl (lv_at hl 1 rfl) ?_
  obtain ⟨i6, h⟩ := h
  refine x_iald C hI (d := 51) (by decide) (xE51 V) i6 d_Mod_close_175 ?_
  refine lv_icmp_ge (tgt := 202) hx hb d_Mod_close_176 (by decide) (fun c7 => ?_) (fun c7 => ?_)
  · have h := h.1 c7
    refine lv_aload_n hx hb d_Mod_close_202 rfl (lv_at hl 0 rfl) ?_
    refine lv_dup hx hb d_Mod_close_203 rfl ?_
    refine x_get C hI (d := 31) (by decide) (xE31 V _) fd_Mod_80 rfl d_Mod_close_204 ?_
    refine lv_iconst (v := 1) hx hb d_Mod_close_207 (by decide) ?_
    refine lv_isub hx hb d_Mod_close_208 ?_
    refine x_put C hI (d := 31) (by decide) (xE31 V _) (xP_31_13 V _ _) fw_Mod_80 (Nat.le_of_ble_eq_true rfl) d_Mod_close_209 (fun H locs hI => ?_)
    refine lv_aload_n hx hb d_Mod_close_212 rfl (lv_at hl 0 rfl) ?_
    refine x_get C hI (d := 31) (by decide) (xE31 V _) fd_Mod_44 rfl d_Mod_close_213 ?_
    refine lv_iload_n hx hb d_Mod_close_216 rfl (lv_at hl 1 rfl) ?_
    obtain ⟨i8, h⟩ := h
    refine x_iald C hI (d := 51) (by decide) (xE51 V) i8 d_Mod_close_217 ?_
    exact x_iret C hlocks hr hI h d_Mod_close_218
  · have h := h.2 c7
    refine lv_aload_n hx hb d_Mod_close_179 rfl (lv_at hl 0 rfl) ?_
    refine x_get C hI (d := 31) (by decide) (xE31 V _) fd_Mod_41 rfl d_Mod_close_180 ?_
    refine lv_aload_n hx hb d_Mod_close_183 rfl (lv_at hl 0 rfl) ?_
    refine x_get C hI (d := 31) (by decide) (xE31 V _) fd_Mod_47 rfl d_Mod_close_184 ?_
    refine lv_bipush (v := 40) hx hb d_Mod_close_187 (by decide) ?_
    refine lv_iload_n hx hb d_Mod_close_189 rfl (lv_at hl 1 rfl) ?_
    refine lv_imul hx hb d_Mod_close_190 ?_
    refine lv_iload_n hx hb d_Mod_close_191 rfl (lv_at hl 2 rfl) ?_
    refine lv_iadd hx hb d_Mod_close_192 ?_
    obtain ⟨i9, h⟩ := h
    refine x_iald C hI (d := 52) (by decide) (xE52 V) i9 d_Mod_close_193 ?_
    refine lv_iconst (v := 0) hx hb d_Mod_close_194 (by decide) ?_
    obtain ⟨i10, h⟩ := h
    refine x_zast C hI (d := 50) (by decide) (xE50 V) i10 d_Mod_close_195 (fun H locs hI => ?_)
    obtain ⟨z11, ez11⟩ : ∃ y : Int32, y = x3 + 1 := ⟨_, rfl⟩
    have h := h z11 ez11
    refine lv_iinc (v := z11) (lv' := [(3, .int z11), (0, .ref (V.2.2 31)), (1, .int x1)]) hx hb d_Mod_close_196 hl (k := 2) rfl (by rw [ez11]; rfl) (by decide) rfl (fun ls hl => ?_)
    refine lv_goto (tgt := 169) hx hb d_Mod_close_199 (by decide) ?_
    exact hK169 _ _ _ _ _ _ h hI (lv_sub hl [1, 2, 0] rfl)
theorem w_Mod_close_L169 {p : Program} {l : Launch} {e : Env} {s : State} {m : MethodId} {args : Array Value} {below : List Frame} {meth : Method} {c : Code} {V : xV} (C : xC p s m args c cd_Mod_close 4 R_Mod V) (hlocks : meth.locks = false) (hr : meth.sig.returnType = (some .int)) {Q : Int32 → xS → Prop} : ∀ (n : Nat) (x1 : Int32) (x3 : Int32) (σ : xS) (H : Heap) (locs : List Loc) (ls : Array Slot), p_Mod_close_L169 Q n x1 x3 σ → xI V s.heap σ H locs → lv_has ls 4 [(0, .ref (V.2.2 31)), (1, .int x1), (3, .int x3)] → W p l e rm_Mod_close s m args below meth c H locs 0 0 (xZi below V args s Q) (F0 m 169 ls []) := by
  intro n
  induction n with
  | zero =>
    intro x1 x3 σ H locs ls h
    exact False.elim h
  | succ n ih =>
    intro x1 x3 σ H locs ls h hI hl
    exact s_Mod_close_L169 C hlocks hr (K169 := p_Mod_close_L169 Q n) (fun x1 x3 σ H locs ls h hI hl => ih x1 x3 σ H locs ls h hI hl) h hI hl
set_option maxRecDepth 100000 in
set_option maxHeartbeats 4000000 in
theorem s_Mod_close_L129 {p : Program} {l : Launch} {e : Env} {s : State} {m : MethodId} {args : Array Value} {below : List Frame} {meth : Method} {c : Code} {V : xV} (C : xC p s m args c cd_Mod_close 4 R_Mod V) (hlocks : meth.locks = false) (hr : meth.sig.returnType = (some .int)) {Q : Int32 → xS → Prop} {K129 : Int32 → Int32 → xS → Prop} (hK129 : ∀ (x1 : Int32) (x3 : Int32) (σ : xS) (H : Heap) (locs : List Loc) (ls : Array Slot), K129 x1 x3 σ → xI V s.heap σ H locs → lv_has ls 4 [(0, .ref (V.2.2 31)), (1, .int x1), (3, .int x3)] → W p l e rm_Mod_close s m args below meth c H locs 0 0 (xZi below V args s Q) (F0 m 129 ls [])) {x1 x3 : Int32} {σ : xS} {H : Heap} {locs : List Loc} {ls : Array Slot} (h : b_Mod_close_L129 K129 Q x1 x3 σ) (hI : xI V s.heap σ H locs) (hl : lv_has ls 4 [(0, .ref (V.2.2 31)), (1, .int x1), (3, .int x3)]) : W p l e rm_Mod_close s m args below meth c H locs 0 0 (xZi below V args s Q) (F0 m 129 ls []) := by
  have hx := C.1
  have hb := C.2.1
  unfold b_Mod_close_L129 at h
  refine lv_iload_n hx hb d_Mod_close_129 rfl (lv_at hl 2 rfl) ?_
  refine lv_sipush (v := 640) hx hb d_Mod_close_130 (by decide) ?_
  refine lv_icmp_ge (tgt := 167) hx hb d_Mod_close_133 (by decide) (fun c5 => ?_) (fun c5 => ?_)
  · have h := h.1 c5
    refine lv_iconst (v := 0) hx hb d_Mod_close_167 (by decide) ?_
    refine lv_istore_n (lv' := [(3, .int 0), (0, .ref (V.2.2 31)), (1, .int x1)]) hx hb d_Mod_close_168 rfl hl (by decide) rfl (fun ls hl => ?_)
    obtain ⟨n, h⟩ := h
    exact w_Mod_close_L169 C hlocks hr n _ _ _ _ _ _ h hI (lv_sub hl [1, 2, 0] rfl)
  · have h := h.2 c5
    refine lv_aload_n hx hb d_Mod_close_136 rfl (lv_at hl 0 rfl) ?_
    refine x_get C hI (d := 31) (by decide) (xE31 V _) fd_Mod_7 rfl d_Mod_close_137 ?_
    refine lv_iload_n hx hb d_Mod_close_140 rfl (lv_at hl 2 rfl) ?_
    obtain ⟨i12, h⟩ := h
    refine x_iald C hI (d := 40) (by decide) (xE40 V) i12 d_Mod_close_141 ?_
    refine lv_iconst (v := (-1)) hx hb d_Mod_close_142 (by decide) ?_
    refine lv_icmp_eq (tgt := 161) hx hb d_Mod_close_143 (by decide) (fun c13 => ?_) (fun c13 => ?_)
    · have h := h.1 c13
      obtain ⟨z14, ez14⟩ : ∃ y : Int32, y = x3 + 1 := ⟨_, rfl⟩
      have h := h z14 ez14
      refine lv_iinc (v := z14) (lv' := [(3, .int z14), (0, .ref (V.2.2 31)), (1, .int x1)]) hx hb d_Mod_close_161 hl (k := 2) rfl (by rw [ez14]; rfl) (by decide) rfl (fun ls hl => ?_)
      refine lv_goto (tgt := 129) hx hb d_Mod_close_164 (by decide) ?_
      exact hK129 _ _ _ _ _ _ h hI (lv_sub hl [1, 2, 0] rfl)
    · have h := h.2 c13
      refine lv_aload_n hx hb d_Mod_close_146 rfl (lv_at hl 0 rfl) ?_
      refine x_get C hI (d := 31) (by decide) (xE31 V _) fd_Mod_19 rfl d_Mod_close_147 ?_
      refine lv_iload_n hx hb d_Mod_close_150 rfl (lv_at hl 2 rfl) ?_
      obtain ⟨i15, h⟩ := h
      refine x_iald C hI (d := 43) (by decide) (xE43 V) i15 d_Mod_close_151 ?_
      refine lv_iload_n hx hb d_Mod_close_152 rfl (lv_at hl 1 rfl) ?_
      refine lv_icmp_ne (tgt := 161) hx hb d_Mod_close_153 (by decide) (fun c16 => ?_) (fun c16 => ?_)
      · have h := h.1 c16
        obtain ⟨z17, ez17⟩ : ∃ y : Int32, y = x3 + 1 := ⟨_, rfl⟩
        have h := h z17 ez17
        refine lv_iinc (v := z17) (lv' := [(3, .int z17), (0, .ref (V.2.2 31)), (1, .int x1)]) hx hb d_Mod_close_161 hl (k := 2) rfl (by rw [ez17]; rfl) (by decide) rfl (fun ls hl => ?_)
        refine lv_goto (tgt := 129) hx hb d_Mod_close_164 (by decide) ?_
        exact hK129 _ _ _ _ _ _ h hI (lv_sub hl [1, 2, 0] rfl)
      · have h := h.2 c16
        refine lv_aload_n hx hb d_Mod_close_156 rfl (lv_at hl 0 rfl) ?_
        refine lv_iload_n hx hb d_Mod_close_157 rfl (lv_at hl 2 rfl) ?_
        refine x_callv C hI hl.1 (d := 31) (As := [.int x3]) (rest := []) (by decide) (c_Mod_remove h) (xE31 V _) rfl yw_Mod_remove ml_Mod_100 rfl rfl ⟨Nat.le_of_ble_eq_true rfl, Nat.le_of_ble_eq_true rfl⟩ rfl rfl (Nat.le_of_ble_eq_true rfl) d_Mod_close_158 ⟨Nat.zero_le _, Nat.zero_le _⟩ (fun σ18 H locs h hI => ?_)
        obtain ⟨z19, ez19⟩ : ∃ y : Int32, y = x3 + 1 := ⟨_, rfl⟩
        have h := h z19 ez19
        refine lv_iinc (v := z19) (lv' := [(3, .int z19), (0, .ref (V.2.2 31)), (1, .int x1)]) hx hb d_Mod_close_161 hl (k := 2) rfl (by rw [ez19]; rfl) (by decide) rfl (fun ls hl => ?_)
        refine lv_goto (tgt := 129) hx hb d_Mod_close_164 (by decide) ?_
        exact hK129 _ _ _ _ _ _ h hI (lv_sub hl [1, 2, 0] rfl)
theorem w_Mod_close_L129 {p : Program} {l : Launch} {e : Env} {s : State} {m : MethodId} {args : Array Value} {below : List Frame} {meth : Method} {c : Code} {V : xV} (C : xC p s m args c cd_Mod_close 4 R_Mod V) (hlocks : meth.locks = false) (hr : meth.sig.returnType = (some .int)) {Q : Int32 → xS → Prop} : ∀ (n : Nat) (x1 : Int32) (x3 : Int32) (σ : xS) (H : Heap) (locs : List Loc) (ls : Array Slot), p_Mod_close_L129 Q n x1 x3 σ → xI V s.heap σ H locs → lv_has ls 4 [(0, .ref (V.2.2 31)), (1, .int x1), (3, .int x3)] → W p l e rm_Mod_close s m args below meth c H locs 0 0 (xZi below V args s Q) (F0 m 129 ls []) := by
  intro n
  induction n with
  | zero =>
    intro x1 x3 σ H locs ls h
    exact False.elim h
  | succ n ih =>
    intro x1 x3 σ H locs ls h hI hl
    exact s_Mod_close_L129 C hlocks hr (K129 := p_Mod_close_L129 Q n) (fun x1 x3 σ H locs ls h hI hl => ih x1 x3 σ H locs ls h hI hl) h hI hl
set_option maxRecDepth 100000 in
set_option maxHeartbeats 4000000 in
theorem s_Mod_close_L78 {p : Program} {l : Launch} {e : Env} {s : State} {m : MethodId} {args : Array Value} {below : List Frame} {meth : Method} {c : Code} {V : xV} (C : xC p s m args c cd_Mod_close 4 R_Mod V) (hlocks : meth.locks = false) (hr : meth.sig.returnType = (some .int)) {Q : Int32 → xS → Prop} {K78 : Int32 → Int32 → Int32 → xS → Prop} (hK78 : ∀ (x1 : Int32) (x2 : Int32) (x3 : Int32) (σ : xS) (H : Heap) (locs : List Loc) (ls : Array Slot), K78 x1 x2 x3 σ → xI V s.heap σ H locs → lv_has ls 4 [(0, .ref (V.2.2 31)), (1, .int x1), (2, .int x2), (3, .int x3)] → W p l e rm_Mod_close s m args below meth c H locs 0 0 (xZi below V args s Q) (F0 m 78 ls [])) {x1 x2 x3 : Int32} {σ : xS} {H : Heap} {locs : List Loc} {ls : Array Slot} (h : b_Mod_close_L78 K78 Q x1 x2 x3 σ) (hI : xI V s.heap σ H locs) (hl : lv_has ls 4 [(0, .ref (V.2.2 31)), (1, .int x1), (2, .int x2), (3, .int x3)]) : W p l e rm_Mod_close s m args below meth c H locs 0 0 (xZi below V args s Q) (F0 m 78 ls []) := by
  have hx := C.1
  have hb := C.2.1
  unfold b_Mod_close_L78 at h
  refine lv_iload_n hx hb d_Mod_close_78 rfl (lv_at hl 3 rfl) ?_
  refine lv_aload_n hx hb d_Mod_close_79 rfl (lv_at hl 0 rfl) ?_
  refine x_get C hI (d := 31) (by decide) (xE31 V _) fd_Mod_97 rfl d_Mod_close_80 ?_
  refine lv_icmp_ge (tgt := 122) hx hb d_Mod_close_83 (by decide) (fun c4 => ?_) (fun c4 => ?_)
  · have h := h.1 c4
    refine lv_aload_n hx hb d_Mod_close_122 rfl (lv_at hl 0 rfl) ?_
    refine lv_iload_n hx hb d_Mod_close_123 rfl (lv_at hl 2 rfl) ?_
    refine x_put C hI (d := 31) (by decide) (xE31 V _) (xP_31_19 V _ _) fw_Mod_97 (Nat.le_of_ble_eq_true rfl) d_Mod_close_124 (fun H locs hI => ?_)
    refine lv_iconst (v := 0) hx hb d_Mod_close_127 (by decide) ?_
    refine lv_istore_n (lv' := [(3, .int 0), (0, .ref (V.2.2 31)), (1, .int x1), (2, .int x2)]) hx hb d_Mod_close_128 rfl hl (by decide) rfl (fun ls hl => ?_)
    obtain ⟨n, h⟩ := h
    exact w_Mod_close_L129 C hlocks hr n _ _ _ _ _ _ h hI (lv_sub hl [1, 2, 0] rfl)
  · have h := h.2 c4
    refine lv_aload_n hx hb d_Mod_close_86 rfl (lv_at hl 0 rfl) ?_
    refine x_get C hI (d := 31) (by decide) (xE31 V _) fd_Mod_19 rfl d_Mod_close_87 ?_
    refine lv_aload_n hx hb d_Mod_close_90 rfl (lv_at hl 0 rfl) ?_
    refine x_get C hI (d := 31) (by decide) (xE31 V _) fd_Mod_59 rfl d_Mod_close_91 ?_
    refine lv_iload_n hx hb d_Mod_close_94 rfl (lv_at hl 3 rfl) ?_
    obtain ⟨i20, h⟩ := h
    refine x_iald C hI (d := 56) (by decide) (xE56 V) i20 d_Mod_close_95 ?_
    obtain ⟨i21, h⟩ := h
    refine x_iald C hI (d := 43) (by decide) (xE43 V) i21 d_Mod_close_96 ?_
    refine lv_iload_n hx hb d_Mod_close_97 rfl (lv_at hl 1 rfl) ?_
    refine lv_icmp_eq (tgt := 116) hx hb d_Mod_close_98 (by decide) (fun c22 => ?_) (fun c22 => ?_)
    · have h := h.1 c22
      obtain ⟨z23, ez23⟩ : ∃ y : Int32, y = x3 + 1 := ⟨_, rfl⟩
      have h := h z23 ez23
      refine lv_iinc (v := z23) (lv' := [(3, .int z23), (0, .ref (V.2.2 31)), (1, .int x1), (2, .int x2)]) hx hb d_Mod_close_116 hl (k := 3) rfl (by rw [ez23]; rfl) (by decide) rfl (fun ls hl => ?_)
      refine lv_goto (tgt := 78) hx hb d_Mod_close_119 (by decide) ?_
      exact hK78 _ _ _ _ _ _ _ h hI (lv_sub hl [1, 2, 3, 0] rfl)
    · have h := h.2 c22
      refine lv_aload_n hx hb d_Mod_close_101 rfl (lv_at hl 0 rfl) ?_
      refine x_get C hI (d := 31) (by decide) (xE31 V _) fd_Mod_59 rfl d_Mod_close_102 ?_
      refine lv_iload_n hx hb d_Mod_close_105 rfl (lv_at hl 2 rfl) ?_
      refine lv_aload_n hx hb d_Mod_close_106 rfl (lv_at hl 0 rfl) ?_
      refine x_get C hI (d := 31) (by decide) (xE31 V _) fd_Mod_59 rfl d_Mod_close_107 ?_
      refine lv_iload_n hx hb d_Mod_close_110 rfl (lv_at hl 3 rfl) ?_
      obtain ⟨i24, h⟩ := h
      refine x_iald C hI (d := 56) (by decide) (xE56 V) i24 d_Mod_close_111 ?_
      obtain ⟨i25, h⟩ := h
      refine x_iast C hI (d := 56) (by decide) (xE56 V) i25 d_Mod_close_112 (fun H locs hI => ?_)
      obtain ⟨z26, ez26⟩ : ∃ y : Int32, y = x2 + 1 := ⟨_, rfl⟩
      have h := h z26 ez26
      refine lv_iinc (v := z26) (lv' := [(2, .int z26), (0, .ref (V.2.2 31)), (1, .int x1), (3, .int x3)]) hx hb d_Mod_close_113 hl (k := 2) rfl (by rw [ez26]; rfl) (by decide) rfl (fun ls hl => ?_)
      obtain ⟨z27, ez27⟩ : ∃ y : Int32, y = x3 + 1 := ⟨_, rfl⟩
      have h := h z27 ez27
      refine lv_iinc (v := z27) (lv' := [(3, .int z27), (2, .int z26), (0, .ref (V.2.2 31)), (1, .int x1)]) hx hb d_Mod_close_116 hl (k := 3) rfl (by rw [ez27]; rfl) (by decide) rfl (fun ls hl => ?_)
      refine lv_goto (tgt := 78) hx hb d_Mod_close_119 (by decide) ?_
      exact hK78 _ _ _ _ _ _ _ h hI (lv_sub hl [2, 3, 1, 0] rfl)
theorem w_Mod_close_L78 {p : Program} {l : Launch} {e : Env} {s : State} {m : MethodId} {args : Array Value} {below : List Frame} {meth : Method} {c : Code} {V : xV} (C : xC p s m args c cd_Mod_close 4 R_Mod V) (hlocks : meth.locks = false) (hr : meth.sig.returnType = (some .int)) {Q : Int32 → xS → Prop} : ∀ (n : Nat) (x1 : Int32) (x2 : Int32) (x3 : Int32) (σ : xS) (H : Heap) (locs : List Loc) (ls : Array Slot), p_Mod_close_L78 Q n x1 x2 x3 σ → xI V s.heap σ H locs → lv_has ls 4 [(0, .ref (V.2.2 31)), (1, .int x1), (2, .int x2), (3, .int x3)] → W p l e rm_Mod_close s m args below meth c H locs 0 0 (xZi below V args s Q) (F0 m 78 ls []) := by
  intro n
  induction n with
  | zero =>
    intro x1 x2 x3 σ H locs ls h
    exact False.elim h
  | succ n ih =>
    intro x1 x2 x3 σ H locs ls h hI hl
    exact s_Mod_close_L78 C hlocks hr (K78 := p_Mod_close_L78 Q n) (fun x1 x2 x3 σ H locs ls h hI hl => ih x1 x2 x3 σ H locs ls h hI hl) h hI hl
set_option maxRecDepth 100000 in
set_option maxHeartbeats 4000000 in
theorem s_Mod_close_L23 {p : Program} {l : Launch} {e : Env} {s : State} {m : MethodId} {args : Array Value} {below : List Frame} {meth : Method} {c : Code} {V : xV} (C : xC p s m args c cd_Mod_close 4 R_Mod V) (hlocks : meth.locks = false) (hr : meth.sig.returnType = (some .int)) {Q : Int32 → xS → Prop} {K23 : Int32 → Int32 → xS → Prop} (hK23 : ∀ (x1 : Int32) (x2 : Int32) (σ : xS) (H : Heap) (locs : List Loc) (ls : Array Slot), K23 x1 x2 σ → xI V s.heap σ H locs → lv_has ls 4 [(0, .ref (V.2.2 31)), (1, .int x1), (2, .int x2)] → W p l e rm_Mod_close s m args below meth c H locs 0 0 (xZi below V args s Q) (F0 m 23 ls [])) {x1 x2 : Int32} {σ : xS} {H : Heap} {locs : List Loc} {ls : Array Slot} (h : b_Mod_close_L23 K23 Q x1 x2 σ) (hI : xI V s.heap σ H locs) (hl : lv_has ls 4 [(0, .ref (V.2.2 31)), (1, .int x1), (2, .int x2)]) : W p l e rm_Mod_close s m args below meth c H locs 0 0 (xZi below V args s Q) (F0 m 23 ls []) := by
  have hx := C.1
  have hb := C.2.1
  unfold b_Mod_close_L23 at h
  refine lv_iload_n hx hb d_Mod_close_23 rfl (lv_at hl 2 rfl) ?_
  refine lv_bipush (v := 16) hx hb d_Mod_close_24 (by decide) ?_
  refine lv_icmp_ge (tgt := 74) hx hb d_Mod_close_26 (by decide) (fun c3 => ?_) (fun c3 => ?_)
  · have h := h.1 c3
    refine lv_iconst (v := 0) hx hb d_Mod_close_74 (by decide) ?_
    refine lv_istore_n (lv' := [(2, .int 0), (0, .ref (V.2.2 31)), (1, .int x1)]) hx hb d_Mod_close_75 rfl hl (by decide) rfl (fun ls hl => ?_)
    refine lv_iconst (v := 0) hx hb d_Mod_close_76 (by decide) ?_
    refine lv_istore_n (lv' := [(3, .int 0), (2, .int 0), (0, .ref (V.2.2 31)), (1, .int x1)]) hx hb d_Mod_close_77 rfl hl (by decide) rfl (fun ls hl => ?_)
    obtain ⟨n, h⟩ := h
    exact w_Mod_close_L78 C hlocks hr n _ _ _ _ _ _ _ h hI (lv_sub hl [2, 3, 1, 0] rfl)
  · have h := h.2 c3
    refine lv_aload_n hx hb d_Mod_close_29 rfl (lv_at hl 0 rfl) ?_
    refine x_get C hI (d := 31) (by decide) (xE31 V _) fd_Mod_53 rfl d_Mod_close_30 ?_
    refine lv_iload_n hx hb d_Mod_close_33 rfl (lv_at hl 2 rfl) ?_
    obtain ⟨i28, h⟩ := h
    refine x_iald C hI (d := 54) (by decide) (xE54 V) i28 d_Mod_close_34 ?_
    refine lv_iconst (v := 2) hx hb d_Mod_close_35 (by decide) ?_
    refine lv_icmp_ne (tgt := 68) hx hb d_Mod_close_36 (by decide) (fun c29 => ?_) (fun c29 => ?_)
    · have h := h.1 c29
      obtain ⟨z30, ez30⟩ : ∃ y : Int32, y = x2 + 1 := ⟨_, rfl⟩
      have h := h z30 ez30
      refine lv_iinc (v := z30) (lv' := [(2, .int z30), (0, .ref (V.2.2 31)), (1, .int x1)]) hx hb d_Mod_close_68 hl (k := 2) rfl (by rw [ez30]; rfl) (by decide) rfl (fun ls hl => ?_)
      refine lv_goto (tgt := 23) hx hb d_Mod_close_71 (by decide) ?_
      exact hK23 _ _ _ _ _ _ h hI (lv_sub hl [1, 2, 0] rfl)
    · have h := h.2 c29
      refine lv_aload_n hx hb d_Mod_close_39 rfl (lv_at hl 0 rfl) ?_
      refine x_get C hI (d := 31) (by decide) (xE31 V _) fd_Mod_19 rfl d_Mod_close_40 ?_
      refine lv_aload_n hx hb d_Mod_close_43 rfl (lv_at hl 0 rfl) ?_
      refine x_get C hI (d := 31) (by decide) (xE31 V _) fd_Mod_56 rfl d_Mod_close_44 ?_
      refine lv_iload_n hx hb d_Mod_close_47 rfl (lv_at hl 2 rfl) ?_
      obtain ⟨i31, h⟩ := h
      refine x_iald C hI (d := 55) (by decide) (xE55 V) i31 d_Mod_close_48 ?_
      obtain ⟨i32, h⟩ := h
      refine x_iald C hI (d := 43) (by decide) (xE43 V) i32 d_Mod_close_49 ?_
      refine lv_iload_n hx hb d_Mod_close_50 rfl (lv_at hl 1 rfl) ?_
      refine lv_icmp_ne (tgt := 68) hx hb d_Mod_close_51 (by decide) (fun c33 => ?_) (fun c33 => ?_)
      · have h := h.1 c33
        obtain ⟨z34, ez34⟩ : ∃ y : Int32, y = x2 + 1 := ⟨_, rfl⟩
        have h := h z34 ez34
        refine lv_iinc (v := z34) (lv' := [(2, .int z34), (0, .ref (V.2.2 31)), (1, .int x1)]) hx hb d_Mod_close_68 hl (k := 2) rfl (by rw [ez34]; rfl) (by decide) rfl (fun ls hl => ?_)
        refine lv_goto (tgt := 23) hx hb d_Mod_close_71 (by decide) ?_
        exact hK23 _ _ _ _ _ _ h hI (lv_sub hl [1, 2, 0] rfl)
      · have h := h.2 c33
        refine lv_aload_n hx hb d_Mod_close_54 rfl (lv_at hl 0 rfl) ?_
        refine x_get C hI (d := 31) (by decide) (xE31 V _) fd_Mod_53 rfl d_Mod_close_55 ?_
        refine lv_iload_n hx hb d_Mod_close_58 rfl (lv_at hl 2 rfl) ?_
        refine lv_iconst (v := 0) hx hb d_Mod_close_59 (by decide) ?_
        obtain ⟨i35, h⟩ := h
        refine x_iast C hI (d := 54) (by decide) (xE54 V) i35 d_Mod_close_60 (fun H locs hI => ?_)
        refine lv_aload_n hx hb d_Mod_close_61 rfl (lv_at hl 0 rfl) ?_
        refine x_get C hI (d := 31) (by decide) (xE31 V _) fd_Mod_56 rfl d_Mod_close_62 ?_
        refine lv_iload_n hx hb d_Mod_close_65 rfl (lv_at hl 2 rfl) ?_
        refine lv_iconst (v := 0) hx hb d_Mod_close_66 (by decide) ?_
        obtain ⟨i36, h⟩ := h
        refine x_iast C hI (d := 55) (by decide) (xE55 V) i36 d_Mod_close_67 (fun H locs hI => ?_)
        obtain ⟨z37, ez37⟩ : ∃ y : Int32, y = x2 + 1 := ⟨_, rfl⟩
        have h := h z37 ez37
        refine lv_iinc (v := z37) (lv' := [(2, .int z37), (0, .ref (V.2.2 31)), (1, .int x1)]) hx hb d_Mod_close_68 hl (k := 2) rfl (by rw [ez37]; rfl) (by decide) rfl (fun ls hl => ?_)
        refine lv_goto (tgt := 23) hx hb d_Mod_close_71 (by decide) ?_
        exact hK23 _ _ _ _ _ _ h hI (lv_sub hl [1, 2, 0] rfl)
theorem w_Mod_close_L23 {p : Program} {l : Launch} {e : Env} {s : State} {m : MethodId} {args : Array Value} {below : List Frame} {meth : Method} {c : Code} {V : xV} (C : xC p s m args c cd_Mod_close 4 R_Mod V) (hlocks : meth.locks = false) (hr : meth.sig.returnType = (some .int)) {Q : Int32 → xS → Prop} : ∀ (n : Nat) (x1 : Int32) (x2 : Int32) (σ : xS) (H : Heap) (locs : List Loc) (ls : Array Slot), p_Mod_close_L23 Q n x1 x2 σ → xI V s.heap σ H locs → lv_has ls 4 [(0, .ref (V.2.2 31)), (1, .int x1), (2, .int x2)] → W p l e rm_Mod_close s m args below meth c H locs 0 0 (xZi below V args s Q) (F0 m 23 ls []) := by
  intro n
  induction n with
  | zero =>
    intro x1 x2 σ H locs ls h
    exact False.elim h
  | succ n ih =>
    intro x1 x2 σ H locs ls h hI hl
    exact s_Mod_close_L23 C hlocks hr (K23 := p_Mod_close_L23 Q n) (fun x1 x2 σ H locs ls h hI hl => ih x1 x2 σ H locs ls h hI hl) h hI hl
set_option maxRecDepth 100000 in
set_option maxHeartbeats 4000000 in
theorem c_Mod_close {l : Launch} {V : xV} {σ : xS} {Q : Int32 → xS → Prop} (h : p_Mod_close σ Q) : xMi l y_Mod_close (.code y_Mod_close cd_Mod_close 4 (some .int) :: xG) rm_Mod_close V [.ref (V.2.2 31)] σ Q := by
  refine x_begini (by decide) (Nat.le_of_ble_eq_true rfl) (fun p e s m below meth c ls C hlocks hr hI hl => ?_)
  have C : xC p s m _ c cd_Mod_close 4 R_Mod V := C
  have hx := C.1
  have hb := C.2.1
  have hl : lv_has ls 4 [(0, .ref (V.2.2 31))] := hl
  unfold p_Mod_close at h
  refine lv_aload_n hx hb d_Mod_close_0 rfl (lv_at hl 0 rfl) ?_
  refine lv_iconst (v := 0) hx hb d_Mod_close_1 (by decide) ?_
  refine x_put C hI (d := 31) (by decide) (xE31 V _) (xP_31_0 V _ _) fw_Mod_76 (Nat.le_of_ble_eq_true rfl) d_Mod_close_2 (fun H locs hI => ?_)
  refine lv_aload_n hx hb d_Mod_close_5 rfl (lv_at hl 0 rfl) ?_
  refine x_get C hI (d := 31) (by decide) (xE31 V _) fd_Mod_80 rfl d_Mod_close_6 ?_
  refine lv_if_ne (tgt := 14) hx hb d_Mod_close_9 (by decide) (fun c1 => ?_) (fun c1 => ?_)
  · have h := h.1 c1
    refine lv_aload_n hx hb d_Mod_close_14 rfl (lv_at hl 0 rfl) ?_
    refine x_get C hI (d := 31) (by decide) (xE31 V _) fd_Mod_80 rfl d_Mod_close_15 ?_
    refine lv_iconst (v := 1) hx hb d_Mod_close_18 (by decide) ?_
    refine lv_isub hx hb d_Mod_close_19 ?_
    refine lv_topi (fun z2 ez2 => ?_)
    have h := h z2 ez2
    refine lv_istore_n (lv' := [(1, .int z2), (0, .ref (V.2.2 31))]) hx hb d_Mod_close_20 rfl hl (by decide) rfl (fun ls hl => ?_)
    refine lv_iconst (v := 0) hx hb d_Mod_close_21 (by decide) ?_
    refine lv_istore_n (lv' := [(2, .int 0), (1, .int z2), (0, .ref (V.2.2 31))]) hx hb d_Mod_close_22 rfl hl (by decide) rfl (fun ls hl => ?_)
    obtain ⟨n, h⟩ := h
    exact w_Mod_close_L23 C hlocks hr n _ _ _ _ _ _ h hI (lv_sub hl [2, 1, 0] rfl)
  · have h := h.2 c1
    refine lv_iconst (v := (-1)) hx hb d_Mod_close_12 (by decide) ?_
    exact x_iret C hlocks hr hI h d_Mod_close_13
