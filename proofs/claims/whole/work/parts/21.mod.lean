def y_Mod_collect : MethodName := ⟨"RegionPoolModel", "collect", "(I)I"⟩
abbrev cd_Mod_collect : ByteArray := prog_12_method_23_code
def y_Mod_isRegion : MethodName := ⟨"RegionPoolModel", "isRegion", "(I)Z"⟩
abbrev cd_Mod_isRegion : ByteArray := prog_12_method_5_code
def p_Mod_isRegion (x1 : Int32) (σ : xS) (Q : Int32 → xS → Prop) : Prop :=
  ((x1 < 0 → Q 0 σ) ∧ (¬ x1 < 0 → (((σ 31 13) ≤ x1 → Q 0 σ) ∧ (¬ (σ 31 13) ≤ x1 → Q 1 σ))))
abbrev rm_Mod_isRegion : Room := { frames := 0, cells := 0, slots := 0, locals := 0 }
theorem d_Mod_isRegion_0 : decode cd_Mod_isRegion 0 = .ok (.iload_n 1, 1) := by decide +kernel
theorem d_Mod_isRegion_1 : decode cd_Mod_isRegion 1 = .ok (.ifCond .lt 15, 3) := by decide +kernel
theorem d_Mod_isRegion_4 : decode cd_Mod_isRegion 4 = .ok (.iload_n 1, 1) := by decide +kernel
theorem d_Mod_isRegion_5 : decode cd_Mod_isRegion 5 = .ok (.aload_n 0, 1) := by decide +kernel
theorem d_Mod_isRegion_6 : decode cd_Mod_isRegion 6 = .ok (.getfield 80, 3) := by decide +kernel
theorem d_Mod_isRegion_9 : decode cd_Mod_isRegion 9 = .ok (.if_icmp .ge 7, 3) := by decide +kernel
theorem d_Mod_isRegion_12 : decode cd_Mod_isRegion 12 = .ok (.iconst 1, 1) := by decide +kernel
theorem d_Mod_isRegion_13 : decode cd_Mod_isRegion 13 = .ok (.goto 4, 3) := by decide +kernel
theorem d_Mod_isRegion_16 : decode cd_Mod_isRegion 16 = .ok (.iconst 0, 1) := by decide +kernel
theorem d_Mod_isRegion_17 : decode cd_Mod_isRegion 17 = .ok (.ireturn, 1) := by decide +kernel
set_option maxRecDepth 100000 in
set_option maxHeartbeats 4000000 in
theorem c_Mod_isRegion {l : Launch} {V : xV} {σ : xS} {x1 : Int32} {Q : Int32 → xS → Prop} (h : p_Mod_isRegion x1 σ Q) : xMi l y_Mod_isRegion (.code y_Mod_isRegion cd_Mod_isRegion 2 (some .boolean) :: xG) rm_Mod_isRegion V [.ref (V.2.2 31), .int x1] σ Q := by
  refine x_begini (by decide) (Nat.le_of_ble_eq_true rfl) (fun p e s m below meth c ls C hlocks hr hI hl => ?_)
  have C : xC p s m _ c cd_Mod_isRegion 2 R_Mod V := C
  have hx := C.1
  have hb := C.2.1
  have hl : lv_has ls 2 [(0, .ref (V.2.2 31)), (1, .int x1)] := hl
  unfold p_Mod_isRegion at h
  refine lv_iload_n hx hb d_Mod_isRegion_0 rfl (lv_at hl 1 rfl) ?_
  refine lv_if_lt (tgt := 16) hx hb d_Mod_isRegion_1 (by decide) (fun c1 => ?_) (fun c1 => ?_)
  · have h := h.1 c1
    refine lv_iconst (v := 0) hx hb d_Mod_isRegion_16 (by decide) ?_
    exact x_zret C hlocks hr hI ⟨rfl, h⟩ d_Mod_isRegion_17
  · have h := h.2 c1
    refine lv_iload_n hx hb d_Mod_isRegion_4 rfl (lv_at hl 1 rfl) ?_
    refine lv_aload_n hx hb d_Mod_isRegion_5 rfl (lv_at hl 0 rfl) ?_
    refine x_get C hI (d := 31) (by decide) (xE31 V _) fd_Mod_80 rfl d_Mod_isRegion_6 ?_
    refine lv_icmp_ge (tgt := 16) hx hb d_Mod_isRegion_9 (by decide) (fun c2 => ?_) (fun c2 => ?_)
    · have h := h.1 c2
      refine lv_iconst (v := 0) hx hb d_Mod_isRegion_16 (by decide) ?_
      exact x_zret C hlocks hr hI ⟨rfl, h⟩ d_Mod_isRegion_17
    · have h := h.2 c2
      refine lv_iconst (v := 1) hx hb d_Mod_isRegion_12 (by decide) ?_
      refine lv_goto (tgt := 17) hx hb d_Mod_isRegion_13 (by decide) ?_
      exact x_zret C hlocks hr hI ⟨rfl, h⟩ d_Mod_isRegion_17
theorem yw_Mod_isRegion : xY y_Mod_isRegion cd_Mod_isRegion 2 (some .boolean) 1 := ⟨xG_mem 1104 (by decide +kernel) (by decide +kernel), xG_mem 32 (by decide +kernel) (by decide +kernel), xG_mem 65 (by decide +kernel) (by decide +kernel), xG_mem 1105 (by decide +kernel) (by decide +kernel), by decide, by decide, by decide +kernel⟩
theorem ml_Mod_140 : Cond.methodLink R_Mod 140 y_Mod_isRegion ∈ xG := xG_mem 1102 (by decide +kernel) (by decide +kernel)
def y_Mod_goes : MethodName := ⟨"RegionPoolModel", "goes", "(ZZ)Z"⟩
abbrev cd_Mod_goes : ByteArray := prog_12_method_3_code
def p_Mod_goes_J18 (Q : Int32 → xS → Prop) (y0 : Int32) (σ : xS) : Prop :=
  ((¬ ((xu σ 31 0 y0) 31 0) = 0 → Q 0 (xu σ 31 0 y0)) ∧ (((xu σ 31 0 y0) 31 0) = 0 → Q 1 (xu σ 31 0 y0)))
def p_Mod_goes (x1 x2 : Int32) (σ : xS) (Q : Int32 → xS → Prop) : Prop :=
  ((¬ x1 = 0 → ((¬ x2 = 0 → p_Mod_goes_J18 Q 0 σ) ∧ (x2 = 0 → p_Mod_goes_J18 Q 2 σ))) ∧ (x1 = 0 → p_Mod_goes_J18 Q 1 σ))
abbrev rm_Mod_goes : Room := { frames := 0, cells := 0, slots := 0, locals := 0 }
theorem d_Mod_goes_0 : decode cd_Mod_goes 0 = .ok (.aload_n 0, 1) := by decide +kernel
theorem d_Mod_goes_1 : decode cd_Mod_goes 1 = .ok (.iload_n 1, 1) := by decide +kernel
theorem d_Mod_goes_2 : decode cd_Mod_goes 2 = .ok (.ifCond .ne 7, 3) := by decide +kernel
theorem d_Mod_goes_5 : decode cd_Mod_goes 5 = .ok (.iconst 1, 1) := by decide +kernel
theorem d_Mod_goes_6 : decode cd_Mod_goes 6 = .ok (.goto 12, 3) := by decide +kernel
theorem d_Mod_goes_9 : decode cd_Mod_goes 9 = .ok (.iload_n 2, 1) := by decide +kernel
theorem d_Mod_goes_10 : decode cd_Mod_goes 10 = .ok (.ifCond .ne 7, 3) := by decide +kernel
theorem d_Mod_goes_13 : decode cd_Mod_goes 13 = .ok (.iconst 2, 1) := by decide +kernel
theorem d_Mod_goes_14 : decode cd_Mod_goes 14 = .ok (.goto 4, 3) := by decide +kernel
theorem d_Mod_goes_17 : decode cd_Mod_goes 17 = .ok (.iconst 0, 1) := by decide +kernel
theorem d_Mod_goes_18 : decode cd_Mod_goes 18 = .ok (.putfield 76, 3) := by decide +kernel
theorem d_Mod_goes_21 : decode cd_Mod_goes 21 = .ok (.aload_n 0, 1) := by decide +kernel
theorem d_Mod_goes_22 : decode cd_Mod_goes 22 = .ok (.getfield 76, 3) := by decide +kernel
theorem d_Mod_goes_25 : decode cd_Mod_goes 25 = .ok (.ifCond .ne 7, 3) := by decide +kernel
theorem d_Mod_goes_28 : decode cd_Mod_goes 28 = .ok (.iconst 1, 1) := by decide +kernel
theorem d_Mod_goes_29 : decode cd_Mod_goes 29 = .ok (.goto 4, 3) := by decide +kernel
theorem d_Mod_goes_32 : decode cd_Mod_goes 32 = .ok (.iconst 0, 1) := by decide +kernel
theorem d_Mod_goes_33 : decode cd_Mod_goes 33 = .ok (.ireturn, 1) := by decide +kernel
set_option maxRecDepth 100000 in
set_option maxHeartbeats 4000000 in
theorem t_Mod_goes_J18 {p : Program} {l : Launch} {e : Env} {s : State} {m : MethodId} {args : Array Value} {below : List Frame} {meth : Method} {c : Code} {V : xV} (C : xC p s m args c cd_Mod_goes 3 R_Mod V) (hlocks : meth.locks = false) (hr : meth.sig.returnType = (some .boolean)) {Q : Int32 → xS → Prop} {y0 : Int32} {σ : xS} {H : Heap} {locs : List Loc} {ls : Array Slot} (h : p_Mod_goes_J18 Q y0 σ) (hI : xI V s.heap σ H locs) (hl : lv_has ls 3 [(0, .ref (V.2.2 31))]) : W p l e rm_Mod_goes s m args below meth c H locs 0 0 (xZi below V args s Q) (F0 m 18 ls [.int y0, .ref (V.2.2 31)]) := by
  have hx := C.1
  have hb := C.2.1
  unfold p_Mod_goes_J18 at h
  refine x_put C hI (d := 31) (by decide) (xE31 V _) (xP_31_0 V _ _) fw_Mod_76 (Nat.le_of_ble_eq_true rfl) d_Mod_goes_18 (fun H locs hI => ?_)
  refine lv_aload_n hx hb d_Mod_goes_21 rfl (lv_at hl 0 rfl) ?_
  refine x_get C hI (d := 31) (by decide) (xE31 V _) fd_Mod_76 rfl d_Mod_goes_22 ?_
  refine lv_if_ne (tgt := 32) hx hb d_Mod_goes_25 (by decide) (fun c3 => ?_) (fun c3 => ?_)
  · have h := h.1 c3
    refine lv_iconst (v := 0) hx hb d_Mod_goes_32 (by decide) ?_
    exact x_zret C hlocks hr hI ⟨rfl, h⟩ d_Mod_goes_33
  · have h := h.2 c3
    refine lv_iconst (v := 1) hx hb d_Mod_goes_28 (by decide) ?_
    refine lv_goto (tgt := 33) hx hb d_Mod_goes_29 (by decide) ?_
    exact x_zret C hlocks hr hI ⟨rfl, h⟩ d_Mod_goes_33
set_option maxRecDepth 100000 in
set_option maxHeartbeats 4000000 in
theorem c_Mod_goes {l : Launch} {V : xV} {σ : xS} {x1 x2 : Int32} {Q : Int32 → xS → Prop} (h : p_Mod_goes x1 x2 σ Q) : xMi l y_Mod_goes (.code y_Mod_goes cd_Mod_goes 3 (some .boolean) :: xG) rm_Mod_goes V [.ref (V.2.2 31), .int x1, .int x2] σ Q := by
  refine x_begini (by decide) (Nat.le_of_ble_eq_true rfl) (fun p e s m below meth c ls C hlocks hr hI hl => ?_)
  have C : xC p s m _ c cd_Mod_goes 3 R_Mod V := C
  have hx := C.1
  have hb := C.2.1
  have hl : lv_has ls 3 [(0, .ref (V.2.2 31)), (1, .int x1), (2, .int x2)] := hl
  unfold p_Mod_goes at h
  refine lv_aload_n hx hb d_Mod_goes_0 rfl (lv_at hl 0 rfl) ?_
  refine lv_iload_n hx hb d_Mod_goes_1 rfl (lv_at hl 1 rfl) ?_
  refine lv_if_ne (tgt := 9) hx hb d_Mod_goes_2 (by decide) (fun c1 => ?_) (fun c1 => ?_)
  · have h := h.1 c1
    refine lv_iload_n hx hb d_Mod_goes_9 rfl (lv_at hl 2 rfl) ?_
    refine lv_if_ne (tgt := 17) hx hb d_Mod_goes_10 (by decide) (fun c2 => ?_) (fun c2 => ?_)
    · have h := h.1 c2
      refine lv_iconst (v := 0) hx hb d_Mod_goes_17 (by decide) ?_
      exact t_Mod_goes_J18 C hlocks hr h hI (lv_sub hl [0] rfl)
    · have h := h.2 c2
      refine lv_iconst (v := 2) hx hb d_Mod_goes_13 (by decide) ?_
      refine lv_goto (tgt := 18) hx hb d_Mod_goes_14 (by decide) ?_
      exact t_Mod_goes_J18 C hlocks hr h hI (lv_sub hl [0] rfl)
  · have h := h.2 c1
    refine lv_iconst (v := 1) hx hb d_Mod_goes_5 (by decide) ?_
    refine lv_goto (tgt := 18) hx hb d_Mod_goes_6 (by decide) ?_
    exact t_Mod_goes_J18 C hlocks hr h hI (lv_sub hl [0] rfl)
theorem yw_Mod_goes : xY y_Mod_goes cd_Mod_goes 3 (some .boolean) 2 := ⟨xG_mem 1108 (by decide +kernel) (by decide +kernel), xG_mem 33 (by decide +kernel) (by decide +kernel), xG_mem 65 (by decide +kernel) (by decide +kernel), xG_mem 1109 (by decide +kernel) (by decide +kernel), by decide, by decide, by decide +kernel⟩
theorem ml_Mod_144 : Cond.methodLink R_Mod 144 y_Mod_goes ∈ xG := xG_mem 1106 (by decide +kernel) (by decide +kernel)
def y_Mod_collectFrom : MethodName := ⟨"RegionPoolModel", "collectFrom", "(I)I"⟩
abbrev cd_Mod_collectFrom : ByteArray := prog_12_method_21_code
def y_Mod_findLive : MethodName := ⟨"RegionPoolModel", "findLive", "(I)V"⟩
abbrev cd_Mod_findLive : ByteArray := prog_12_method_16_code
theorem fd_Mod_34 : xFd R_Mod 34 10 9 := ⟨R_Mod, T_Mod, 32, rfl, in_Mod, by decide, xG_mem 993 (by decide +kernel) (by decide +kernel)⟩
theorem fd_Mod_16 : xFd R_Mod 16 10 3 := ⟨R_Mod, T_Mod, 32, rfl, in_Mod, by decide, xG_mem 987 (by decide +kernel) (by decide +kernel)⟩
theorem fd_Mod_31 : xFd R_Mod 31 10 8 := ⟨R_Mod, T_Mod, 32, rfl, in_Mod, by decide, xG_mem 992 (by decide +kernel) (by decide +kernel)⟩
theorem fd_Mod_28 : xFd R_Mod 28 10 7 := ⟨R_Mod, T_Mod, 32, rfl, in_Mod, by decide, xG_mem 991 (by decide +kernel) (by decide +kernel)⟩
def y_Mod_holds : MethodName := ⟨"RegionPoolModel", "holds", "(II)Z"⟩
abbrev cd_Mod_holds : ByteArray := prog_12_method_15_code
def y_Mod_isLive : MethodName := ⟨"RegionPoolModel", "isLive", "(II)Z"⟩
abbrev cd_Mod_isLive : ByteArray := prog_12_method_14_code
def p_Mod_isLive (x1 x2 : Int32) (σ : xS) (Q : Int32 → xS → Prop) : Prop :=
  ((¬ x1 = 2 → Q 1 σ) ∧ (x1 = 2 → (vp_in x2 640 ∧ (((σ 48 x2.toNatClampNeg) = 0 → Q 0 σ) ∧ (¬ (σ 48 x2.toNatClampNeg) = 0 → Q 1 σ)))))
abbrev rm_Mod_isLive : Room := { frames := 0, cells := 0, slots := 0, locals := 0 }
theorem d_Mod_isLive_0 : decode cd_Mod_isLive 0 = .ok (.iload_n 1, 1) := by decide +kernel
theorem d_Mod_isLive_1 : decode cd_Mod_isLive 1 = .ok (.iconst 2, 1) := by decide +kernel
theorem d_Mod_isLive_2 : decode cd_Mod_isLive 2 = .ok (.if_icmp .ne 12, 3) := by decide +kernel
theorem d_Mod_isLive_5 : decode cd_Mod_isLive 5 = .ok (.aload_n 0, 1) := by decide +kernel
theorem d_Mod_isLive_6 : decode cd_Mod_isLive 6 = .ok (.getfield 34, 3) := by decide +kernel
theorem d_Mod_isLive_9 : decode cd_Mod_isLive 9 = .ok (.iload_n 2, 1) := by decide +kernel
theorem d_Mod_isLive_10 : decode cd_Mod_isLive 10 = .ok (.baload, 1) := by decide +kernel
theorem d_Mod_isLive_11 : decode cd_Mod_isLive 11 = .ok (.ifCond .eq 7, 3) := by decide +kernel
theorem d_Mod_isLive_14 : decode cd_Mod_isLive 14 = .ok (.iconst 1, 1) := by decide +kernel
theorem d_Mod_isLive_15 : decode cd_Mod_isLive 15 = .ok (.goto 4, 3) := by decide +kernel
theorem d_Mod_isLive_18 : decode cd_Mod_isLive 18 = .ok (.iconst 0, 1) := by decide +kernel
theorem d_Mod_isLive_19 : decode cd_Mod_isLive 19 = .ok (.ireturn, 1) := by decide +kernel
set_option maxRecDepth 100000 in
set_option maxHeartbeats 4000000 in
theorem c_Mod_isLive {l : Launch} {V : xV} {σ : xS} {x1 x2 : Int32} {Q : Int32 → xS → Prop} (h : p_Mod_isLive x1 x2 σ Q) : xMi l y_Mod_isLive (.code y_Mod_isLive cd_Mod_isLive 3 (some .boolean) :: xG) rm_Mod_isLive V [.ref (V.2.2 31), .int x1, .int x2] σ Q := by
  refine x_begini (by decide) (Nat.le_of_ble_eq_true rfl) (fun p e s m below meth c ls C hlocks hr hI hl => ?_)
  have C : xC p s m _ c cd_Mod_isLive 3 R_Mod V := C
  have hx := C.1
  have hb := C.2.1
  have hl : lv_has ls 3 [(0, .ref (V.2.2 31)), (1, .int x1), (2, .int x2)] := hl
  unfold p_Mod_isLive at h
  refine lv_iload_n hx hb d_Mod_isLive_0 rfl (lv_at hl 1 rfl) ?_
  refine lv_iconst (v := 2) hx hb d_Mod_isLive_1 (by decide) ?_
  refine lv_icmp_ne (tgt := 14) hx hb d_Mod_isLive_2 (by decide) (fun c1 => ?_) (fun c1 => ?_)
  · have h := h.1 c1
    refine lv_iconst (v := 1) hx hb d_Mod_isLive_14 (by decide) ?_
    refine lv_goto (tgt := 19) hx hb d_Mod_isLive_15 (by decide) ?_
    exact x_zret C hlocks hr hI ⟨rfl, h⟩ d_Mod_isLive_19
  · have h := h.2 c1
    refine lv_aload_n hx hb d_Mod_isLive_5 rfl (lv_at hl 0 rfl) ?_
    refine x_get C hI (d := 31) (by decide) (xE31 V _) fd_Mod_34 rfl d_Mod_isLive_6 ?_
    refine lv_iload_n hx hb d_Mod_isLive_9 rfl (lv_at hl 2 rfl) ?_
    obtain ⟨i2, h⟩ := h
    refine x_zald C hI (d := 48) (by decide) (xE48 V) i2 d_Mod_isLive_10 ?_
    refine lv_if_eq (tgt := 18) hx hb d_Mod_isLive_11 (by decide) (fun c3 => ?_) (fun c3 => ?_)
    · have h := h.1 c3
      refine lv_iconst (v := 0) hx hb d_Mod_isLive_18 (by decide) ?_
      exact x_zret C hlocks hr hI ⟨rfl, h⟩ d_Mod_isLive_19
    · have h := h.2 c3
      refine lv_iconst (v := 1) hx hb d_Mod_isLive_14 (by decide) ?_
      refine lv_goto (tgt := 19) hx hb d_Mod_isLive_15 (by decide) ?_
      exact x_zret C hlocks hr hI ⟨rfl, h⟩ d_Mod_isLive_19
theorem yw_Mod_isLive : xY y_Mod_isLive cd_Mod_isLive 3 (some .boolean) 2 := ⟨xG_mem 1124 (by decide +kernel) (by decide +kernel), xG_mem 37 (by decide +kernel) (by decide +kernel), xG_mem 65 (by decide +kernel) (by decide +kernel), xG_mem 1125 (by decide +kernel) (by decide +kernel), by decide, by decide, by decide +kernel⟩
theorem ml_Mod_104 : Cond.methodLink R_Mod 104 y_Mod_isLive ∈ xG := xG_mem 1122 (by decide +kernel) (by decide +kernel)
def p_Mod_holds (x1 x2 : Int32) (σ : xS) (Q : Int32 → xS → Prop) : Prop :=
  (vp_in x1 640 ∧ (((σ 40 x1.toNatClampNeg) = 0 → Q 1 σ) ∧ (¬ (σ 40 x1.toNatClampNeg) = 0 → (vp_in x1 640 ∧ ((¬ (σ 40 x1.toNatClampNeg) = 2 → Q 0 σ) ∧ ((σ 40 x1.toNatClampNeg) = 2 → ((x2 ≤ 0 → Q 0 σ) ∧ (¬ x2 ≤ 0 → (vp_in (15 * x1) 9600 ∧ (vp_in (15 * x1) 9600 ∧ p_Mod_isLive (σ 46 (15 * x1).toNatClampNeg) (σ 47 (15 * x1).toNatClampNeg) σ (fun r9 σ8 => ((r9 = 0 → Q 0 σ8) ∧ (¬ r9 = 0 → Q 1 σ8)))))))))))))
abbrev rm_Mod_holds : Room := { frames := 1, cells := 0, slots := 0, locals := 22 }
theorem d_Mod_holds_0 : decode cd_Mod_holds 0 = .ok (.aload_n 0, 1) := by decide +kernel
theorem d_Mod_holds_1 : decode cd_Mod_holds 1 = .ok (.getfield 7, 3) := by decide +kernel
theorem d_Mod_holds_4 : decode cd_Mod_holds 4 = .ok (.iload_n 1, 1) := by decide +kernel
theorem d_Mod_holds_5 : decode cd_Mod_holds 5 = .ok (.iaload, 1) := by decide +kernel
theorem d_Mod_holds_6 : decode cd_Mod_holds 6 = .ok (.ifCond .eq 42, 3) := by decide +kernel
theorem d_Mod_holds_9 : decode cd_Mod_holds 9 = .ok (.aload_n 0, 1) := by decide +kernel
theorem d_Mod_holds_10 : decode cd_Mod_holds 10 = .ok (.getfield 7, 3) := by decide +kernel
theorem d_Mod_holds_13 : decode cd_Mod_holds 13 = .ok (.iload_n 1, 1) := by decide +kernel
theorem d_Mod_holds_14 : decode cd_Mod_holds 14 = .ok (.iaload, 1) := by decide +kernel
theorem d_Mod_holds_15 : decode cd_Mod_holds 15 = .ok (.iconst 2, 1) := by decide +kernel
theorem d_Mod_holds_16 : decode cd_Mod_holds 16 = .ok (.if_icmp .ne 36, 3) := by decide +kernel
theorem d_Mod_holds_19 : decode cd_Mod_holds 19 = .ok (.iload_n 2, 1) := by decide +kernel
theorem d_Mod_holds_20 : decode cd_Mod_holds 20 = .ok (.ifCond .le 32, 3) := by decide +kernel
theorem d_Mod_holds_23 : decode cd_Mod_holds 23 = .ok (.aload_n 0, 1) := by decide +kernel
theorem d_Mod_holds_24 : decode cd_Mod_holds 24 = .ok (.aload_n 0, 1) := by decide +kernel
theorem d_Mod_holds_25 : decode cd_Mod_holds 25 = .ok (.getfield 28, 3) := by decide +kernel
theorem d_Mod_holds_28 : decode cd_Mod_holds 28 = .ok (.bipush 15, 2) := by decide +kernel
theorem d_Mod_holds_30 : decode cd_Mod_holds 30 = .ok (.iload_n 1, 1) := by decide +kernel
theorem d_Mod_holds_31 : decode cd_Mod_holds 31 = .ok (.imul, 1) := by decide +kernel
theorem d_Mod_holds_32 : decode cd_Mod_holds 32 = .ok (.iaload, 1) := by decide +kernel
theorem d_Mod_holds_33 : decode cd_Mod_holds 33 = .ok (.aload_n 0, 1) := by decide +kernel
theorem d_Mod_holds_34 : decode cd_Mod_holds 34 = .ok (.getfield 31, 3) := by decide +kernel
theorem d_Mod_holds_37 : decode cd_Mod_holds 37 = .ok (.bipush 15, 2) := by decide +kernel
theorem d_Mod_holds_39 : decode cd_Mod_holds 39 = .ok (.iload_n 1, 1) := by decide +kernel
theorem d_Mod_holds_40 : decode cd_Mod_holds 40 = .ok (.imul, 1) := by decide +kernel
theorem d_Mod_holds_41 : decode cd_Mod_holds 41 = .ok (.iaload, 1) := by decide +kernel
theorem d_Mod_holds_42 : decode cd_Mod_holds 42 = .ok (.invokevirtual 104, 3) := by decide +kernel
theorem d_Mod_holds_45 : decode cd_Mod_holds 45 = .ok (.ifCond .eq 7, 3) := by decide +kernel
theorem d_Mod_holds_48 : decode cd_Mod_holds 48 = .ok (.iconst 1, 1) := by decide +kernel
theorem d_Mod_holds_49 : decode cd_Mod_holds 49 = .ok (.goto 4, 3) := by decide +kernel
theorem d_Mod_holds_52 : decode cd_Mod_holds 52 = .ok (.iconst 0, 1) := by decide +kernel
theorem d_Mod_holds_53 : decode cd_Mod_holds 53 = .ok (.ireturn, 1) := by decide +kernel
set_option maxRecDepth 100000 in
set_option maxHeartbeats 4000000 in
theorem c_Mod_holds {l : Launch} {V : xV} {σ : xS} {x1 x2 : Int32} {Q : Int32 → xS → Prop} (h : p_Mod_holds x1 x2 σ Q) : xMi l y_Mod_holds (.code y_Mod_holds cd_Mod_holds 3 (some .boolean) :: xG) rm_Mod_holds V [.ref (V.2.2 31), .int x1, .int x2] σ Q := by
  refine x_begini (by decide) (Nat.le_of_ble_eq_true rfl) (fun p e s m below meth c ls C hlocks hr hI hl => ?_)
  have C : xC p s m _ c cd_Mod_holds 3 R_Mod V := C
  have hx := C.1
  have hb := C.2.1
  have hl : lv_has ls 3 [(0, .ref (V.2.2 31)), (1, .int x1), (2, .int x2)] := hl
  unfold p_Mod_holds at h
  refine lv_aload_n hx hb d_Mod_holds_0 rfl (lv_at hl 0 rfl) ?_
  refine x_get C hI (d := 31) (by decide) (xE31 V _) fd_Mod_7 rfl d_Mod_holds_1 ?_
  refine lv_iload_n hx hb d_Mod_holds_4 rfl (lv_at hl 1 rfl) ?_
  obtain ⟨i1, h⟩ := h
  refine x_iald C hI (d := 40) (by decide) (xE40 V) i1 d_Mod_holds_5 ?_
  refine lv_if_eq (tgt := 48) hx hb d_Mod_holds_6 (by decide) (fun c2 => ?_) (fun c2 => ?_)
  · have h := h.1 c2
    refine lv_iconst (v := 1) hx hb d_Mod_holds_48 (by decide) ?_
    refine lv_goto (tgt := 53) hx hb d_Mod_holds_49 (by decide) ?_
    exact x_zret C hlocks hr hI ⟨rfl, h⟩ d_Mod_holds_53
  · have h := h.2 c2
    refine lv_aload_n hx hb d_Mod_holds_9 rfl (lv_at hl 0 rfl) ?_
    refine x_get C hI (d := 31) (by decide) (xE31 V _) fd_Mod_7 rfl d_Mod_holds_10 ?_
    refine lv_iload_n hx hb d_Mod_holds_13 rfl (lv_at hl 1 rfl) ?_
    obtain ⟨i3, h⟩ := h
    refine x_iald C hI (d := 40) (by decide) (xE40 V) i3 d_Mod_holds_14 ?_
    refine lv_iconst (v := 2) hx hb d_Mod_holds_15 (by decide) ?_
    refine lv_icmp_ne (tgt := 52) hx hb d_Mod_holds_16 (by decide) (fun c4 => ?_) (fun c4 => ?_)
    · have h := h.1 c4
      refine lv_iconst (v := 0) hx hb d_Mod_holds_52 (by decide) ?_
      exact x_zret C hlocks hr hI ⟨rfl, h⟩ d_Mod_holds_53
    · have h := h.2 c4
      refine lv_iload_n hx hb d_Mod_holds_19 rfl (lv_at hl 2 rfl) ?_
      refine lv_if_le (tgt := 52) hx hb d_Mod_holds_20 (by decide) (fun c5 => ?_) (fun c5 => ?_)
      · have h := h.1 c5
        refine lv_iconst (v := 0) hx hb d_Mod_holds_52 (by decide) ?_
        exact x_zret C hlocks hr hI ⟨rfl, h⟩ d_Mod_holds_53
      · have h := h.2 c5
        refine lv_aload_n hx hb d_Mod_holds_23 rfl (lv_at hl 0 rfl) ?_
        refine lv_aload_n hx hb d_Mod_holds_24 rfl (lv_at hl 0 rfl) ?_
        refine x_get C hI (d := 31) (by decide) (xE31 V _) fd_Mod_28 rfl d_Mod_holds_25 ?_
        refine lv_bipush (v := 15) hx hb d_Mod_holds_28 (by decide) ?_
        refine lv_iload_n hx hb d_Mod_holds_30 rfl (lv_at hl 1 rfl) ?_
        refine lv_imul hx hb d_Mod_holds_31 ?_
        obtain ⟨i6, h⟩ := h
        refine x_iald C hI (d := 46) (by decide) (xE46 V) i6 d_Mod_holds_32 ?_
        refine lv_aload_n hx hb d_Mod_holds_33 rfl (lv_at hl 0 rfl) ?_
        refine x_get C hI (d := 31) (by decide) (xE31 V _) fd_Mod_31 rfl d_Mod_holds_34 ?_
        refine lv_bipush (v := 15) hx hb d_Mod_holds_37 (by decide) ?_
        refine lv_iload_n hx hb d_Mod_holds_39 rfl (lv_at hl 1 rfl) ?_
        refine lv_imul hx hb d_Mod_holds_40 ?_
        obtain ⟨i7, h⟩ := h
        refine x_iald C hI (d := 47) (by decide) (xE47 V) i7 d_Mod_holds_41 ?_
        refine x_calli C hI hl.1 (d := 31) (As := [.int (σ 46 (15 * x1).toNatClampNeg), .int (σ 47 (15 * x1).toNatClampNeg)]) (rest := []) (by decide) (c_Mod_isLive h) (xE31 V _) rfl yw_Mod_isLive ml_Mod_104 rfl rfl ⟨Nat.le_of_ble_eq_true rfl, Nat.le_of_ble_eq_true rfl⟩ rfl rfl (Nat.le_of_ble_eq_true rfl) d_Mod_holds_42 ⟨Nat.zero_le _, Nat.zero_le _⟩ (fun r9 σ8 H locs h hI => ?_)
        refine lv_if_eq (tgt := 52) hx hb d_Mod_holds_45 (by decide) (fun c10 => ?_) (fun c10 => ?_)
        · have h := h.1 c10
          refine lv_iconst (v := 0) hx hb d_Mod_holds_52 (by decide) ?_
          exact x_zret C hlocks hr hI ⟨rfl, h⟩ d_Mod_holds_53
        · have h := h.2 c10
          refine lv_iconst (v := 1) hx hb d_Mod_holds_48 (by decide) ?_
          refine lv_goto (tgt := 53) hx hb d_Mod_holds_49 (by decide) ?_
          exact x_zret C hlocks hr hI ⟨rfl, h⟩ d_Mod_holds_53
theorem yw_Mod_holds : xY y_Mod_holds cd_Mod_holds 3 (some .boolean) 2 := ⟨xG_mem 1120 (by decide +kernel) (by decide +kernel), xG_mem 36 (by decide +kernel) (by decide +kernel), xG_mem 65 (by decide +kernel) (by decide +kernel), xG_mem 1121 (by decide +kernel) (by decide +kernel), by decide, by decide, by decide +kernel⟩
theorem ml_Mod_108 : Cond.methodLink R_Mod 108 y_Mod_holds ∈ xG := xG_mem 1118 (by decide +kernel) (by decide +kernel)
def b_Mod_findLive_L130 (K112 : Int32 → xS → Prop) (K120 : Int32 → Int32 → xS → Prop) (K130 : Int32 → Int32 → Int32 → xS → Prop) (Q : xS → Prop) (x2 x3 x4 : Int32) (σ : xS) : Prop :=
  (vp_in x3 640 ∧ (((σ 40 x3.toNatClampNeg) = (-1) → (∀ z8 : Int32, z8 = x3 + 1 → K120 x2 z8 σ)) ∧ (¬ (σ 40 x3.toNatClampNeg) = (-1) → (vp_in x3 640 ∧ (((σ 48 x3.toNatClampNeg) = 0 → (∀ z11 : Int32, z11 = x3 + 1 → K120 x2 z11 σ)) ∧ (¬ (σ 48 x3.toNatClampNeg) = 0 → (vp_in x3 640 ∧ (((σ 42 x3.toNatClampNeg) ≤ x4 → (∀ z14 : Int32, z14 = x3 + 1 → K120 x2 z14 σ)) ∧ (¬ (σ 42 x3.toNatClampNeg) ≤ x4 → (vp_in ((15 * x3) + x4) 9600 ∧ (∀ z16 : Int32, z16 = (σ 47 ((15 * x3) + x4).toNatClampNeg) → (vp_in ((15 * x3) + x4) 9600 ∧ ((¬ (σ 46 ((15 * x3) + x4).toNatClampNeg) = 2 → (∀ z19 : Int32, z19 = x4 + 1 → K130 x2 x3 z19 σ)) ∧ ((σ 46 ((15 * x3) + x4).toNatClampNeg) = 2 → (vp_in z16 640 ∧ ((¬ (σ 48 z16.toNatClampNeg) = 0 → (∀ z22 : Int32, z22 = x4 + 1 → K130 x2 x3 z22 σ)) ∧ ((σ 48 z16.toNatClampNeg) = 0 → p_Mod_holds x3 x4 σ (fun r24 σ23 => ((r24 = 0 → (∀ z26 : Int32, z26 = x4 + 1 → K130 x2 x3 z26 σ23)) ∧ (¬ r24 = 0 → (vp_in z16 640 ∧ (∀ z28 : Int32, z28 = x4 + 1 → K130 1 x3 z28 (xu σ23 48 z16.toNatClampNeg (vp_nar .boolean 1))))))))))))))))))))))))
def p_Mod_findLive_L130 (K112 : Int32 → xS → Prop) (K120 : Int32 → Int32 → xS → Prop) (Q : xS → Prop) (n : Nat) : Int32 → Int32 → Int32 → xS → Prop := Nat.rec (motive := fun _ => Int32 → Int32 → Int32 → xS → Prop) (fun _ _ _ _ => False) (fun _ K x2 x3 x4 σ => b_Mod_findLive_L130 K112 K120 K Q x2 x3 x4 σ) n
def b_Mod_findLive_L120 (K112 : Int32 → xS → Prop) (K120 : Int32 → Int32 → xS → Prop) (Q : xS → Prop) (x2 x3 : Int32) (σ : xS) : Prop :=
  ((640 ≤ x3 → K112 x2 σ) ∧ (¬ 640 ≤ x3 → (∃ n, p_Mod_findLive_L130 K112 K120 Q n x2 x3 0 σ)))
def p_Mod_findLive_L120 (K112 : Int32 → xS → Prop) (Q : xS → Prop) (n : Nat) : Int32 → Int32 → xS → Prop := Nat.rec (motive := fun _ => Int32 → Int32 → xS → Prop) (fun _ _ _ => False) (fun _ K x2 x3 σ => b_Mod_findLive_L120 K112 K Q x2 x3 σ) n
def b_Mod_findLive_L112 (K112 : Int32 → xS → Prop) (Q : xS → Prop) (x2 : Int32) (σ : xS) : Prop :=
  ((x2 = 0 → Q σ) ∧ (¬ x2 = 0 → (∃ n, p_Mod_findLive_L120 K112 Q n 0 0 σ)))
def p_Mod_findLive_L112 (Q : xS → Prop) (n : Nat) : Int32 → xS → Prop := Nat.rec (motive := fun _ => Int32 → xS → Prop) (fun _ _ => False) (fun _ K x2 σ => b_Mod_findLive_L112 K Q x2 σ) n
def b_Mod_findLive_L84 (K84 : Int32 → xS → Prop) (Q : xS → Prop) (x2 : Int32) (σ : xS) : Prop :=
  (((σ 31 19) ≤ x2 → (∃ n, p_Mod_findLive_L112 Q n 1 σ)) ∧ (¬ (σ 31 19) ≤ x2 → (vp_in x2 1400 ∧ (vp_in (σ 56 x2.toNatClampNeg) 640 ∧ (∀ z31 : Int32, z31 = x2 + 1 → K84 z31 (xu σ 48 (σ 56 x2.toNatClampNeg).toNatClampNeg (vp_nar .boolean 1)))))))
def p_Mod_findLive_L84 (Q : xS → Prop) (n : Nat) : Int32 → xS → Prop := Nat.rec (motive := fun _ => Int32 → xS → Prop) (fun _ _ => False) (fun _ K x2 σ => b_Mod_findLive_L84 K Q x2 σ) n
def b_Mod_findLive_L48 (K48 : Int32 → xS → Prop) (Q : xS → Prop) (x2 : Int32) (σ : xS) : Prop :=
  ((16 ≤ x2 → (∃ n, p_Mod_findLive_L84 Q n 0 σ)) ∧ (¬ 16 ≤ x2 → (vp_in x2 16 ∧ ((¬ (σ 54 x2.toNatClampNeg) = 2 → (∀ z34 : Int32, z34 = x2 + 1 → K48 z34 σ)) ∧ ((σ 54 x2.toNatClampNeg) = 2 → (vp_in x2 16 ∧ (vp_in (σ 55 x2.toNatClampNeg) 640 ∧ (∀ z37 : Int32, z37 = x2 + 1 → K48 z37 (xu σ 48 (σ 55 x2.toNatClampNeg).toNatClampNeg (vp_nar .boolean 1))))))))))
def p_Mod_findLive_L48 (Q : xS → Prop) (n : Nat) : Int32 → xS → Prop := Nat.rec (motive := fun _ => Int32 → xS → Prop) (fun _ _ => False) (fun _ K x2 σ => b_Mod_findLive_L48 K Q x2 σ) n
def b_Mod_findLive_L2 (K2 : Int32 → Int32 → xS → Prop) (Q : xS → Prop) (x1 x2 : Int32) (σ : xS) : Prop :=
  ((640 ≤ x2 → (∃ n, p_Mod_findLive_L48 Q n 0 σ)) ∧ (¬ 640 ≤ x2 → (vp_in x2 640 ∧ (((σ 40 x2.toNatClampNeg) = (-1) → (vp_in x2 640 ∧ (∀ z41 : Int32, z41 = x2 + 1 → K2 x1 z41 (xu σ 48 x2.toNatClampNeg (vp_nar .boolean 0))))) ∧ (¬ (σ 40 x2.toNatClampNeg) = (-1) → (vp_in x2 640 ∧ ((x1 ≤ (σ 43 x2.toNatClampNeg) → (vp_in x2 640 ∧ (∀ z45 : Int32, z45 = x2 + 1 → K2 x1 z45 (xu σ 48 x2.toNatClampNeg (vp_nar .boolean 0))))) ∧ (¬ x1 ≤ (σ 43 x2.toNatClampNeg) → (vp_in x2 640 ∧ (∀ z47 : Int32, z47 = x2 + 1 → K2 x1 z47 (xu σ 48 x2.toNatClampNeg (vp_nar .boolean 1))))))))))))
def p_Mod_findLive_L2 (Q : xS → Prop) (n : Nat) : Int32 → Int32 → xS → Prop := Nat.rec (motive := fun _ => Int32 → Int32 → xS → Prop) (fun _ _ _ => False) (fun _ K x1 x2 σ => b_Mod_findLive_L2 K Q x1 x2 σ) n
def p_Mod_findLive (x1 : Int32) (σ : xS) (Q : xS → Prop) : Prop :=
  (∃ n, p_Mod_findLive_L2 Q n x1 0 σ)
abbrev rm_Mod_findLive : Room := { frames := 2, cells := 0, slots := 0, locals := 44 }
theorem d_Mod_findLive_0 : decode cd_Mod_findLive 0 = .ok (.iconst 0, 1) := by decide +kernel
theorem d_Mod_findLive_1 : decode cd_Mod_findLive 1 = .ok (.istore_n 2, 1) := by decide +kernel
theorem d_Mod_findLive_2 : decode cd_Mod_findLive 2 = .ok (.iload_n 2, 1) := by decide +kernel
theorem d_Mod_findLive_3 : decode cd_Mod_findLive 3 = .ok (.sipush 640, 3) := by decide +kernel
theorem d_Mod_findLive_6 : decode cd_Mod_findLive 6 = .ok (.if_icmp .ge 40, 3) := by decide +kernel
theorem d_Mod_findLive_9 : decode cd_Mod_findLive 9 = .ok (.aload_n 0, 1) := by decide +kernel
theorem d_Mod_findLive_10 : decode cd_Mod_findLive 10 = .ok (.getfield 34, 3) := by decide +kernel
theorem d_Mod_findLive_13 : decode cd_Mod_findLive 13 = .ok (.iload_n 2, 1) := by decide +kernel
theorem d_Mod_findLive_14 : decode cd_Mod_findLive 14 = .ok (.aload_n 0, 1) := by decide +kernel
theorem d_Mod_findLive_15 : decode cd_Mod_findLive 15 = .ok (.getfield 7, 3) := by decide +kernel
theorem d_Mod_findLive_18 : decode cd_Mod_findLive 18 = .ok (.iload_n 2, 1) := by decide +kernel
theorem d_Mod_findLive_19 : decode cd_Mod_findLive 19 = .ok (.iaload, 1) := by decide +kernel
theorem d_Mod_findLive_20 : decode cd_Mod_findLive 20 = .ok (.iconst (-1), 1) := by decide +kernel
theorem d_Mod_findLive_21 : decode cd_Mod_findLive 21 = .ok (.if_icmp .eq 17, 3) := by decide +kernel
theorem d_Mod_findLive_24 : decode cd_Mod_findLive 24 = .ok (.aload_n 0, 1) := by decide +kernel
theorem d_Mod_findLive_25 : decode cd_Mod_findLive 25 = .ok (.getfield 19, 3) := by decide +kernel
theorem d_Mod_findLive_28 : decode cd_Mod_findLive 28 = .ok (.iload_n 2, 1) := by decide +kernel
theorem d_Mod_findLive_29 : decode cd_Mod_findLive 29 = .ok (.iaload, 1) := by decide +kernel
theorem d_Mod_findLive_30 : decode cd_Mod_findLive 30 = .ok (.iload_n 1, 1) := by decide +kernel
theorem d_Mod_findLive_31 : decode cd_Mod_findLive 31 = .ok (.if_icmp .ge 7, 3) := by decide +kernel
theorem d_Mod_findLive_34 : decode cd_Mod_findLive 34 = .ok (.iconst 1, 1) := by decide +kernel
theorem d_Mod_findLive_35 : decode cd_Mod_findLive 35 = .ok (.goto 4, 3) := by decide +kernel
theorem d_Mod_findLive_38 : decode cd_Mod_findLive 38 = .ok (.iconst 0, 1) := by decide +kernel
theorem d_Mod_findLive_39 : decode cd_Mod_findLive 39 = .ok (.bastore, 1) := by decide +kernel
theorem d_Mod_findLive_40 : decode cd_Mod_findLive 40 = .ok (.iinc 2 1, 3) := by decide +kernel
theorem d_Mod_findLive_43 : decode cd_Mod_findLive 43 = .ok (.goto (-41), 3) := by decide +kernel
theorem d_Mod_findLive_46 : decode cd_Mod_findLive 46 = .ok (.iconst 0, 1) := by decide +kernel
theorem d_Mod_findLive_47 : decode cd_Mod_findLive 47 = .ok (.istore_n 2, 1) := by decide +kernel
theorem d_Mod_findLive_48 : decode cd_Mod_findLive 48 = .ok (.iload_n 2, 1) := by decide +kernel
theorem d_Mod_findLive_49 : decode cd_Mod_findLive 49 = .ok (.bipush 16, 2) := by decide +kernel
theorem d_Mod_findLive_51 : decode cd_Mod_findLive 51 = .ok (.if_icmp .ge 31, 3) := by decide +kernel
theorem d_Mod_findLive_54 : decode cd_Mod_findLive 54 = .ok (.aload_n 0, 1) := by decide +kernel
theorem d_Mod_findLive_55 : decode cd_Mod_findLive 55 = .ok (.getfield 53, 3) := by decide +kernel
theorem d_Mod_findLive_58 : decode cd_Mod_findLive 58 = .ok (.iload_n 2, 1) := by decide +kernel
theorem d_Mod_findLive_59 : decode cd_Mod_findLive 59 = .ok (.iaload, 1) := by decide +kernel
theorem d_Mod_findLive_60 : decode cd_Mod_findLive 60 = .ok (.iconst 2, 1) := by decide +kernel
theorem d_Mod_findLive_61 : decode cd_Mod_findLive 61 = .ok (.if_icmp .ne 15, 3) := by decide +kernel
theorem d_Mod_findLive_64 : decode cd_Mod_findLive 64 = .ok (.aload_n 0, 1) := by decide +kernel
theorem d_Mod_findLive_65 : decode cd_Mod_findLive 65 = .ok (.getfield 34, 3) := by decide +kernel
theorem d_Mod_findLive_68 : decode cd_Mod_findLive 68 = .ok (.aload_n 0, 1) := by decide +kernel
theorem d_Mod_findLive_69 : decode cd_Mod_findLive 69 = .ok (.getfield 56, 3) := by decide +kernel
theorem d_Mod_findLive_72 : decode cd_Mod_findLive 72 = .ok (.iload_n 2, 1) := by decide +kernel
theorem d_Mod_findLive_73 : decode cd_Mod_findLive 73 = .ok (.iaload, 1) := by decide +kernel
theorem d_Mod_findLive_74 : decode cd_Mod_findLive 74 = .ok (.iconst 1, 1) := by decide +kernel
theorem d_Mod_findLive_75 : decode cd_Mod_findLive 75 = .ok (.bastore, 1) := by decide +kernel
theorem d_Mod_findLive_76 : decode cd_Mod_findLive 76 = .ok (.iinc 2 1, 3) := by decide +kernel
theorem d_Mod_findLive_79 : decode cd_Mod_findLive 79 = .ok (.goto (-31), 3) := by decide +kernel
theorem d_Mod_findLive_82 : decode cd_Mod_findLive 82 = .ok (.iconst 0, 1) := by decide +kernel
theorem d_Mod_findLive_83 : decode cd_Mod_findLive 83 = .ok (.istore_n 2, 1) := by decide +kernel
theorem d_Mod_findLive_84 : decode cd_Mod_findLive 84 = .ok (.iload_n 2, 1) := by decide +kernel
theorem d_Mod_findLive_85 : decode cd_Mod_findLive 85 = .ok (.aload_n 0, 1) := by decide +kernel
theorem d_Mod_findLive_86 : decode cd_Mod_findLive 86 = .ok (.getfield 97, 3) := by decide +kernel
theorem d_Mod_findLive_89 : decode cd_Mod_findLive 89 = .ok (.if_icmp .ge 21, 3) := by decide +kernel
theorem d_Mod_findLive_92 : decode cd_Mod_findLive 92 = .ok (.aload_n 0, 1) := by decide +kernel
theorem d_Mod_findLive_93 : decode cd_Mod_findLive 93 = .ok (.getfield 34, 3) := by decide +kernel
theorem d_Mod_findLive_96 : decode cd_Mod_findLive 96 = .ok (.aload_n 0, 1) := by decide +kernel
theorem d_Mod_findLive_97 : decode cd_Mod_findLive 97 = .ok (.getfield 59, 3) := by decide +kernel
theorem d_Mod_findLive_100 : decode cd_Mod_findLive 100 = .ok (.iload_n 2, 1) := by decide +kernel
theorem d_Mod_findLive_101 : decode cd_Mod_findLive 101 = .ok (.iaload, 1) := by decide +kernel
theorem d_Mod_findLive_102 : decode cd_Mod_findLive 102 = .ok (.iconst 1, 1) := by decide +kernel
theorem d_Mod_findLive_103 : decode cd_Mod_findLive 103 = .ok (.bastore, 1) := by decide +kernel
theorem d_Mod_findLive_104 : decode cd_Mod_findLive 104 = .ok (.iinc 2 1, 3) := by decide +kernel
theorem d_Mod_findLive_107 : decode cd_Mod_findLive 107 = .ok (.goto (-23), 3) := by decide +kernel
theorem d_Mod_findLive_110 : decode cd_Mod_findLive 110 = .ok (.iconst 1, 1) := by decide +kernel
theorem d_Mod_findLive_111 : decode cd_Mod_findLive 111 = .ok (.istore_n 2, 1) := by decide +kernel
theorem d_Mod_findLive_112 : decode cd_Mod_findLive 112 = .ok (.iload_n 2, 1) := by decide +kernel
theorem d_Mod_findLive_113 : decode cd_Mod_findLive 113 = .ok (.ifCond .eq 122, 3) := by decide +kernel
theorem d_Mod_findLive_116 : decode cd_Mod_findLive 116 = .ok (.iconst 0, 1) := by decide +kernel
theorem d_Mod_findLive_117 : decode cd_Mod_findLive 117 = .ok (.istore_n 2, 1) := by decide +kernel
theorem d_Mod_findLive_118 : decode cd_Mod_findLive 118 = .ok (.iconst 0, 1) := by decide +kernel
theorem d_Mod_findLive_119 : decode cd_Mod_findLive 119 = .ok (.istore_n 3, 1) := by decide +kernel
theorem d_Mod_findLive_120 : decode cd_Mod_findLive 120 = .ok (.iload_n 3, 1) := by decide +kernel
theorem d_Mod_findLive_121 : decode cd_Mod_findLive 121 = .ok (.sipush 640, 3) := by decide +kernel
theorem d_Mod_findLive_124 : decode cd_Mod_findLive 124 = .ok (.if_icmp .ge 108, 3) := by decide +kernel
theorem d_Mod_findLive_127 : decode cd_Mod_findLive 127 = .ok (.iconst 0, 1) := by decide +kernel
theorem d_Mod_findLive_128 : decode cd_Mod_findLive 128 = .ok (.istore 4, 2) := by decide +kernel
theorem d_Mod_findLive_130 : decode cd_Mod_findLive 130 = .ok (.aload_n 0, 1) := by decide +kernel
theorem d_Mod_findLive_131 : decode cd_Mod_findLive 131 = .ok (.getfield 7, 3) := by decide +kernel
theorem d_Mod_findLive_134 : decode cd_Mod_findLive 134 = .ok (.iload_n 3, 1) := by decide +kernel
theorem d_Mod_findLive_135 : decode cd_Mod_findLive 135 = .ok (.iaload, 1) := by decide +kernel
theorem d_Mod_findLive_136 : decode cd_Mod_findLive 136 = .ok (.iconst (-1), 1) := by decide +kernel
theorem d_Mod_findLive_137 : decode cd_Mod_findLive 137 = .ok (.if_icmp .eq 89, 3) := by decide +kernel
theorem d_Mod_findLive_140 : decode cd_Mod_findLive 140 = .ok (.aload_n 0, 1) := by decide +kernel
theorem d_Mod_findLive_141 : decode cd_Mod_findLive 141 = .ok (.getfield 34, 3) := by decide +kernel
theorem d_Mod_findLive_144 : decode cd_Mod_findLive 144 = .ok (.iload_n 3, 1) := by decide +kernel
theorem d_Mod_findLive_145 : decode cd_Mod_findLive 145 = .ok (.baload, 1) := by decide +kernel
theorem d_Mod_findLive_146 : decode cd_Mod_findLive 146 = .ok (.ifCond .eq 80, 3) := by decide +kernel
theorem d_Mod_findLive_149 : decode cd_Mod_findLive 149 = .ok (.iload 4, 2) := by decide +kernel
theorem d_Mod_findLive_151 : decode cd_Mod_findLive 151 = .ok (.aload_n 0, 1) := by decide +kernel
theorem d_Mod_findLive_152 : decode cd_Mod_findLive 152 = .ok (.getfield 16, 3) := by decide +kernel
theorem d_Mod_findLive_155 : decode cd_Mod_findLive 155 = .ok (.iload_n 3, 1) := by decide +kernel
theorem d_Mod_findLive_156 : decode cd_Mod_findLive 156 = .ok (.iaload, 1) := by decide +kernel
theorem d_Mod_findLive_157 : decode cd_Mod_findLive 157 = .ok (.if_icmp .ge 69, 3) := by decide +kernel
theorem d_Mod_findLive_160 : decode cd_Mod_findLive 160 = .ok (.aload_n 0, 1) := by decide +kernel
theorem d_Mod_findLive_161 : decode cd_Mod_findLive 161 = .ok (.getfield 31, 3) := by decide +kernel
theorem d_Mod_findLive_164 : decode cd_Mod_findLive 164 = .ok (.bipush 15, 2) := by decide +kernel
theorem d_Mod_findLive_166 : decode cd_Mod_findLive 166 = .ok (.iload_n 3, 1) := by decide +kernel
theorem d_Mod_findLive_167 : decode cd_Mod_findLive 167 = .ok (.imul, 1) := by decide +kernel
theorem d_Mod_findLive_168 : decode cd_Mod_findLive 168 = .ok (.iload 4, 2) := by decide +kernel
theorem d_Mod_findLive_170 : decode cd_Mod_findLive 170 = .ok (.iadd, 1) := by decide +kernel
theorem d_Mod_findLive_171 : decode cd_Mod_findLive 171 = .ok (.iaload, 1) := by decide +kernel
theorem d_Mod_findLive_172 : decode cd_Mod_findLive 172 = .ok (.istore 5, 2) := by decide +kernel
theorem d_Mod_findLive_174 : decode cd_Mod_findLive 174 = .ok (.aload_n 0, 1) := by decide +kernel
theorem d_Mod_findLive_175 : decode cd_Mod_findLive 175 = .ok (.getfield 28, 3) := by decide +kernel
theorem d_Mod_findLive_178 : decode cd_Mod_findLive 178 = .ok (.bipush 15, 2) := by decide +kernel
theorem d_Mod_findLive_180 : decode cd_Mod_findLive 180 = .ok (.iload_n 3, 1) := by decide +kernel
theorem d_Mod_findLive_181 : decode cd_Mod_findLive 181 = .ok (.imul, 1) := by decide +kernel
theorem d_Mod_findLive_182 : decode cd_Mod_findLive 182 = .ok (.iload 4, 2) := by decide +kernel
theorem d_Mod_findLive_184 : decode cd_Mod_findLive 184 = .ok (.iadd, 1) := by decide +kernel
theorem d_Mod_findLive_185 : decode cd_Mod_findLive 185 = .ok (.iaload, 1) := by decide +kernel
theorem d_Mod_findLive_186 : decode cd_Mod_findLive 186 = .ok (.iconst 2, 1) := by decide +kernel
theorem d_Mod_findLive_187 : decode cd_Mod_findLive 187 = .ok (.if_icmp .ne 33, 3) := by decide +kernel
theorem d_Mod_findLive_190 : decode cd_Mod_findLive 190 = .ok (.aload_n 0, 1) := by decide +kernel
theorem d_Mod_findLive_191 : decode cd_Mod_findLive 191 = .ok (.getfield 34, 3) := by decide +kernel
theorem d_Mod_findLive_194 : decode cd_Mod_findLive 194 = .ok (.iload 5, 2) := by decide +kernel
theorem d_Mod_findLive_196 : decode cd_Mod_findLive 196 = .ok (.baload, 1) := by decide +kernel
theorem d_Mod_findLive_197 : decode cd_Mod_findLive 197 = .ok (.ifCond .ne 23, 3) := by decide +kernel
theorem d_Mod_findLive_200 : decode cd_Mod_findLive 200 = .ok (.aload_n 0, 1) := by decide +kernel
theorem d_Mod_findLive_201 : decode cd_Mod_findLive 201 = .ok (.iload_n 3, 1) := by decide +kernel
theorem d_Mod_findLive_202 : decode cd_Mod_findLive 202 = .ok (.iload 4, 2) := by decide +kernel
theorem d_Mod_findLive_204 : decode cd_Mod_findLive 204 = .ok (.invokevirtual 108, 3) := by decide +kernel
theorem d_Mod_findLive_207 : decode cd_Mod_findLive 207 = .ok (.ifCond .eq 13, 3) := by decide +kernel
theorem d_Mod_findLive_210 : decode cd_Mod_findLive 210 = .ok (.aload_n 0, 1) := by decide +kernel
theorem d_Mod_findLive_211 : decode cd_Mod_findLive 211 = .ok (.getfield 34, 3) := by decide +kernel
theorem d_Mod_findLive_214 : decode cd_Mod_findLive 214 = .ok (.iload 5, 2) := by decide +kernel
theorem d_Mod_findLive_216 : decode cd_Mod_findLive 216 = .ok (.iconst 1, 1) := by decide +kernel
theorem d_Mod_findLive_217 : decode cd_Mod_findLive 217 = .ok (.bastore, 1) := by decide +kernel
theorem d_Mod_findLive_218 : decode cd_Mod_findLive 218 = .ok (.iconst 1, 1) := by decide +kernel
theorem d_Mod_findLive_219 : decode cd_Mod_findLive 219 = .ok (.istore_n 2, 1) := by decide +kernel
theorem d_Mod_findLive_220 : decode cd_Mod_findLive 220 = .ok (.iinc 4 1, 3) := by decide +kernel
theorem d_Mod_findLive_223 : decode cd_Mod_findLive 223 = .ok (.goto (-93), 3) := by decide +kernel
theorem d_Mod_findLive_226 : decode cd_Mod_findLive 226 = .ok (.iinc 3 1, 3) := by decide +kernel
theorem d_Mod_findLive_229 : decode cd_Mod_findLive 229 = .ok (.goto (-109), 3) := by decide +kernel
theorem d_Mod_findLive_232 : decode cd_Mod_findLive 232 = .ok (.goto (-120), 3) := by decide +kernel
theorem d_Mod_findLive_235 : decode cd_Mod_findLive 235 = .ok (.return_, 1) := by decide +kernel
set_option maxRecDepth 100000 in
set_option maxHeartbeats 4000000 in
theorem s_Mod_findLive_L130 {p : Program} {l : Launch} {e : Env} {s : State} {m : MethodId} {args : Array Value} {below : List Frame} {meth : Method} {c : Code} {V : xV} (C : xC p s m args c cd_Mod_findLive 6 R_Mod V) (hlocks : meth.locks = false) (hr : meth.sig.returnType = none) {Q : xS → Prop} {K112 : Int32 → xS → Prop} {K120 : Int32 → Int32 → xS → Prop} {K130 : Int32 → Int32 → Int32 → xS → Prop} (hK112 : ∀ (x2 : Int32) (σ : xS) (H : Heap) (locs : List Loc) (ls : Array Slot), K112 x2 σ → xI V s.heap σ H locs → lv_has ls 6 [(0, .ref (V.2.2 31)), (2, .int x2)] → W p l e rm_Mod_findLive s m args below meth c H locs 0 0 (xZv below V args s Q) (F0 m 112 ls [])) (hK120 : ∀ (x2 : Int32) (x3 : Int32) (σ : xS) (H : Heap) (locs : List Loc) (ls : Array Slot), K120 x2 x3 σ → xI V s.heap σ H locs → lv_has ls 6 [(0, .ref (V.2.2 31)), (2, .int x2), (3, .int x3)] → W p l e rm_Mod_findLive s m args below meth c H locs 0 0 (xZv below V args s Q) (F0 m 120 ls [])) (hK130 : ∀ (x2 : Int32) (x3 : Int32) (x4 : Int32) (σ : xS) (H : Heap) (locs : List Loc) (ls : Array Slot), K130 x2 x3 x4 σ → xI V s.heap σ H locs → lv_has ls 6 [(0, .ref (V.2.2 31)), (2, .int x2), (3, .int x3), (4, .int x4)] → W p l e rm_Mod_findLive s m args below meth c H locs 0 0 (xZv below V args s Q) (F0 m 130 ls [])) {x2 x3 x4 : Int32} {σ : xS} {H : Heap} {locs : List Loc} {ls : Array Slot} (h : b_Mod_findLive_L130 K112 K120 K130 Q x2 x3 x4 σ) (hI : xI V s.heap σ H locs) (hl : lv_has ls 6 [(0, .ref (V.2.2 31)), (2, .int x2), (3, .int x3), (4, .int x4)]) : W p l e rm_Mod_findLive s m args below meth c H locs 0 0 (xZv below V args s Q) (F0 m 130 ls []) := by
  have hx := C.1
  have hb := C.2.1
  unfold b_Mod_findLive_L130 at h
  refine lv_aload_n hx hb d_Mod_findLive_130 rfl (lv_at hl 0 rfl) ?_
  refine x_get C hI (d := 31) (by decide) (xE31 V _) fd_Mod_7 rfl d_Mod_findLive_131 ?_
  refine lv_iload_n hx hb d_Mod_findLive_134 rfl (lv_at hl 2 rfl) ?_
  obtain ⟨i6, h⟩ := h
  refine x_iald C hI (d := 40) (by decide) (xE40 V) i6 d_Mod_findLive_135 ?_
  refine lv_iconst (v := (-1)) hx hb d_Mod_findLive_136 (by decide) ?_
  refine lv_icmp_eq (tgt := 226) hx hb d_Mod_findLive_137 (by decide) (fun c7 => ?_) (fun c7 => ?_)
  · have h := h.1 c7
    obtain ⟨z8, ez8⟩ : ∃ y : Int32, y = x3 + 1 := ⟨_, rfl⟩
    have h := h z8 ez8
    refine lv_iinc (v := z8) (lv' := [(3, .int z8), (0, .ref (V.2.2 31)), (2, .int x2), (4, .int x4)]) hx hb d_Mod_findLive_226 hl (k := 2) rfl (by rw [ez8]; rfl) (by decide) rfl (fun ls hl => ?_)
    refine lv_goto (tgt := 120) hx hb d_Mod_findLive_229 (by decide) ?_
    exact hK120 _ _ _ _ _ _ h hI (lv_sub hl [1, 2, 0] rfl)
  · have h := h.2 c7
    refine lv_aload_n hx hb d_Mod_findLive_140 rfl (lv_at hl 0 rfl) ?_
    refine x_get C hI (d := 31) (by decide) (xE31 V _) fd_Mod_34 rfl d_Mod_findLive_141 ?_
    refine lv_iload_n hx hb d_Mod_findLive_144 rfl (lv_at hl 2 rfl) ?_
    obtain ⟨i9, h⟩ := h
    refine x_zald C hI (d := 48) (by decide) (xE48 V) i9 d_Mod_findLive_145 ?_
    refine lv_if_eq (tgt := 226) hx hb d_Mod_findLive_146 (by decide) (fun c10 => ?_) (fun c10 => ?_)
    · have h := h.1 c10
      obtain ⟨z11, ez11⟩ : ∃ y : Int32, y = x3 + 1 := ⟨_, rfl⟩
      have h := h z11 ez11
      refine lv_iinc (v := z11) (lv' := [(3, .int z11), (0, .ref (V.2.2 31)), (2, .int x2), (4, .int x4)]) hx hb d_Mod_findLive_226 hl (k := 2) rfl (by rw [ez11]; rfl) (by decide) rfl (fun ls hl => ?_)
      refine lv_goto (tgt := 120) hx hb d_Mod_findLive_229 (by decide) ?_
      exact hK120 _ _ _ _ _ _ h hI (lv_sub hl [1, 2, 0] rfl)
    · have h := h.2 c10
      refine lv_iload hx hb d_Mod_findLive_149 (lv_at hl 3 rfl) ?_
      refine lv_aload_n hx hb d_Mod_findLive_151 rfl (lv_at hl 0 rfl) ?_
      refine x_get C hI (d := 31) (by decide) (xE31 V _) fd_Mod_16 rfl d_Mod_findLive_152 ?_
      refine lv_iload_n hx hb d_Mod_findLive_155 rfl (lv_at hl 2 rfl) ?_
      obtain ⟨i12, h⟩ := h
      refine x_iald C hI (d := 42) (by decide) (xE42 V) i12 d_Mod_findLive_156 ?_
      refine lv_icmp_ge (tgt := 226) hx hb d_Mod_findLive_157 (by decide) (fun c13 => ?_) (fun c13 => ?_)
      · have h := h.1 c13
        obtain ⟨z14, ez14⟩ : ∃ y : Int32, y = x3 + 1 := ⟨_, rfl⟩
        have h := h z14 ez14
        refine lv_iinc (v := z14) (lv' := [(3, .int z14), (0, .ref (V.2.2 31)), (2, .int x2), (4, .int x4)]) hx hb d_Mod_findLive_226 hl (k := 2) rfl (by rw [ez14]; rfl) (by decide) rfl (fun ls hl => ?_)
        refine lv_goto (tgt := 120) hx hb d_Mod_findLive_229 (by decide) ?_
        exact hK120 _ _ _ _ _ _ h hI (lv_sub hl [1, 2, 0] rfl)
      · have h := h.2 c13
        refine lv_aload_n hx hb d_Mod_findLive_160 rfl (lv_at hl 0 rfl) ?_
        refine x_get C hI (d := 31) (by decide) (xE31 V _) fd_Mod_31 rfl d_Mod_findLive_161 ?_
        refine lv_bipush (v := 15) hx hb d_Mod_findLive_164 (by decide) ?_
        refine lv_iload_n hx hb d_Mod_findLive_166 rfl (lv_at hl 2 rfl) ?_
        refine lv_imul hx hb d_Mod_findLive_167 ?_
        refine lv_iload hx hb d_Mod_findLive_168 (lv_at hl 3 rfl) ?_
        refine lv_iadd hx hb d_Mod_findLive_170 ?_
        obtain ⟨i15, h⟩ := h
        refine x_iald C hI (d := 47) (by decide) (xE47 V) i15 d_Mod_findLive_171 ?_
        refine lv_topi (fun z16 ez16 => ?_)
        have h := h z16 ez16
        refine lv_istore (lv' := [(5, .int z16), (0, .ref (V.2.2 31)), (2, .int x2), (3, .int x3), (4, .int x4)]) hx hb d_Mod_findLive_172 hl (by decide) rfl (fun ls hl => ?_)
        refine lv_aload_n hx hb d_Mod_findLive_174 rfl (lv_at hl 1 rfl) ?_
        refine x_get C hI (d := 31) (by decide) (xE31 V _) fd_Mod_28 rfl d_Mod_findLive_175 ?_
        refine lv_bipush (v := 15) hx hb d_Mod_findLive_178 (by decide) ?_
        refine lv_iload_n hx hb d_Mod_findLive_180 rfl (lv_at hl 3 rfl) ?_
        refine lv_imul hx hb d_Mod_findLive_181 ?_
        refine lv_iload hx hb d_Mod_findLive_182 (lv_at hl 4 rfl) ?_
        refine lv_iadd hx hb d_Mod_findLive_184 ?_
        obtain ⟨i17, h⟩ := h
        refine x_iald C hI (d := 46) (by decide) (xE46 V) i17 d_Mod_findLive_185 ?_
        refine lv_iconst (v := 2) hx hb d_Mod_findLive_186 (by decide) ?_
        refine lv_icmp_ne (tgt := 220) hx hb d_Mod_findLive_187 (by decide) (fun c18 => ?_) (fun c18 => ?_)
        · have h := h.1 c18
          obtain ⟨z19, ez19⟩ : ∃ y : Int32, y = x4 + 1 := ⟨_, rfl⟩
          have h := h z19 ez19
          refine lv_iinc (v := z19) (lv' := [(4, .int z19), (5, .int z16), (0, .ref (V.2.2 31)), (2, .int x2), (3, .int x3)]) hx hb d_Mod_findLive_220 hl (k := 4) rfl (by rw [ez19]; rfl) (by decide) rfl (fun ls hl => ?_)
          refine lv_goto (tgt := 130) hx hb d_Mod_findLive_223 (by decide) ?_
          exact hK130 _ _ _ _ _ _ _ h hI (lv_sub hl [2, 3, 4, 0] rfl)
        · have h := h.2 c18
          refine lv_aload_n hx hb d_Mod_findLive_190 rfl (lv_at hl 1 rfl) ?_
          refine x_get C hI (d := 31) (by decide) (xE31 V _) fd_Mod_34 rfl d_Mod_findLive_191 ?_
          refine lv_iload hx hb d_Mod_findLive_194 (lv_at hl 0 rfl) ?_
          obtain ⟨i20, h⟩ := h
          refine x_zald C hI (d := 48) (by decide) (xE48 V) i20 d_Mod_findLive_196 ?_
          refine lv_if_ne (tgt := 220) hx hb d_Mod_findLive_197 (by decide) (fun c21 => ?_) (fun c21 => ?_)
          · have h := h.1 c21
            obtain ⟨z22, ez22⟩ : ∃ y : Int32, y = x4 + 1 := ⟨_, rfl⟩
            have h := h z22 ez22
            refine lv_iinc (v := z22) (lv' := [(4, .int z22), (5, .int z16), (0, .ref (V.2.2 31)), (2, .int x2), (3, .int x3)]) hx hb d_Mod_findLive_220 hl (k := 4) rfl (by rw [ez22]; rfl) (by decide) rfl (fun ls hl => ?_)
            refine lv_goto (tgt := 130) hx hb d_Mod_findLive_223 (by decide) ?_
            exact hK130 _ _ _ _ _ _ _ h hI (lv_sub hl [2, 3, 4, 0] rfl)
          · have h := h.2 c21
            refine lv_aload_n hx hb d_Mod_findLive_200 rfl (lv_at hl 1 rfl) ?_
            refine lv_iload_n hx hb d_Mod_findLive_201 rfl (lv_at hl 3 rfl) ?_
            refine lv_iload hx hb d_Mod_findLive_202 (lv_at hl 4 rfl) ?_
            refine x_calli C hI hl.1 (d := 31) (As := [.int x3, .int x4]) (rest := []) (by decide) (c_Mod_holds h) (xE31 V _) rfl yw_Mod_holds ml_Mod_108 rfl rfl ⟨Nat.le_of_ble_eq_true rfl, Nat.le_of_ble_eq_true rfl⟩ rfl rfl (Nat.le_of_ble_eq_true rfl) d_Mod_findLive_204 ⟨Nat.zero_le _, Nat.zero_le _⟩ (fun r24 σ23 H locs h hI => ?_)
            refine lv_if_eq (tgt := 220) hx hb d_Mod_findLive_207 (by decide) (fun c25 => ?_) (fun c25 => ?_)
            · have h := h.1 c25
              obtain ⟨z26, ez26⟩ : ∃ y : Int32, y = x4 + 1 := ⟨_, rfl⟩
              have h := h z26 ez26
              refine lv_iinc (v := z26) (lv' := [(4, .int z26), (5, .int z16), (0, .ref (V.2.2 31)), (2, .int x2), (3, .int x3)]) hx hb d_Mod_findLive_220 hl (k := 4) rfl (by rw [ez26]; rfl) (by decide) rfl (fun ls hl => ?_)
              refine lv_goto (tgt := 130) hx hb d_Mod_findLive_223 (by decide) ?_
              exact hK130 _ _ _ _ _ _ _ h hI (lv_sub hl [2, 3, 4, 0] rfl)
            · have h := h.2 c25
              refine lv_aload_n hx hb d_Mod_findLive_210 rfl (lv_at hl 1 rfl) ?_
              refine x_get C hI (d := 31) (by decide) (xE31 V _) fd_Mod_34 rfl d_Mod_findLive_211 ?_
              refine lv_iload hx hb d_Mod_findLive_214 (lv_at hl 0 rfl) ?_
              refine lv_iconst (v := 1) hx hb d_Mod_findLive_216 (by decide) ?_
              obtain ⟨i27, h⟩ := h
              refine x_zast C hI (d := 48) (by decide) (xE48 V) i27 d_Mod_findLive_217 (fun H locs hI => ?_)
              refine lv_iconst (v := 1) hx hb d_Mod_findLive_218 (by decide) ?_
              refine lv_istore_n (lv' := [(2, .int 1), (5, .int z16), (0, .ref (V.2.2 31)), (3, .int x3), (4, .int x4)]) hx hb d_Mod_findLive_219 rfl hl (by decide) rfl (fun ls hl => ?_)
              obtain ⟨z28, ez28⟩ : ∃ y : Int32, y = x4 + 1 := ⟨_, rfl⟩
              have h := h z28 ez28
              refine lv_iinc (v := z28) (lv' := [(4, .int z28), (2, .int 1), (5, .int z16), (0, .ref (V.2.2 31)), (3, .int x3)]) hx hb d_Mod_findLive_220 hl (k := 4) rfl (by rw [ez28]; rfl) (by decide) rfl (fun ls hl => ?_)
              refine lv_goto (tgt := 130) hx hb d_Mod_findLive_223 (by decide) ?_
              exact hK130 _ _ _ _ _ _ _ h hI (lv_sub hl [3, 1, 4, 0] rfl)
theorem w_Mod_findLive_L130 {p : Program} {l : Launch} {e : Env} {s : State} {m : MethodId} {args : Array Value} {below : List Frame} {meth : Method} {c : Code} {V : xV} (C : xC p s m args c cd_Mod_findLive 6 R_Mod V) (hlocks : meth.locks = false) (hr : meth.sig.returnType = none) {Q : xS → Prop} {K112 : Int32 → xS → Prop} {K120 : Int32 → Int32 → xS → Prop} (hK112 : ∀ (x2 : Int32) (σ : xS) (H : Heap) (locs : List Loc) (ls : Array Slot), K112 x2 σ → xI V s.heap σ H locs → lv_has ls 6 [(0, .ref (V.2.2 31)), (2, .int x2)] → W p l e rm_Mod_findLive s m args below meth c H locs 0 0 (xZv below V args s Q) (F0 m 112 ls [])) (hK120 : ∀ (x2 : Int32) (x3 : Int32) (σ : xS) (H : Heap) (locs : List Loc) (ls : Array Slot), K120 x2 x3 σ → xI V s.heap σ H locs → lv_has ls 6 [(0, .ref (V.2.2 31)), (2, .int x2), (3, .int x3)] → W p l e rm_Mod_findLive s m args below meth c H locs 0 0 (xZv below V args s Q) (F0 m 120 ls [])) : ∀ (n : Nat) (x2 : Int32) (x3 : Int32) (x4 : Int32) (σ : xS) (H : Heap) (locs : List Loc) (ls : Array Slot), p_Mod_findLive_L130 K112 K120 Q n x2 x3 x4 σ → xI V s.heap σ H locs → lv_has ls 6 [(0, .ref (V.2.2 31)), (2, .int x2), (3, .int x3), (4, .int x4)] → W p l e rm_Mod_findLive s m args below meth c H locs 0 0 (xZv below V args s Q) (F0 m 130 ls []) := by
  intro n
  induction n with
  | zero =>
    intro x2 x3 x4 σ H locs ls h
    exact False.elim h
  | succ n ih =>
    intro x2 x3 x4 σ H locs ls h hI hl
    exact s_Mod_findLive_L130 C hlocks hr hK112 hK120 (K130 := p_Mod_findLive_L130 K112 K120 Q n) (fun x2 x3 x4 σ H locs ls h hI hl => ih x2 x3 x4 σ H locs ls h hI hl) h hI hl
set_option maxRecDepth 100000 in
set_option maxHeartbeats 4000000 in
theorem s_Mod_findLive_L120 {p : Program} {l : Launch} {e : Env} {s : State} {m : MethodId} {args : Array Value} {below : List Frame} {meth : Method} {c : Code} {V : xV} (C : xC p s m args c cd_Mod_findLive 6 R_Mod V) (hlocks : meth.locks = false) (hr : meth.sig.returnType = none) {Q : xS → Prop} {K112 : Int32 → xS → Prop} {K120 : Int32 → Int32 → xS → Prop} (hK112 : ∀ (x2 : Int32) (σ : xS) (H : Heap) (locs : List Loc) (ls : Array Slot), K112 x2 σ → xI V s.heap σ H locs → lv_has ls 6 [(0, .ref (V.2.2 31)), (2, .int x2)] → W p l e rm_Mod_findLive s m args below meth c H locs 0 0 (xZv below V args s Q) (F0 m 112 ls [])) (hK120 : ∀ (x2 : Int32) (x3 : Int32) (σ : xS) (H : Heap) (locs : List Loc) (ls : Array Slot), K120 x2 x3 σ → xI V s.heap σ H locs → lv_has ls 6 [(0, .ref (V.2.2 31)), (2, .int x2), (3, .int x3)] → W p l e rm_Mod_findLive s m args below meth c H locs 0 0 (xZv below V args s Q) (F0 m 120 ls [])) {x2 x3 : Int32} {σ : xS} {H : Heap} {locs : List Loc} {ls : Array Slot} (h : b_Mod_findLive_L120 K112 K120 Q x2 x3 σ) (hI : xI V s.heap σ H locs) (hl : lv_has ls 6 [(0, .ref (V.2.2 31)), (2, .int x2), (3, .int x3)]) : W p l e rm_Mod_findLive s m args below meth c H locs 0 0 (xZv below V args s Q) (F0 m 120 ls []) := by
  have hx := C.1
  have hb := C.2.1
  unfold b_Mod_findLive_L120 at h
  refine lv_iload_n hx hb d_Mod_findLive_120 rfl (lv_at hl 2 rfl) ?_
  refine lv_sipush (v := 640) hx hb d_Mod_findLive_121 (by decide) ?_
  refine lv_icmp_ge (tgt := 232) hx hb d_Mod_findLive_124 (by decide) (fun c5 => ?_) (fun c5 => ?_)
  · have h := h.1 c5
    refine lv_goto (tgt := 112) hx hb d_Mod_findLive_232 (by decide) ?_
    exact hK112 _ _ _ _ _ h hI (lv_sub hl [0, 1] rfl)
  · have h := h.2 c5
    refine lv_iconst (v := 0) hx hb d_Mod_findLive_127 (by decide) ?_
    refine lv_istore (lv' := [(4, .int 0), (0, .ref (V.2.2 31)), (2, .int x2), (3, .int x3)]) hx hb d_Mod_findLive_128 hl (by decide) rfl (fun ls hl => ?_)
    obtain ⟨n, h⟩ := h
    exact w_Mod_findLive_L130 C hlocks hr hK112 hK120 n _ _ _ _ _ _ _ h hI (lv_sub hl [1, 2, 3, 0] rfl)
theorem w_Mod_findLive_L120 {p : Program} {l : Launch} {e : Env} {s : State} {m : MethodId} {args : Array Value} {below : List Frame} {meth : Method} {c : Code} {V : xV} (C : xC p s m args c cd_Mod_findLive 6 R_Mod V) (hlocks : meth.locks = false) (hr : meth.sig.returnType = none) {Q : xS → Prop} {K112 : Int32 → xS → Prop} (hK112 : ∀ (x2 : Int32) (σ : xS) (H : Heap) (locs : List Loc) (ls : Array Slot), K112 x2 σ → xI V s.heap σ H locs → lv_has ls 6 [(0, .ref (V.2.2 31)), (2, .int x2)] → W p l e rm_Mod_findLive s m args below meth c H locs 0 0 (xZv below V args s Q) (F0 m 112 ls [])) : ∀ (n : Nat) (x2 : Int32) (x3 : Int32) (σ : xS) (H : Heap) (locs : List Loc) (ls : Array Slot), p_Mod_findLive_L120 K112 Q n x2 x3 σ → xI V s.heap σ H locs → lv_has ls 6 [(0, .ref (V.2.2 31)), (2, .int x2), (3, .int x3)] → W p l e rm_Mod_findLive s m args below meth c H locs 0 0 (xZv below V args s Q) (F0 m 120 ls []) := by
  intro n
  induction n with
  | zero =>
    intro x2 x3 σ H locs ls h
    exact False.elim h
  | succ n ih =>
    intro x2 x3 σ H locs ls h hI hl
    exact s_Mod_findLive_L120 C hlocks hr hK112 (K120 := p_Mod_findLive_L120 K112 Q n) (fun x2 x3 σ H locs ls h hI hl => ih x2 x3 σ H locs ls h hI hl) h hI hl
set_option maxRecDepth 100000 in
set_option maxHeartbeats 4000000 in
theorem s_Mod_findLive_L112 {p : Program} {l : Launch} {e : Env} {s : State} {m : MethodId} {args : Array Value} {below : List Frame} {meth : Method} {c : Code} {V : xV} (C : xC p s m args c cd_Mod_findLive 6 R_Mod V) (hlocks : meth.locks = false) (hr : meth.sig.returnType = none) {Q : xS → Prop} {K112 : Int32 → xS → Prop} (hK112 : ∀ (x2 : Int32) (σ : xS) (H : Heap) (locs : List Loc) (ls : Array Slot), K112 x2 σ → xI V s.heap σ H locs → lv_has ls 6 [(0, .ref (V.2.2 31)), (2, .int x2)] → W p l e rm_Mod_findLive s m args below meth c H locs 0 0 (xZv below V args s Q) (F0 m 112 ls [])) {x2 : Int32} {σ : xS} {H : Heap} {locs : List Loc} {ls : Array Slot} (h : b_Mod_findLive_L112 K112 Q x2 σ) (hI : xI V s.heap σ H locs) (hl : lv_has ls 6 [(0, .ref (V.2.2 31)), (2, .int x2)]) : W p l e rm_Mod_findLive s m args below meth c H locs 0 0 (xZv below V args s Q) (F0 m 112 ls []) := by
  have hx := C.1
  have hb := C.2.1
  unfold b_Mod_findLive_L112 at h
  refine lv_iload_n hx hb d_Mod_findLive_112 rfl (lv_at hl 1 rfl) ?_
  refine lv_if_eq (tgt := 235) hx hb d_Mod_findLive_113 (by decide) (fun c4 => ?_) (fun c4 => ?_)
  · have h := h.1 c4
    exact x_vret C hlocks hr hI h d_Mod_findLive_235
  · have h := h.2 c4
    refine lv_iconst (v := 0) hx hb d_Mod_findLive_116 (by decide) ?_
    refine lv_istore_n (lv' := [(2, .int 0), (0, .ref (V.2.2 31))]) hx hb d_Mod_findLive_117 rfl hl (by decide) rfl (fun ls hl => ?_)
    refine lv_iconst (v := 0) hx hb d_Mod_findLive_118 (by decide) ?_
    refine lv_istore_n (lv' := [(3, .int 0), (2, .int 0), (0, .ref (V.2.2 31))]) hx hb d_Mod_findLive_119 rfl hl (by decide) rfl (fun ls hl => ?_)
    obtain ⟨n, h⟩ := h
    exact w_Mod_findLive_L120 C hlocks hr hK112 n _ _ _ _ _ _ h hI (lv_sub hl [2, 1, 0] rfl)
theorem w_Mod_findLive_L112 {p : Program} {l : Launch} {e : Env} {s : State} {m : MethodId} {args : Array Value} {below : List Frame} {meth : Method} {c : Code} {V : xV} (C : xC p s m args c cd_Mod_findLive 6 R_Mod V) (hlocks : meth.locks = false) (hr : meth.sig.returnType = none) {Q : xS → Prop} : ∀ (n : Nat) (x2 : Int32) (σ : xS) (H : Heap) (locs : List Loc) (ls : Array Slot), p_Mod_findLive_L112 Q n x2 σ → xI V s.heap σ H locs → lv_has ls 6 [(0, .ref (V.2.2 31)), (2, .int x2)] → W p l e rm_Mod_findLive s m args below meth c H locs 0 0 (xZv below V args s Q) (F0 m 112 ls []) := by
  intro n
  induction n with
  | zero =>
    intro x2 σ H locs ls h
    exact False.elim h
  | succ n ih =>
    intro x2 σ H locs ls h hI hl
    exact s_Mod_findLive_L112 C hlocks hr (K112 := p_Mod_findLive_L112 Q n) (fun x2 σ H locs ls h hI hl => ih x2 σ H locs ls h hI hl) h hI hl
set_option maxRecDepth 100000 in
set_option maxHeartbeats 4000000 in
theorem s_Mod_findLive_L84 {p : Program} {l : Launch} {e : Env} {s : State} {m : MethodId} {args : Array Value} {below : List Frame} {meth : Method} {c : Code} {V : xV} (C : xC p s m args c cd_Mod_findLive 6 R_Mod V) (hlocks : meth.locks = false) (hr : meth.sig.returnType = none) {Q : xS → Prop} {K84 : Int32 → xS → Prop} (hK84 : ∀ (x2 : Int32) (σ : xS) (H : Heap) (locs : List Loc) (ls : Array Slot), K84 x2 σ → xI V s.heap σ H locs → lv_has ls 6 [(0, .ref (V.2.2 31)), (2, .int x2)] → W p l e rm_Mod_findLive s m args below meth c H locs 0 0 (xZv below V args s Q) (F0 m 84 ls [])) {x2 : Int32} {σ : xS} {H : Heap} {locs : List Loc} {ls : Array Slot} (h : b_Mod_findLive_L84 K84 Q x2 σ) (hI : xI V s.heap σ H locs) (hl : lv_has ls 6 [(0, .ref (V.2.2 31)), (2, .int x2)]) : W p l e rm_Mod_findLive s m args below meth c H locs 0 0 (xZv below V args s Q) (F0 m 84 ls []) := by
  have hx := C.1
  have hb := C.2.1
  unfold b_Mod_findLive_L84 at h
  refine lv_iload_n hx hb d_Mod_findLive_84 rfl (lv_at hl 1 rfl) ?_
  refine lv_aload_n hx hb d_Mod_findLive_85 rfl (lv_at hl 0 rfl) ?_
  refine x_get C hI (d := 31) (by decide) (xE31 V _) fd_Mod_97 rfl d_Mod_findLive_86 ?_
  refine lv_icmp_ge (tgt := 110) hx hb d_Mod_findLive_89 (by decide) (fun c3 => ?_) (fun c3 => ?_)
  · have h := h.1 c3
    refine lv_iconst (v := 1) hx hb d_Mod_findLive_110 (by decide) ?_
    refine lv_istore_n (lv' := [(2, .int 1), (0, .ref (V.2.2 31))]) hx hb d_Mod_findLive_111 rfl hl (by decide) rfl (fun ls hl => ?_)
    obtain ⟨n, h⟩ := h
    exact w_Mod_findLive_L112 C hlocks hr n _ _ _ _ _ h hI (lv_sub hl [1, 0] rfl)
  · have h := h.2 c3
    refine lv_aload_n hx hb d_Mod_findLive_92 rfl (lv_at hl 0 rfl) ?_
    refine x_get C hI (d := 31) (by decide) (xE31 V _) fd_Mod_34 rfl d_Mod_findLive_93 ?_
    refine lv_aload_n hx hb d_Mod_findLive_96 rfl (lv_at hl 0 rfl) ?_
    refine x_get C hI (d := 31) (by decide) (xE31 V _) fd_Mod_59 rfl d_Mod_findLive_97 ?_
    refine lv_iload_n hx hb d_Mod_findLive_100 rfl (lv_at hl 1 rfl) ?_
    obtain ⟨i29, h⟩ := h
    refine x_iald C hI (d := 56) (by decide) (xE56 V) i29 d_Mod_findLive_101 ?_
    refine lv_iconst (v := 1) hx hb d_Mod_findLive_102 (by decide) ?_
    obtain ⟨i30, h⟩ := h
    refine x_zast C hI (d := 48) (by decide) (xE48 V) i30 d_Mod_findLive_103 (fun H locs hI => ?_)
    obtain ⟨z31, ez31⟩ : ∃ y : Int32, y = x2 + 1 := ⟨_, rfl⟩
    have h := h z31 ez31
    refine lv_iinc (v := z31) (lv' := [(2, .int z31), (0, .ref (V.2.2 31))]) hx hb d_Mod_findLive_104 hl (k := 1) rfl (by rw [ez31]; rfl) (by decide) rfl (fun ls hl => ?_)
    refine lv_goto (tgt := 84) hx hb d_Mod_findLive_107 (by decide) ?_
    exact hK84 _ _ _ _ _ h hI (lv_sub hl [1, 0] rfl)
theorem w_Mod_findLive_L84 {p : Program} {l : Launch} {e : Env} {s : State} {m : MethodId} {args : Array Value} {below : List Frame} {meth : Method} {c : Code} {V : xV} (C : xC p s m args c cd_Mod_findLive 6 R_Mod V) (hlocks : meth.locks = false) (hr : meth.sig.returnType = none) {Q : xS → Prop} : ∀ (n : Nat) (x2 : Int32) (σ : xS) (H : Heap) (locs : List Loc) (ls : Array Slot), p_Mod_findLive_L84 Q n x2 σ → xI V s.heap σ H locs → lv_has ls 6 [(0, .ref (V.2.2 31)), (2, .int x2)] → W p l e rm_Mod_findLive s m args below meth c H locs 0 0 (xZv below V args s Q) (F0 m 84 ls []) := by
  intro n
  induction n with
  | zero =>
    intro x2 σ H locs ls h
    exact False.elim h
  | succ n ih =>
    intro x2 σ H locs ls h hI hl
    exact s_Mod_findLive_L84 C hlocks hr (K84 := p_Mod_findLive_L84 Q n) (fun x2 σ H locs ls h hI hl => ih x2 σ H locs ls h hI hl) h hI hl
set_option maxRecDepth 100000 in
set_option maxHeartbeats 4000000 in
theorem s_Mod_findLive_L48 {p : Program} {l : Launch} {e : Env} {s : State} {m : MethodId} {args : Array Value} {below : List Frame} {meth : Method} {c : Code} {V : xV} (C : xC p s m args c cd_Mod_findLive 6 R_Mod V) (hlocks : meth.locks = false) (hr : meth.sig.returnType = none) {Q : xS → Prop} {K48 : Int32 → xS → Prop} (hK48 : ∀ (x2 : Int32) (σ : xS) (H : Heap) (locs : List Loc) (ls : Array Slot), K48 x2 σ → xI V s.heap σ H locs → lv_has ls 6 [(0, .ref (V.2.2 31)), (2, .int x2)] → W p l e rm_Mod_findLive s m args below meth c H locs 0 0 (xZv below V args s Q) (F0 m 48 ls [])) {x2 : Int32} {σ : xS} {H : Heap} {locs : List Loc} {ls : Array Slot} (h : b_Mod_findLive_L48 K48 Q x2 σ) (hI : xI V s.heap σ H locs) (hl : lv_has ls 6 [(0, .ref (V.2.2 31)), (2, .int x2)]) : W p l e rm_Mod_findLive s m args below meth c H locs 0 0 (xZv below V args s Q) (F0 m 48 ls []) := by
  have hx := C.1
  have hb := C.2.1
  unfold b_Mod_findLive_L48 at h
  refine lv_iload_n hx hb d_Mod_findLive_48 rfl (lv_at hl 1 rfl) ?_
  refine lv_bipush (v := 16) hx hb d_Mod_findLive_49 (by decide) ?_
  refine lv_icmp_ge (tgt := 82) hx hb d_Mod_findLive_51 (by decide) (fun c2 => ?_) (fun c2 => ?_)
  · have h := h.1 c2
    refine lv_iconst (v := 0) hx hb d_Mod_findLive_82 (by decide) ?_
    refine lv_istore_n (lv' := [(2, .int 0), (0, .ref (V.2.2 31))]) hx hb d_Mod_findLive_83 rfl hl (by decide) rfl (fun ls hl => ?_)
    obtain ⟨n, h⟩ := h
    exact w_Mod_findLive_L84 C hlocks hr n _ _ _ _ _ h hI (lv_sub hl [1, 0] rfl)
  · have h := h.2 c2
    refine lv_aload_n hx hb d_Mod_findLive_54 rfl (lv_at hl 0 rfl) ?_
    refine x_get C hI (d := 31) (by decide) (xE31 V _) fd_Mod_53 rfl d_Mod_findLive_55 ?_
    refine lv_iload_n hx hb d_Mod_findLive_58 rfl (lv_at hl 1 rfl) ?_
    obtain ⟨i32, h⟩ := h
    refine x_iald C hI (d := 54) (by decide) (xE54 V) i32 d_Mod_findLive_59 ?_
    refine lv_iconst (v := 2) hx hb d_Mod_findLive_60 (by decide) ?_
    refine lv_icmp_ne (tgt := 76) hx hb d_Mod_findLive_61 (by decide) (fun c33 => ?_) (fun c33 => ?_)
    · have h := h.1 c33
      obtain ⟨z34, ez34⟩ : ∃ y : Int32, y = x2 + 1 := ⟨_, rfl⟩
      have h := h z34 ez34
      refine lv_iinc (v := z34) (lv' := [(2, .int z34), (0, .ref (V.2.2 31))]) hx hb d_Mod_findLive_76 hl (k := 1) rfl (by rw [ez34]; rfl) (by decide) rfl (fun ls hl => ?_)
      refine lv_goto (tgt := 48) hx hb d_Mod_findLive_79 (by decide) ?_
      exact hK48 _ _ _ _ _ h hI (lv_sub hl [1, 0] rfl)
    · have h := h.2 c33
      refine lv_aload_n hx hb d_Mod_findLive_64 rfl (lv_at hl 0 rfl) ?_
      refine x_get C hI (d := 31) (by decide) (xE31 V _) fd_Mod_34 rfl d_Mod_findLive_65 ?_
      refine lv_aload_n hx hb d_Mod_findLive_68 rfl (lv_at hl 0 rfl) ?_
      refine x_get C hI (d := 31) (by decide) (xE31 V _) fd_Mod_56 rfl d_Mod_findLive_69 ?_
      refine lv_iload_n hx hb d_Mod_findLive_72 rfl (lv_at hl 1 rfl) ?_
      obtain ⟨i35, h⟩ := h
      refine x_iald C hI (d := 55) (by decide) (xE55 V) i35 d_Mod_findLive_73 ?_
      refine lv_iconst (v := 1) hx hb d_Mod_findLive_74 (by decide) ?_
      obtain ⟨i36, h⟩ := h
      refine x_zast C hI (d := 48) (by decide) (xE48 V) i36 d_Mod_findLive_75 (fun H locs hI => ?_)
      obtain ⟨z37, ez37⟩ : ∃ y : Int32, y = x2 + 1 := ⟨_, rfl⟩
      have h := h z37 ez37
      refine lv_iinc (v := z37) (lv' := [(2, .int z37), (0, .ref (V.2.2 31))]) hx hb d_Mod_findLive_76 hl (k := 1) rfl (by rw [ez37]; rfl) (by decide) rfl (fun ls hl => ?_)
      refine lv_goto (tgt := 48) hx hb d_Mod_findLive_79 (by decide) ?_
      exact hK48 _ _ _ _ _ h hI (lv_sub hl [1, 0] rfl)
theorem w_Mod_findLive_L48 {p : Program} {l : Launch} {e : Env} {s : State} {m : MethodId} {args : Array Value} {below : List Frame} {meth : Method} {c : Code} {V : xV} (C : xC p s m args c cd_Mod_findLive 6 R_Mod V) (hlocks : meth.locks = false) (hr : meth.sig.returnType = none) {Q : xS → Prop} : ∀ (n : Nat) (x2 : Int32) (σ : xS) (H : Heap) (locs : List Loc) (ls : Array Slot), p_Mod_findLive_L48 Q n x2 σ → xI V s.heap σ H locs → lv_has ls 6 [(0, .ref (V.2.2 31)), (2, .int x2)] → W p l e rm_Mod_findLive s m args below meth c H locs 0 0 (xZv below V args s Q) (F0 m 48 ls []) := by
  intro n
  induction n with
  | zero =>
    intro x2 σ H locs ls h
    exact False.elim h
  | succ n ih =>
    intro x2 σ H locs ls h hI hl
    exact s_Mod_findLive_L48 C hlocks hr (K48 := p_Mod_findLive_L48 Q n) (fun x2 σ H locs ls h hI hl => ih x2 σ H locs ls h hI hl) h hI hl
set_option maxRecDepth 100000 in
set_option maxHeartbeats 4000000 in
theorem s_Mod_findLive_L2 {p : Program} {l : Launch} {e : Env} {s : State} {m : MethodId} {args : Array Value} {below : List Frame} {meth : Method} {c : Code} {V : xV} (C : xC p s m args c cd_Mod_findLive 6 R_Mod V) (hlocks : meth.locks = false) (hr : meth.sig.returnType = none) {Q : xS → Prop} {K2 : Int32 → Int32 → xS → Prop} (hK2 : ∀ (x1 : Int32) (x2 : Int32) (σ : xS) (H : Heap) (locs : List Loc) (ls : Array Slot), K2 x1 x2 σ → xI V s.heap σ H locs → lv_has ls 6 [(0, .ref (V.2.2 31)), (1, .int x1), (2, .int x2)] → W p l e rm_Mod_findLive s m args below meth c H locs 0 0 (xZv below V args s Q) (F0 m 2 ls [])) {x1 x2 : Int32} {σ : xS} {H : Heap} {locs : List Loc} {ls : Array Slot} (h : b_Mod_findLive_L2 K2 Q x1 x2 σ) (hI : xI V s.heap σ H locs) (hl : lv_has ls 6 [(0, .ref (V.2.2 31)), (1, .int x1), (2, .int x2)]) : W p l e rm_Mod_findLive s m args below meth c H locs 0 0 (xZv below V args s Q) (F0 m 2 ls []) := by
  have hx := C.1
  have hb := C.2.1
  unfold b_Mod_findLive_L2 at h
  refine lv_iload_n hx hb d_Mod_findLive_2 rfl (lv_at hl 2 rfl) ?_
  refine lv_sipush (v := 640) hx hb d_Mod_findLive_3 (by decide) ?_
  refine lv_icmp_ge (tgt := 46) hx hb d_Mod_findLive_6 (by decide) (fun c1 => ?_) (fun c1 => ?_)
  · have h := h.1 c1
    refine lv_iconst (v := 0) hx hb d_Mod_findLive_46 (by decide) ?_
    refine lv_istore_n (lv' := [(2, .int 0), (0, .ref (V.2.2 31)), (1, .int x1)]) hx hb d_Mod_findLive_47 rfl hl (by decide) rfl (fun ls hl => ?_)
    obtain ⟨n, h⟩ := h
    exact w_Mod_findLive_L48 C hlocks hr n _ _ _ _ _ h hI (lv_sub hl [1, 0] rfl)
  · have h := h.2 c1
    refine lv_aload_n hx hb d_Mod_findLive_9 rfl (lv_at hl 0 rfl) ?_
    refine x_get C hI (d := 31) (by decide) (xE31 V _) fd_Mod_34 rfl d_Mod_findLive_10 ?_
    refine lv_iload_n hx hb d_Mod_findLive_13 rfl (lv_at hl 2 rfl) ?_
    refine lv_aload_n hx hb d_Mod_findLive_14 rfl (lv_at hl 0 rfl) ?_
    refine x_get C hI (d := 31) (by decide) (xE31 V _) fd_Mod_7 rfl d_Mod_findLive_15 ?_
    refine lv_iload_n hx hb d_Mod_findLive_18 rfl (lv_at hl 2 rfl) ?_
    obtain ⟨i38, h⟩ := h
    refine x_iald C hI (d := 40) (by decide) (xE40 V) i38 d_Mod_findLive_19 ?_
    refine lv_iconst (v := (-1)) hx hb d_Mod_findLive_20 (by decide) ?_
    refine lv_icmp_eq (tgt := 38) hx hb d_Mod_findLive_21 (by decide) (fun c39 => ?_) (fun c39 => ?_)
    · have h := h.1 c39
      refine lv_iconst (v := 0) hx hb d_Mod_findLive_38 (by decide) ?_
      obtain ⟨i40, h⟩ := h
      refine x_zast C hI (d := 48) (by decide) (xE48 V) i40 d_Mod_findLive_39 (fun H locs hI => ?_)
      obtain ⟨z41, ez41⟩ : ∃ y : Int32, y = x2 + 1 := ⟨_, rfl⟩
      have h := h z41 ez41
      refine lv_iinc (v := z41) (lv' := [(2, .int z41), (0, .ref (V.2.2 31)), (1, .int x1)]) hx hb d_Mod_findLive_40 hl (k := 2) rfl (by rw [ez41]; rfl) (by decide) rfl (fun ls hl => ?_)
      refine lv_goto (tgt := 2) hx hb d_Mod_findLive_43 (by decide) ?_
      exact hK2 _ _ _ _ _ _ h hI (lv_sub hl [1, 2, 0] rfl)
    · have h := h.2 c39
      refine lv_aload_n hx hb d_Mod_findLive_24 rfl (lv_at hl 0 rfl) ?_
      refine x_get C hI (d := 31) (by decide) (xE31 V _) fd_Mod_19 rfl d_Mod_findLive_25 ?_
      refine lv_iload_n hx hb d_Mod_findLive_28 rfl (lv_at hl 2 rfl) ?_
      obtain ⟨i42, h⟩ := h
      refine x_iald C hI (d := 43) (by decide) (xE43 V) i42 d_Mod_findLive_29 ?_
      refine lv_iload_n hx hb d_Mod_findLive_30 rfl (lv_at hl 1 rfl) ?_
      refine lv_icmp_ge (tgt := 38) hx hb d_Mod_findLive_31 (by decide) (fun c43 => ?_) (fun c43 => ?_)
      · have h := h.1 c43
        refine lv_iconst (v := 0) hx hb d_Mod_findLive_38 (by decide) ?_
        obtain ⟨i44, h⟩ := h
        refine x_zast C hI (d := 48) (by decide) (xE48 V) i44 d_Mod_findLive_39 (fun H locs hI => ?_)
        obtain ⟨z45, ez45⟩ : ∃ y : Int32, y = x2 + 1 := ⟨_, rfl⟩
        have h := h z45 ez45
        refine lv_iinc (v := z45) (lv' := [(2, .int z45), (0, .ref (V.2.2 31)), (1, .int x1)]) hx hb d_Mod_findLive_40 hl (k := 2) rfl (by rw [ez45]; rfl) (by decide) rfl (fun ls hl => ?_)
        refine lv_goto (tgt := 2) hx hb d_Mod_findLive_43 (by decide) ?_
        exact hK2 _ _ _ _ _ _ h hI (lv_sub hl [1, 2, 0] rfl)
      · have h := h.2 c43
        refine lv_iconst (v := 1) hx hb d_Mod_findLive_34 (by decide) ?_
        refine lv_goto (tgt := 39) hx hb d_Mod_findLive_35 (by decide) ?_
        obtain ⟨i46, h⟩ := h
        refine x_zast C hI (d := 48) (by decide) (xE48 V) i46 d_Mod_findLive_39 (fun H locs hI => ?_)
        obtain ⟨z47, ez47⟩ : ∃ y : Int32, y = x2 + 1 := ⟨_, rfl⟩
        have h := h z47 ez47
        refine lv_iinc (v := z47) (lv' := [(2, .int z47), (0, .ref (V.2.2 31)), (1, .int x1)]) hx hb d_Mod_findLive_40 hl (k := 2) rfl (by rw [ez47]; rfl) (by decide) rfl (fun ls hl => ?_)
        refine lv_goto (tgt := 2) hx hb d_Mod_findLive_43 (by decide) ?_
        exact hK2 _ _ _ _ _ _ h hI (lv_sub hl [1, 2, 0] rfl)
theorem w_Mod_findLive_L2 {p : Program} {l : Launch} {e : Env} {s : State} {m : MethodId} {args : Array Value} {below : List Frame} {meth : Method} {c : Code} {V : xV} (C : xC p s m args c cd_Mod_findLive 6 R_Mod V) (hlocks : meth.locks = false) (hr : meth.sig.returnType = none) {Q : xS → Prop} : ∀ (n : Nat) (x1 : Int32) (x2 : Int32) (σ : xS) (H : Heap) (locs : List Loc) (ls : Array Slot), p_Mod_findLive_L2 Q n x1 x2 σ → xI V s.heap σ H locs → lv_has ls 6 [(0, .ref (V.2.2 31)), (1, .int x1), (2, .int x2)] → W p l e rm_Mod_findLive s m args below meth c H locs 0 0 (xZv below V args s Q) (F0 m 2 ls []) := by
  intro n
  induction n with
  | zero =>
    intro x1 x2 σ H locs ls h
    exact False.elim h
  | succ n ih =>
    intro x1 x2 σ H locs ls h hI hl
    exact s_Mod_findLive_L2 C hlocks hr (K2 := p_Mod_findLive_L2 Q n) (fun x1 x2 σ H locs ls h hI hl => ih x1 x2 σ H locs ls h hI hl) h hI hl
set_option maxRecDepth 100000 in
set_option maxHeartbeats 4000000 in
theorem c_Mod_findLive {l : Launch} {V : xV} {σ : xS} {x1 : Int32} {Q : xS → Prop} (h : p_Mod_findLive x1 σ Q) : xMv l y_Mod_findLive (.code y_Mod_findLive cd_Mod_findLive 6 none :: xG) rm_Mod_findLive V [.ref (V.2.2 31), .int x1] σ Q := by
  refine x_beginv (by decide) (Nat.le_of_ble_eq_true rfl) (fun p e s m below meth c ls C hlocks hr hI hl => ?_)
  have C : xC p s m _ c cd_Mod_findLive 6 R_Mod V := C
  have hx := C.1
  have hb := C.2.1
  have hl : lv_has ls 6 [(0, .ref (V.2.2 31)), (1, .int x1)] := hl
  unfold p_Mod_findLive at h
  refine lv_iconst (v := 0) hx hb d_Mod_findLive_0 (by decide) ?_
  refine lv_istore_n (lv' := [(2, .int 0), (0, .ref (V.2.2 31)), (1, .int x1)]) hx hb d_Mod_findLive_1 rfl hl (by decide) rfl (fun ls hl => ?_)
  obtain ⟨n, h⟩ := h
  exact w_Mod_findLive_L2 C hlocks hr n _ _ _ _ _ _ h hI (lv_sub hl [1, 2, 0] rfl)
theorem yw_Mod_findLive : xY y_Mod_findLive cd_Mod_findLive 6 none 1 := ⟨xG_mem 1116 (by decide +kernel) (by decide +kernel), xG_mem 35 (by decide +kernel) (by decide +kernel), xG_mem 65 (by decide +kernel) (by decide +kernel), xG_mem 1117 (by decide +kernel) (by decide +kernel), by decide, by decide, by decide +kernel⟩
theorem ml_Mod_118 : Cond.methodLink R_Mod 118 y_Mod_findLive ∈ xG := xG_mem 1114 (by decide +kernel) (by decide +kernel)
def y_Mod_forget : MethodName := ⟨"RegionPoolModel", "forget", "(I)V"⟩
abbrev cd_Mod_forget : ByteArray := prog_12_method_19_code
def y_Mod_isYoung : MethodName := ⟨"RegionPoolModel", "isYoung", "(II)Z"⟩
abbrev cd_Mod_isYoung : ByteArray := prog_12_method_18_code
def p_Mod_isYoung (x1 x2 : Int32) (σ : xS) (Q : Int32 → xS → Prop) : Prop :=
  (vp_in x1 640 ∧ (((σ 40 x1.toNatClampNeg) = (-1) → Q 0 σ) ∧ (¬ (σ 40 x1.toNatClampNeg) = (-1) → (vp_in x1 640 ∧ (((σ 43 x1.toNatClampNeg) < x2 → Q 0 σ) ∧ (¬ (σ 43 x1.toNatClampNeg) < x2 → Q 1 σ))))))
abbrev rm_Mod_isYoung : Room := { frames := 0, cells := 0, slots := 0, locals := 0 }
theorem d_Mod_isYoung_0 : decode cd_Mod_isYoung 0 = .ok (.aload_n 0, 1) := by decide +kernel
theorem d_Mod_isYoung_1 : decode cd_Mod_isYoung 1 = .ok (.getfield 7, 3) := by decide +kernel
theorem d_Mod_isYoung_4 : decode cd_Mod_isYoung 4 = .ok (.iload_n 1, 1) := by decide +kernel
theorem d_Mod_isYoung_5 : decode cd_Mod_isYoung 5 = .ok (.iaload, 1) := by decide +kernel
theorem d_Mod_isYoung_6 : decode cd_Mod_isYoung 6 = .ok (.iconst (-1), 1) := by decide +kernel
theorem d_Mod_isYoung_7 : decode cd_Mod_isYoung 7 = .ok (.if_icmp .eq 17, 3) := by decide +kernel
theorem d_Mod_isYoung_10 : decode cd_Mod_isYoung 10 = .ok (.aload_n 0, 1) := by decide +kernel
theorem d_Mod_isYoung_11 : decode cd_Mod_isYoung 11 = .ok (.getfield 19, 3) := by decide +kernel
theorem d_Mod_isYoung_14 : decode cd_Mod_isYoung 14 = .ok (.iload_n 1, 1) := by decide +kernel
theorem d_Mod_isYoung_15 : decode cd_Mod_isYoung 15 = .ok (.iaload, 1) := by decide +kernel
theorem d_Mod_isYoung_16 : decode cd_Mod_isYoung 16 = .ok (.iload_n 2, 1) := by decide +kernel
theorem d_Mod_isYoung_17 : decode cd_Mod_isYoung 17 = .ok (.if_icmp .lt 7, 3) := by decide +kernel
theorem d_Mod_isYoung_20 : decode cd_Mod_isYoung 20 = .ok (.iconst 1, 1) := by decide +kernel
theorem d_Mod_isYoung_21 : decode cd_Mod_isYoung 21 = .ok (.goto 4, 3) := by decide +kernel
theorem d_Mod_isYoung_24 : decode cd_Mod_isYoung 24 = .ok (.iconst 0, 1) := by decide +kernel
theorem d_Mod_isYoung_25 : decode cd_Mod_isYoung 25 = .ok (.ireturn, 1) := by decide +kernel
set_option maxRecDepth 100000 in
set_option maxHeartbeats 4000000 in
theorem c_Mod_isYoung {l : Launch} {V : xV} {σ : xS} {x1 x2 : Int32} {Q : Int32 → xS → Prop} (h : p_Mod_isYoung x1 x2 σ Q) : xMi l y_Mod_isYoung (.code y_Mod_isYoung cd_Mod_isYoung 3 (some .boolean) :: xG) rm_Mod_isYoung V [.ref (V.2.2 31), .int x1, .int x2] σ Q := by
  refine x_begini (by decide) (Nat.le_of_ble_eq_true rfl) (fun p e s m below meth c ls C hlocks hr hI hl => ?_)
  have C : xC p s m _ c cd_Mod_isYoung 3 R_Mod V := C
  have hx := C.1
  have hb := C.2.1
  have hl : lv_has ls 3 [(0, .ref (V.2.2 31)), (1, .int x1), (2, .int x2)] := hl
  unfold p_Mod_isYoung at h
  refine lv_aload_n hx hb d_Mod_isYoung_0 rfl (lv_at hl 0 rfl) ?_
  refine x_get C hI (d := 31) (by decide) (xE31 V _) fd_Mod_7 rfl d_Mod_isYoung_1 ?_
  refine lv_iload_n hx hb d_Mod_isYoung_4 rfl (lv_at hl 1 rfl) ?_
  obtain ⟨i1, h⟩ := h
  refine x_iald C hI (d := 40) (by decide) (xE40 V) i1 d_Mod_isYoung_5 ?_
  refine lv_iconst (v := (-1)) hx hb d_Mod_isYoung_6 (by decide) ?_
  refine lv_icmp_eq (tgt := 24) hx hb d_Mod_isYoung_7 (by decide) (fun c2 => ?_) (fun c2 => ?_)
  · have h := h.1 c2
    refine lv_iconst (v := 0) hx hb d_Mod_isYoung_24 (by decide) ?_
    exact x_zret C hlocks hr hI ⟨rfl, h⟩ d_Mod_isYoung_25
  · have h := h.2 c2
    refine lv_aload_n hx hb d_Mod_isYoung_10 rfl (lv_at hl 0 rfl) ?_
    refine x_get C hI (d := 31) (by decide) (xE31 V _) fd_Mod_19 rfl d_Mod_isYoung_11 ?_
    refine lv_iload_n hx hb d_Mod_isYoung_14 rfl (lv_at hl 1 rfl) ?_
    obtain ⟨i3, h⟩ := h
    refine x_iald C hI (d := 43) (by decide) (xE43 V) i3 d_Mod_isYoung_15 ?_
    refine lv_iload_n hx hb d_Mod_isYoung_16 rfl (lv_at hl 2 rfl) ?_
    refine lv_icmp_lt (tgt := 24) hx hb d_Mod_isYoung_17 (by decide) (fun c4 => ?_) (fun c4 => ?_)
    · have h := h.1 c4
      refine lv_iconst (v := 0) hx hb d_Mod_isYoung_24 (by decide) ?_
      exact x_zret C hlocks hr hI ⟨rfl, h⟩ d_Mod_isYoung_25
    · have h := h.2 c4
      refine lv_iconst (v := 1) hx hb d_Mod_isYoung_20 (by decide) ?_
      refine lv_goto (tgt := 25) hx hb d_Mod_isYoung_21 (by decide) ?_
      exact x_zret C hlocks hr hI ⟨rfl, h⟩ d_Mod_isYoung_25
theorem yw_Mod_isYoung : xY y_Mod_isYoung cd_Mod_isYoung 3 (some .boolean) 2 := ⟨xG_mem 1132 (by decide +kernel) (by decide +kernel), xG_mem 39 (by decide +kernel) (by decide +kernel), xG_mem 65 (by decide +kernel) (by decide +kernel), xG_mem 1133 (by decide +kernel) (by decide +kernel), by decide, by decide, by decide +kernel⟩
theorem ml_Mod_111 : Cond.methodLink R_Mod 111 y_Mod_isYoung ∈ xG := xG_mem 1130 (by decide +kernel) (by decide +kernel)
def y_Mod_empty : MethodName := ⟨"RegionPoolModel", "empty", "(II)V"⟩
abbrev cd_Mod_empty : ByteArray := prog_12_method_17_code
def p_Mod_empty (x1 x2 : Int32) (σ : xS) (Q : xS → Prop) : Prop :=
  (vp_in ((15 * x1) + x2) 9600 ∧ (vp_in ((15 * x1) + x2) 9600 ∧ Q (xu (xu σ 46 ((15 * x1) + x2).toNatClampNeg 0) 47 ((15 * x1) + x2).toNatClampNeg 0)))
abbrev rm_Mod_empty : Room := { frames := 0, cells := 0, slots := 0, locals := 0 }
theorem d_Mod_empty_0 : decode cd_Mod_empty 0 = .ok (.aload_n 0, 1) := by decide +kernel
theorem d_Mod_empty_1 : decode cd_Mod_empty 1 = .ok (.getfield 28, 3) := by decide +kernel
theorem d_Mod_empty_4 : decode cd_Mod_empty 4 = .ok (.bipush 15, 2) := by decide +kernel
theorem d_Mod_empty_6 : decode cd_Mod_empty 6 = .ok (.iload_n 1, 1) := by decide +kernel
theorem d_Mod_empty_7 : decode cd_Mod_empty 7 = .ok (.imul, 1) := by decide +kernel
theorem d_Mod_empty_8 : decode cd_Mod_empty 8 = .ok (.iload_n 2, 1) := by decide +kernel
theorem d_Mod_empty_9 : decode cd_Mod_empty 9 = .ok (.iadd, 1) := by decide +kernel
theorem d_Mod_empty_10 : decode cd_Mod_empty 10 = .ok (.iconst 0, 1) := by decide +kernel
theorem d_Mod_empty_11 : decode cd_Mod_empty 11 = .ok (.iastore, 1) := by decide +kernel
theorem d_Mod_empty_12 : decode cd_Mod_empty 12 = .ok (.aload_n 0, 1) := by decide +kernel
theorem d_Mod_empty_13 : decode cd_Mod_empty 13 = .ok (.getfield 31, 3) := by decide +kernel
theorem d_Mod_empty_16 : decode cd_Mod_empty 16 = .ok (.bipush 15, 2) := by decide +kernel
theorem d_Mod_empty_18 : decode cd_Mod_empty 18 = .ok (.iload_n 1, 1) := by decide +kernel
theorem d_Mod_empty_19 : decode cd_Mod_empty 19 = .ok (.imul, 1) := by decide +kernel
theorem d_Mod_empty_20 : decode cd_Mod_empty 20 = .ok (.iload_n 2, 1) := by decide +kernel
theorem d_Mod_empty_21 : decode cd_Mod_empty 21 = .ok (.iadd, 1) := by decide +kernel
theorem d_Mod_empty_22 : decode cd_Mod_empty 22 = .ok (.iconst 0, 1) := by decide +kernel
theorem d_Mod_empty_23 : decode cd_Mod_empty 23 = .ok (.iastore, 1) := by decide +kernel
theorem d_Mod_empty_24 : decode cd_Mod_empty 24 = .ok (.return_, 1) := by decide +kernel
set_option maxRecDepth 100000 in
set_option maxHeartbeats 4000000 in
theorem c_Mod_empty {l : Launch} {V : xV} {σ : xS} {x1 x2 : Int32} {Q : xS → Prop} (h : p_Mod_empty x1 x2 σ Q) : xMv l y_Mod_empty (.code y_Mod_empty cd_Mod_empty 3 none :: xG) rm_Mod_empty V [.ref (V.2.2 31), .int x1, .int x2] σ Q := by
  refine x_beginv (by decide) (Nat.le_of_ble_eq_true rfl) (fun p e s m below meth c ls C hlocks hr hI hl => ?_)
  have C : xC p s m _ c cd_Mod_empty 3 R_Mod V := C
  have hx := C.1
  have hb := C.2.1
  have hl : lv_has ls 3 [(0, .ref (V.2.2 31)), (1, .int x1), (2, .int x2)] := hl
  unfold p_Mod_empty at h
  refine lv_aload_n hx hb d_Mod_empty_0 rfl (lv_at hl 0 rfl) ?_
  refine x_get C hI (d := 31) (by decide) (xE31 V _) fd_Mod_28 rfl d_Mod_empty_1 ?_
  refine lv_bipush (v := 15) hx hb d_Mod_empty_4 (by decide) ?_
  refine lv_iload_n hx hb d_Mod_empty_6 rfl (lv_at hl 1 rfl) ?_
  refine lv_imul hx hb d_Mod_empty_7 ?_
  refine lv_iload_n hx hb d_Mod_empty_8 rfl (lv_at hl 2 rfl) ?_
  refine lv_iadd hx hb d_Mod_empty_9 ?_
  refine lv_iconst (v := 0) hx hb d_Mod_empty_10 (by decide) ?_
  obtain ⟨i1, h⟩ := h
  refine x_iast C hI (d := 46) (by decide) (xE46 V) i1 d_Mod_empty_11 (fun H locs hI => ?_)
  refine lv_aload_n hx hb d_Mod_empty_12 rfl (lv_at hl 0 rfl) ?_
  refine x_get C hI (d := 31) (by decide) (xE31 V _) fd_Mod_31 rfl d_Mod_empty_13 ?_
  refine lv_bipush (v := 15) hx hb d_Mod_empty_16 (by decide) ?_
  refine lv_iload_n hx hb d_Mod_empty_18 rfl (lv_at hl 1 rfl) ?_
  refine lv_imul hx hb d_Mod_empty_19 ?_
  refine lv_iload_n hx hb d_Mod_empty_20 rfl (lv_at hl 2 rfl) ?_
  refine lv_iadd hx hb d_Mod_empty_21 ?_
  refine lv_iconst (v := 0) hx hb d_Mod_empty_22 (by decide) ?_
  obtain ⟨i2, h⟩ := h
  refine x_iast C hI (d := 47) (by decide) (xE47 V) i2 d_Mod_empty_23 (fun H locs hI => ?_)
  exact x_vret C hlocks hr hI h d_Mod_empty_24
theorem yw_Mod_empty : xY y_Mod_empty cd_Mod_empty 3 none 2 := ⟨xG_mem 1136 (by decide +kernel) (by decide +kernel), xG_mem 40 (by decide +kernel) (by decide +kernel), xG_mem 65 (by decide +kernel) (by decide +kernel), xG_mem 1137 (by decide +kernel) (by decide +kernel), by decide, by decide, by decide +kernel⟩
theorem ml_Mod_114 : Cond.methodLink R_Mod 114 y_Mod_empty ∈ xG := xG_mem 1134 (by decide +kernel) (by decide +kernel)
def b_Mod_forget_L11 (K2 : Int32 → Int32 → xS → Prop) (K11 : Int32 → Int32 → Int32 → xS → Prop) (Q : xS → Prop) (x1 x2 x3 : Int32) (σ : xS) : Prop :=
  p_Mod_isYoung x2 x1 σ (fun r3 σ2 => ((r3 = 0 → (∀ z5 : Int32, z5 = x2 + 1 → K2 x1 z5 σ2)) ∧ (¬ r3 = 0 → (vp_in x2 640 ∧ (((σ2 48 x2.toNatClampNeg) = 0 → (∀ z8 : Int32, z8 = x2 + 1 → K2 x1 z8 σ2)) ∧ (¬ (σ2 48 x2.toNatClampNeg) = 0 → (vp_in x2 640 ∧ ((¬ (σ2 40 x2.toNatClampNeg) = 1 → (∀ z11 : Int32, z11 = x2 + 1 → K2 x1 z11 σ2)) ∧ ((σ2 40 x2.toNatClampNeg) = 1 → (vp_in x2 640 ∧ (((σ2 42 x2.toNatClampNeg) ≤ x3 → (∀ z14 : Int32, z14 = x2 + 1 → K2 x1 z14 σ2)) ∧ (¬ (σ2 42 x2.toNatClampNeg) ≤ x3 → (vp_in ((15 * x2) + x3) 9600 ∧ (vp_in ((15 * x2) + x3) 9600 ∧ p_Mod_isLive (σ2 46 ((15 * x2) + x3).toNatClampNeg) (σ2 47 ((15 * x2) + x3).toNatClampNeg) σ2 (fun r18 σ17 => ((¬ r18 = 0 → (∀ z20 : Int32, z20 = x3 + 1 → K11 x1 x2 z20 σ17)) ∧ (r18 = 0 → p_Mod_empty x2 x3 σ17 (fun σ21 => (∀ z22 : Int32, z22 = x3 + 1 → K11 x1 x2 z22 σ21)))))))))))))))))))
def p_Mod_forget_L11 (K2 : Int32 → Int32 → xS → Prop) (Q : xS → Prop) (n : Nat) : Int32 → Int32 → Int32 → xS → Prop := Nat.rec (motive := fun _ => Int32 → Int32 → Int32 → xS → Prop) (fun _ _ _ _ => False) (fun _ K x1 x2 x3 σ => b_Mod_forget_L11 K2 K Q x1 x2 x3 σ) n
def b_Mod_forget_L2 (K2 : Int32 → Int32 → xS → Prop) (Q : xS → Prop) (x1 x2 : Int32) (σ : xS) : Prop :=
  ((640 ≤ x2 → Q σ) ∧ (¬ 640 ≤ x2 → (∃ n, p_Mod_forget_L11 K2 Q n x1 x2 0 σ)))
def p_Mod_forget_L2 (Q : xS → Prop) (n : Nat) : Int32 → Int32 → xS → Prop := Nat.rec (motive := fun _ => Int32 → Int32 → xS → Prop) (fun _ _ _ => False) (fun _ K x1 x2 σ => b_Mod_forget_L2 K Q x1 x2 σ) n
def p_Mod_forget (x1 : Int32) (σ : xS) (Q : xS → Prop) : Prop :=
  (∃ n, p_Mod_forget_L2 Q n x1 0 σ)
abbrev rm_Mod_forget : Room := { frames := 1, cells := 0, slots := 0, locals := 22 }
theorem d_Mod_forget_0 : decode cd_Mod_forget 0 = .ok (.iconst 0, 1) := by decide +kernel
theorem d_Mod_forget_1 : decode cd_Mod_forget 1 = .ok (.istore_n 2, 1) := by decide +kernel
theorem d_Mod_forget_2 : decode cd_Mod_forget 2 = .ok (.iload_n 2, 1) := by decide +kernel
theorem d_Mod_forget_3 : decode cd_Mod_forget 3 = .ok (.sipush 640, 3) := by decide +kernel
theorem d_Mod_forget_6 : decode cd_Mod_forget 6 = .ok (.if_icmp .ge 90, 3) := by decide +kernel
theorem d_Mod_forget_9 : decode cd_Mod_forget 9 = .ok (.iconst 0, 1) := by decide +kernel
theorem d_Mod_forget_10 : decode cd_Mod_forget 10 = .ok (.istore_n 3, 1) := by decide +kernel
theorem d_Mod_forget_11 : decode cd_Mod_forget 11 = .ok (.aload_n 0, 1) := by decide +kernel
theorem d_Mod_forget_12 : decode cd_Mod_forget 12 = .ok (.iload_n 2, 1) := by decide +kernel
theorem d_Mod_forget_13 : decode cd_Mod_forget 13 = .ok (.iload_n 1, 1) := by decide +kernel
theorem d_Mod_forget_14 : decode cd_Mod_forget 14 = .ok (.invokevirtual 111, 3) := by decide +kernel
theorem d_Mod_forget_17 : decode cd_Mod_forget 17 = .ok (.ifCond .eq 73, 3) := by decide +kernel
theorem d_Mod_forget_20 : decode cd_Mod_forget 20 = .ok (.aload_n 0, 1) := by decide +kernel
theorem d_Mod_forget_21 : decode cd_Mod_forget 21 = .ok (.getfield 34, 3) := by decide +kernel
theorem d_Mod_forget_24 : decode cd_Mod_forget 24 = .ok (.iload_n 2, 1) := by decide +kernel
theorem d_Mod_forget_25 : decode cd_Mod_forget 25 = .ok (.baload, 1) := by decide +kernel
theorem d_Mod_forget_26 : decode cd_Mod_forget 26 = .ok (.ifCond .eq 64, 3) := by decide +kernel
theorem d_Mod_forget_29 : decode cd_Mod_forget 29 = .ok (.aload_n 0, 1) := by decide +kernel
theorem d_Mod_forget_30 : decode cd_Mod_forget 30 = .ok (.getfield 7, 3) := by decide +kernel
theorem d_Mod_forget_33 : decode cd_Mod_forget 33 = .ok (.iload_n 2, 1) := by decide +kernel
theorem d_Mod_forget_34 : decode cd_Mod_forget 34 = .ok (.iaload, 1) := by decide +kernel
theorem d_Mod_forget_35 : decode cd_Mod_forget 35 = .ok (.iconst 1, 1) := by decide +kernel
theorem d_Mod_forget_36 : decode cd_Mod_forget 36 = .ok (.if_icmp .ne 54, 3) := by decide +kernel
theorem d_Mod_forget_39 : decode cd_Mod_forget 39 = .ok (.iload_n 3, 1) := by decide +kernel
theorem d_Mod_forget_40 : decode cd_Mod_forget 40 = .ok (.aload_n 0, 1) := by decide +kernel
theorem d_Mod_forget_41 : decode cd_Mod_forget 41 = .ok (.getfield 16, 3) := by decide +kernel
theorem d_Mod_forget_44 : decode cd_Mod_forget 44 = .ok (.iload_n 2, 1) := by decide +kernel
theorem d_Mod_forget_45 : decode cd_Mod_forget 45 = .ok (.iaload, 1) := by decide +kernel
theorem d_Mod_forget_46 : decode cd_Mod_forget 46 = .ok (.if_icmp .ge 44, 3) := by decide +kernel
theorem d_Mod_forget_49 : decode cd_Mod_forget 49 = .ok (.aload_n 0, 1) := by decide +kernel
theorem d_Mod_forget_50 : decode cd_Mod_forget 50 = .ok (.aload_n 0, 1) := by decide +kernel
theorem d_Mod_forget_51 : decode cd_Mod_forget 51 = .ok (.getfield 28, 3) := by decide +kernel
theorem d_Mod_forget_54 : decode cd_Mod_forget 54 = .ok (.bipush 15, 2) := by decide +kernel
theorem d_Mod_forget_56 : decode cd_Mod_forget 56 = .ok (.iload_n 2, 1) := by decide +kernel
theorem d_Mod_forget_57 : decode cd_Mod_forget 57 = .ok (.imul, 1) := by decide +kernel
theorem d_Mod_forget_58 : decode cd_Mod_forget 58 = .ok (.iload_n 3, 1) := by decide +kernel
theorem d_Mod_forget_59 : decode cd_Mod_forget 59 = .ok (.iadd, 1) := by decide +kernel
theorem d_Mod_forget_60 : decode cd_Mod_forget 60 = .ok (.iaload, 1) := by decide +kernel
theorem d_Mod_forget_61 : decode cd_Mod_forget 61 = .ok (.aload_n 0, 1) := by decide +kernel
theorem d_Mod_forget_62 : decode cd_Mod_forget 62 = .ok (.getfield 31, 3) := by decide +kernel
theorem d_Mod_forget_65 : decode cd_Mod_forget 65 = .ok (.bipush 15, 2) := by decide +kernel
theorem d_Mod_forget_67 : decode cd_Mod_forget 67 = .ok (.iload_n 2, 1) := by decide +kernel
theorem d_Mod_forget_68 : decode cd_Mod_forget 68 = .ok (.imul, 1) := by decide +kernel
theorem d_Mod_forget_69 : decode cd_Mod_forget 69 = .ok (.iload_n 3, 1) := by decide +kernel
theorem d_Mod_forget_70 : decode cd_Mod_forget 70 = .ok (.iadd, 1) := by decide +kernel
theorem d_Mod_forget_71 : decode cd_Mod_forget 71 = .ok (.iaload, 1) := by decide +kernel
theorem d_Mod_forget_72 : decode cd_Mod_forget 72 = .ok (.invokevirtual 104, 3) := by decide +kernel
theorem d_Mod_forget_75 : decode cd_Mod_forget 75 = .ok (.ifCond .ne 9, 3) := by decide +kernel
theorem d_Mod_forget_78 : decode cd_Mod_forget 78 = .ok (.aload_n 0, 1) := by decide +kernel
theorem d_Mod_forget_79 : decode cd_Mod_forget 79 = .ok (.iload_n 2, 1) := by decide +kernel
theorem d_Mod_forget_80 : decode cd_Mod_forget 80 = .ok (.iload_n 3, 1) := by decide +kernel
theorem d_Mod_forget_81 : decode cd_Mod_forget 81 = .ok (.invokevirtual 114, 3) := by decide +kernel
theorem d_Mod_forget_84 : decode cd_Mod_forget 84 = .ok (.iinc 3 1, 3) := by decide +kernel
theorem d_Mod_forget_87 : decode cd_Mod_forget 87 = .ok (.goto (-76), 3) := by decide +kernel
theorem d_Mod_forget_90 : decode cd_Mod_forget 90 = .ok (.iinc 2 1, 3) := by decide +kernel
theorem d_Mod_forget_93 : decode cd_Mod_forget 93 = .ok (.goto (-91), 3) := by decide +kernel
theorem d_Mod_forget_96 : decode cd_Mod_forget 96 = .ok (.return_, 1) := by decide +kernel
set_option maxRecDepth 100000 in
set_option maxHeartbeats 4000000 in
theorem s_Mod_forget_L11 {p : Program} {l : Launch} {e : Env} {s : State} {m : MethodId} {args : Array Value} {below : List Frame} {meth : Method} {c : Code} {V : xV} (C : xC p s m args c cd_Mod_forget 4 R_Mod V) (hlocks : meth.locks = false) (hr : meth.sig.returnType = none) {Q : xS → Prop} {K2 : Int32 → Int32 → xS → Prop} {K11 : Int32 → Int32 → Int32 → xS → Prop} (hK2 : ∀ (x1 : Int32) (x2 : Int32) (σ : xS) (H : Heap) (locs : List Loc) (ls : Array Slot), K2 x1 x2 σ → xI V s.heap σ H locs → lv_has ls 4 [(0, .ref (V.2.2 31)), (1, .int x1), (2, .int x2)] → W p l e rm_Mod_forget s m args below meth c H locs 0 0 (xZv below V args s Q) (F0 m 2 ls [])) (hK11 : ∀ (x1 : Int32) (x2 : Int32) (x3 : Int32) (σ : xS) (H : Heap) (locs : List Loc) (ls : Array Slot), K11 x1 x2 x3 σ → xI V s.heap σ H locs → lv_has ls 4 [(0, .ref (V.2.2 31)), (1, .int x1), (2, .int x2), (3, .int x3)] → W p l e rm_Mod_forget s m args below meth c H locs 0 0 (xZv below V args s Q) (F0 m 11 ls [])) {x1 x2 x3 : Int32} {σ : xS} {H : Heap} {locs : List Loc} {ls : Array Slot} (h : b_Mod_forget_L11 K2 K11 Q x1 x2 x3 σ) (hI : xI V s.heap σ H locs) (hl : lv_has ls 4 [(0, .ref (V.2.2 31)), (1, .int x1), (2, .int x2), (3, .int x3)]) : W p l e rm_Mod_forget s m args below meth c H locs 0 0 (xZv below V args s Q) (F0 m 11 ls []) := by
  have hx := C.1
  have hb := C.2.1
  unfold b_Mod_forget_L11 at h
  refine lv_aload_n hx hb d_Mod_forget_11 rfl (lv_at hl 0 rfl) ?_
  refine lv_iload_n hx hb d_Mod_forget_12 rfl (lv_at hl 2 rfl) ?_
  refine lv_iload_n hx hb d_Mod_forget_13 rfl (lv_at hl 1 rfl) ?_
  refine x_calli C hI hl.1 (d := 31) (As := [.int x2, .int x1]) (rest := []) (by decide) (c_Mod_isYoung h) (xE31 V _) rfl yw_Mod_isYoung ml_Mod_111 rfl rfl ⟨Nat.le_of_ble_eq_true rfl, Nat.le_of_ble_eq_true rfl⟩ rfl rfl (Nat.le_of_ble_eq_true rfl) d_Mod_forget_14 ⟨Nat.zero_le _, Nat.zero_le _⟩ (fun r3 σ2 H locs h hI => ?_)
  refine lv_if_eq (tgt := 90) hx hb d_Mod_forget_17 (by decide) (fun c4 => ?_) (fun c4 => ?_)
  · have h := h.1 c4
    obtain ⟨z5, ez5⟩ : ∃ y : Int32, y = x2 + 1 := ⟨_, rfl⟩
    have h := h z5 ez5
    refine lv_iinc (v := z5) (lv' := [(2, .int z5), (0, .ref (V.2.2 31)), (1, .int x1), (3, .int x3)]) hx hb d_Mod_forget_90 hl (k := 2) rfl (by rw [ez5]; rfl) (by decide) rfl (fun ls hl => ?_)
    refine lv_goto (tgt := 2) hx hb d_Mod_forget_93 (by decide) ?_
    exact hK2 _ _ _ _ _ _ h hI (lv_sub hl [1, 2, 0] rfl)
  · have h := h.2 c4
    refine lv_aload_n hx hb d_Mod_forget_20 rfl (lv_at hl 0 rfl) ?_
    refine x_get C hI (d := 31) (by decide) (xE31 V _) fd_Mod_34 rfl d_Mod_forget_21 ?_
    refine lv_iload_n hx hb d_Mod_forget_24 rfl (lv_at hl 2 rfl) ?_
    obtain ⟨i6, h⟩ := h
    refine x_zald C hI (d := 48) (by decide) (xE48 V) i6 d_Mod_forget_25 ?_
    refine lv_if_eq (tgt := 90) hx hb d_Mod_forget_26 (by decide) (fun c7 => ?_) (fun c7 => ?_)
    · have h := h.1 c7
      obtain ⟨z8, ez8⟩ : ∃ y : Int32, y = x2 + 1 := ⟨_, rfl⟩
      have h := h z8 ez8
      refine lv_iinc (v := z8) (lv' := [(2, .int z8), (0, .ref (V.2.2 31)), (1, .int x1), (3, .int x3)]) hx hb d_Mod_forget_90 hl (k := 2) rfl (by rw [ez8]; rfl) (by decide) rfl (fun ls hl => ?_)
      refine lv_goto (tgt := 2) hx hb d_Mod_forget_93 (by decide) ?_
      exact hK2 _ _ _ _ _ _ h hI (lv_sub hl [1, 2, 0] rfl)
    · have h := h.2 c7
      refine lv_aload_n hx hb d_Mod_forget_29 rfl (lv_at hl 0 rfl) ?_
      refine x_get C hI (d := 31) (by decide) (xE31 V _) fd_Mod_7 rfl d_Mod_forget_30 ?_
      refine lv_iload_n hx hb d_Mod_forget_33 rfl (lv_at hl 2 rfl) ?_
      obtain ⟨i9, h⟩ := h
      refine x_iald C hI (d := 40) (by decide) (xE40 V) i9 d_Mod_forget_34 ?_
      refine lv_iconst (v := 1) hx hb d_Mod_forget_35 (by decide) ?_
      refine lv_icmp_ne (tgt := 90) hx hb d_Mod_forget_36 (by decide) (fun c10 => ?_) (fun c10 => ?_)
      · have h := h.1 c10
        obtain ⟨z11, ez11⟩ : ∃ y : Int32, y = x2 + 1 := ⟨_, rfl⟩
        have h := h z11 ez11
        refine lv_iinc (v := z11) (lv' := [(2, .int z11), (0, .ref (V.2.2 31)), (1, .int x1), (3, .int x3)]) hx hb d_Mod_forget_90 hl (k := 2) rfl (by rw [ez11]; rfl) (by decide) rfl (fun ls hl => ?_)
        refine lv_goto (tgt := 2) hx hb d_Mod_forget_93 (by decide) ?_
        exact hK2 _ _ _ _ _ _ h hI (lv_sub hl [1, 2, 0] rfl)
      · have h := h.2 c10
        refine lv_iload_n hx hb d_Mod_forget_39 rfl (lv_at hl 3 rfl) ?_
        refine lv_aload_n hx hb d_Mod_forget_40 rfl (lv_at hl 0 rfl) ?_
        refine x_get C hI (d := 31) (by decide) (xE31 V _) fd_Mod_16 rfl d_Mod_forget_41 ?_
        refine lv_iload_n hx hb d_Mod_forget_44 rfl (lv_at hl 2 rfl) ?_
        obtain ⟨i12, h⟩ := h
        refine x_iald C hI (d := 42) (by decide) (xE42 V) i12 d_Mod_forget_45 ?_
        refine lv_icmp_ge (tgt := 90) hx hb d_Mod_forget_46 (by decide) (fun c13 => ?_) (fun c13 => ?_)
        · have h := h.1 c13
          obtain ⟨z14, ez14⟩ : ∃ y : Int32, y = x2 + 1 := ⟨_, rfl⟩
          have h := h z14 ez14
          refine lv_iinc (v := z14) (lv' := [(2, .int z14), (0, .ref (V.2.2 31)), (1, .int x1), (3, .int x3)]) hx hb d_Mod_forget_90 hl (k := 2) rfl (by rw [ez14]; rfl) (by decide) rfl (fun ls hl => ?_)
          refine lv_goto (tgt := 2) hx hb d_Mod_forget_93 (by decide) ?_
          exact hK2 _ _ _ _ _ _ h hI (lv_sub hl [1, 2, 0] rfl)
        · have h := h.2 c13
          refine lv_aload_n hx hb d_Mod_forget_49 rfl (lv_at hl 0 rfl) ?_
          refine lv_aload_n hx hb d_Mod_forget_50 rfl (lv_at hl 0 rfl) ?_
          refine x_get C hI (d := 31) (by decide) (xE31 V _) fd_Mod_28 rfl d_Mod_forget_51 ?_
          refine lv_bipush (v := 15) hx hb d_Mod_forget_54 (by decide) ?_
          refine lv_iload_n hx hb d_Mod_forget_56 rfl (lv_at hl 2 rfl) ?_
          refine lv_imul hx hb d_Mod_forget_57 ?_
          refine lv_iload_n hx hb d_Mod_forget_58 rfl (lv_at hl 3 rfl) ?_
          refine lv_iadd hx hb d_Mod_forget_59 ?_
          obtain ⟨i15, h⟩ := h
          refine x_iald C hI (d := 46) (by decide) (xE46 V) i15 d_Mod_forget_60 ?_
          refine lv_aload_n hx hb d_Mod_forget_61 rfl (lv_at hl 0 rfl) ?_
          refine x_get C hI (d := 31) (by decide) (xE31 V _) fd_Mod_31 rfl d_Mod_forget_62 ?_
          refine lv_bipush (v := 15) hx hb d_Mod_forget_65 (by decide) ?_
          refine lv_iload_n hx hb d_Mod_forget_67 rfl (lv_at hl 2 rfl) ?_
          refine lv_imul hx hb d_Mod_forget_68 ?_
          refine lv_iload_n hx hb d_Mod_forget_69 rfl (lv_at hl 3 rfl) ?_
          refine lv_iadd hx hb d_Mod_forget_70 ?_
          obtain ⟨i16, h⟩ := h
          refine x_iald C hI (d := 47) (by decide) (xE47 V) i16 d_Mod_forget_71 ?_
          refine x_calli C hI hl.1 (d := 31) (As := [.int (σ2 46 ((15 * x2) + x3).toNatClampNeg), .int (σ2 47 ((15 * x2) + x3).toNatClampNeg)]) (rest := []) (by decide) (c_Mod_isLive h) (xE31 V _) rfl yw_Mod_isLive ml_Mod_104 rfl rfl ⟨Nat.le_of_ble_eq_true rfl, Nat.le_of_ble_eq_true rfl⟩ rfl rfl (Nat.le_of_ble_eq_true rfl) d_Mod_forget_72 ⟨Nat.zero_le _, Nat.zero_le _⟩ (fun r18 σ17 H locs h hI => ?_)
          refine lv_if_ne (tgt := 84) hx hb d_Mod_forget_75 (by decide) (fun c19 => ?_) (fun c19 => ?_)
          · have h := h.1 c19
            obtain ⟨z20, ez20⟩ : ∃ y : Int32, y = x3 + 1 := ⟨_, rfl⟩
            have h := h z20 ez20
            refine lv_iinc (v := z20) (lv' := [(3, .int z20), (0, .ref (V.2.2 31)), (1, .int x1), (2, .int x2)]) hx hb d_Mod_forget_84 hl (k := 3) rfl (by rw [ez20]; rfl) (by decide) rfl (fun ls hl => ?_)
            refine lv_goto (tgt := 11) hx hb d_Mod_forget_87 (by decide) ?_
            exact hK11 _ _ _ _ _ _ _ h hI (lv_sub hl [1, 2, 3, 0] rfl)
          · have h := h.2 c19
            refine lv_aload_n hx hb d_Mod_forget_78 rfl (lv_at hl 0 rfl) ?_
            refine lv_iload_n hx hb d_Mod_forget_79 rfl (lv_at hl 2 rfl) ?_
            refine lv_iload_n hx hb d_Mod_forget_80 rfl (lv_at hl 3 rfl) ?_
            refine x_callv C hI hl.1 (d := 31) (As := [.int x2, .int x3]) (rest := []) (by decide) (c_Mod_empty h) (xE31 V _) rfl yw_Mod_empty ml_Mod_114 rfl rfl ⟨Nat.le_of_ble_eq_true rfl, Nat.le_of_ble_eq_true rfl⟩ rfl rfl (Nat.le_of_ble_eq_true rfl) d_Mod_forget_81 ⟨Nat.zero_le _, Nat.zero_le _⟩ (fun σ21 H locs h hI => ?_)
            obtain ⟨z22, ez22⟩ : ∃ y : Int32, y = x3 + 1 := ⟨_, rfl⟩
            have h := h z22 ez22
            refine lv_iinc (v := z22) (lv' := [(3, .int z22), (0, .ref (V.2.2 31)), (1, .int x1), (2, .int x2)]) hx hb d_Mod_forget_84 hl (k := 3) rfl (by rw [ez22]; rfl) (by decide) rfl (fun ls hl => ?_)
            refine lv_goto (tgt := 11) hx hb d_Mod_forget_87 (by decide) ?_
            exact hK11 _ _ _ _ _ _ _ h hI (lv_sub hl [1, 2, 3, 0] rfl)
theorem w_Mod_forget_L11 {p : Program} {l : Launch} {e : Env} {s : State} {m : MethodId} {args : Array Value} {below : List Frame} {meth : Method} {c : Code} {V : xV} (C : xC p s m args c cd_Mod_forget 4 R_Mod V) (hlocks : meth.locks = false) (hr : meth.sig.returnType = none) {Q : xS → Prop} {K2 : Int32 → Int32 → xS → Prop} (hK2 : ∀ (x1 : Int32) (x2 : Int32) (σ : xS) (H : Heap) (locs : List Loc) (ls : Array Slot), K2 x1 x2 σ → xI V s.heap σ H locs → lv_has ls 4 [(0, .ref (V.2.2 31)), (1, .int x1), (2, .int x2)] → W p l e rm_Mod_forget s m args below meth c H locs 0 0 (xZv below V args s Q) (F0 m 2 ls [])) : ∀ (n : Nat) (x1 : Int32) (x2 : Int32) (x3 : Int32) (σ : xS) (H : Heap) (locs : List Loc) (ls : Array Slot), p_Mod_forget_L11 K2 Q n x1 x2 x3 σ → xI V s.heap σ H locs → lv_has ls 4 [(0, .ref (V.2.2 31)), (1, .int x1), (2, .int x2), (3, .int x3)] → W p l e rm_Mod_forget s m args below meth c H locs 0 0 (xZv below V args s Q) (F0 m 11 ls []) := by
  intro n
  induction n with
  | zero =>
    intro x1 x2 x3 σ H locs ls h
    exact False.elim h
  | succ n ih =>
    intro x1 x2 x3 σ H locs ls h hI hl
    exact s_Mod_forget_L11 C hlocks hr hK2 (K11 := p_Mod_forget_L11 K2 Q n) (fun x1 x2 x3 σ H locs ls h hI hl => ih x1 x2 x3 σ H locs ls h hI hl) h hI hl
set_option maxRecDepth 100000 in
set_option maxHeartbeats 4000000 in
theorem s_Mod_forget_L2 {p : Program} {l : Launch} {e : Env} {s : State} {m : MethodId} {args : Array Value} {below : List Frame} {meth : Method} {c : Code} {V : xV} (C : xC p s m args c cd_Mod_forget 4 R_Mod V) (hlocks : meth.locks = false) (hr : meth.sig.returnType = none) {Q : xS → Prop} {K2 : Int32 → Int32 → xS → Prop} (hK2 : ∀ (x1 : Int32) (x2 : Int32) (σ : xS) (H : Heap) (locs : List Loc) (ls : Array Slot), K2 x1 x2 σ → xI V s.heap σ H locs → lv_has ls 4 [(0, .ref (V.2.2 31)), (1, .int x1), (2, .int x2)] → W p l e rm_Mod_forget s m args below meth c H locs 0 0 (xZv below V args s Q) (F0 m 2 ls [])) {x1 x2 : Int32} {σ : xS} {H : Heap} {locs : List Loc} {ls : Array Slot} (h : b_Mod_forget_L2 K2 Q x1 x2 σ) (hI : xI V s.heap σ H locs) (hl : lv_has ls 4 [(0, .ref (V.2.2 31)), (1, .int x1), (2, .int x2)]) : W p l e rm_Mod_forget s m args below meth c H locs 0 0 (xZv below V args s Q) (F0 m 2 ls []) := by
  have hx := C.1
  have hb := C.2.1
  unfold b_Mod_forget_L2 at h
  refine lv_iload_n hx hb d_Mod_forget_2 rfl (lv_at hl 2 rfl) ?_
  refine lv_sipush (v := 640) hx hb d_Mod_forget_3 (by decide) ?_
  refine lv_icmp_ge (tgt := 96) hx hb d_Mod_forget_6 (by decide) (fun c1 => ?_) (fun c1 => ?_)
  · have h := h.1 c1
    exact x_vret C hlocks hr hI h d_Mod_forget_96
  · have h := h.2 c1
    refine lv_iconst (v := 0) hx hb d_Mod_forget_9 (by decide) ?_
    refine lv_istore_n (lv' := [(3, .int 0), (0, .ref (V.2.2 31)), (1, .int x1), (2, .int x2)]) hx hb d_Mod_forget_10 rfl hl (by decide) rfl (fun ls hl => ?_)
    obtain ⟨n, h⟩ := h
    exact w_Mod_forget_L11 C hlocks hr hK2 n _ _ _ _ _ _ _ h hI (lv_sub hl [1, 2, 3, 0] rfl)
theorem w_Mod_forget_L2 {p : Program} {l : Launch} {e : Env} {s : State} {m : MethodId} {args : Array Value} {below : List Frame} {meth : Method} {c : Code} {V : xV} (C : xC p s m args c cd_Mod_forget 4 R_Mod V) (hlocks : meth.locks = false) (hr : meth.sig.returnType = none) {Q : xS → Prop} : ∀ (n : Nat) (x1 : Int32) (x2 : Int32) (σ : xS) (H : Heap) (locs : List Loc) (ls : Array Slot), p_Mod_forget_L2 Q n x1 x2 σ → xI V s.heap σ H locs → lv_has ls 4 [(0, .ref (V.2.2 31)), (1, .int x1), (2, .int x2)] → W p l e rm_Mod_forget s m args below meth c H locs 0 0 (xZv below V args s Q) (F0 m 2 ls []) := by
  intro n
  induction n with
  | zero =>
    intro x1 x2 σ H locs ls h
    exact False.elim h
  | succ n ih =>
    intro x1 x2 σ H locs ls h hI hl
    exact s_Mod_forget_L2 C hlocks hr (K2 := p_Mod_forget_L2 Q n) (fun x1 x2 σ H locs ls h hI hl => ih x1 x2 σ H locs ls h hI hl) h hI hl
set_option maxRecDepth 100000 in
set_option maxHeartbeats 4000000 in
theorem c_Mod_forget {l : Launch} {V : xV} {σ : xS} {x1 : Int32} {Q : xS → Prop} (h : p_Mod_forget x1 σ Q) : xMv l y_Mod_forget (.code y_Mod_forget cd_Mod_forget 4 none :: xG) rm_Mod_forget V [.ref (V.2.2 31), .int x1] σ Q := by
  refine x_beginv (by decide) (Nat.le_of_ble_eq_true rfl) (fun p e s m below meth c ls C hlocks hr hI hl => ?_)
  have C : xC p s m _ c cd_Mod_forget 4 R_Mod V := C
  have hx := C.1
  have hb := C.2.1
  have hl : lv_has ls 4 [(0, .ref (V.2.2 31)), (1, .int x1)] := hl
  unfold p_Mod_forget at h
  refine lv_iconst (v := 0) hx hb d_Mod_forget_0 (by decide) ?_
  refine lv_istore_n (lv' := [(2, .int 0), (0, .ref (V.2.2 31)), (1, .int x1)]) hx hb d_Mod_forget_1 rfl hl (by decide) rfl (fun ls hl => ?_)
  obtain ⟨n, h⟩ := h
  exact w_Mod_forget_L2 C hlocks hr n _ _ _ _ _ _ h hI (lv_sub hl [1, 2, 0] rfl)
theorem yw_Mod_forget : xY y_Mod_forget cd_Mod_forget 4 none 1 := ⟨xG_mem 1128 (by decide +kernel) (by decide +kernel), xG_mem 38 (by decide +kernel) (by decide +kernel), xG_mem 65 (by decide +kernel) (by decide +kernel), xG_mem 1129 (by decide +kernel) (by decide +kernel), by decide, by decide, by decide +kernel⟩
theorem ml_Mod_121 : Cond.methodLink R_Mod 121 y_Mod_forget ∈ xG := xG_mem 1126 (by decide +kernel) (by decide +kernel)
def y_Mod_nextDue : MethodName := ⟨"RegionPoolModel", "nextDue", "(I)I"⟩
abbrev cd_Mod_nextDue : ByteArray := prog_12_method_20_code
theorem fd_Mod_25 : xFd R_Mod 25 10 6 := ⟨R_Mod, T_Mod, 32, rfl, in_Mod, by decide, xG_mem 990 (by decide +kernel) (by decide +kernel)⟩
def p_Mod_nextDue_J43 (K4 : Int32 → Int32 → Int32 → xS → Prop) (Q : Int32 → xS → Prop) (x1 x2 x3 : Int32) (y0 : Int32) (σ : xS) : Prop :=
  ((y0 = 0 → (∀ z6 : Int32, z6 = x3 + 1 → K4 x1 x2 z6 σ)) ∧ (¬ y0 = 0 → ((x2 = (-1) → (∀ z8 : Int32, z8 = x3 + 1 → K4 x1 x3 z8 σ)) ∧ (¬ x2 = (-1) → (vp_in x3 640 ∧ (vp_in x2 640 ∧ (((σ 45 x2.toNatClampNeg) ≤ (σ 45 x3.toNatClampNeg) → (∀ z12 : Int32, z12 = x3 + 1 → K4 x1 x2 z12 σ)) ∧ (¬ (σ 45 x2.toNatClampNeg) ≤ (σ 45 x3.toNatClampNeg) → (∀ z13 : Int32, z13 = x3 + 1 → K4 x1 x3 z13 σ)))))))))
def p_Mod_nextDue_J42 (K4 : Int32 → Int32 → Int32 → xS → Prop) (Q : Int32 → xS → Prop) (x1 x2 x3 : Int32) (σ : xS) : Prop :=
  p_Mod_nextDue_J43 K4 Q x1 x2 x3 0 σ
def b_Mod_nextDue_L4 (K4 : Int32 → Int32 → Int32 → xS → Prop) (Q : Int32 → xS → Prop) (x1 x2 x3 : Int32) (σ : xS) : Prop :=
  ((640 ≤ x3 → Q x2 σ) ∧ (¬ 640 ≤ x3 → p_Mod_isYoung x3 x1 σ (fun r3 σ2 => ((r3 = 0 → p_Mod_nextDue_J42 K4 Q x1 x2 x3 σ2) ∧ (¬ r3 = 0 → (vp_in x3 640 ∧ ((¬ (σ2 48 x3.toNatClampNeg) = 0 → p_Mod_nextDue_J42 K4 Q x1 x2 x3 σ2) ∧ ((σ2 48 x3.toNatClampNeg) = 0 → (vp_in x3 640 ∧ (((σ2 45 x3.toNatClampNeg) ≤ 0 → p_Mod_nextDue_J42 K4 Q x1 x2 x3 σ2) ∧ (¬ (σ2 45 x3.toNatClampNeg) ≤ 0 → p_Mod_nextDue_J43 K4 Q x1 x2 x3 1 σ2)))))))))))
def p_Mod_nextDue_L4 (Q : Int32 → xS → Prop) (n : Nat) : Int32 → Int32 → Int32 → xS → Prop := Nat.rec (motive := fun _ => Int32 → Int32 → Int32 → xS → Prop) (fun _ _ _ _ => False) (fun _ K x1 x2 x3 σ => b_Mod_nextDue_L4 K Q x1 x2 x3 σ) n
def p_Mod_nextDue (x1 : Int32) (σ : xS) (Q : Int32 → xS → Prop) : Prop :=
  (∃ n, p_Mod_nextDue_L4 Q n x1 (-1) 0 σ)
abbrev rm_Mod_nextDue : Room := { frames := 1, cells := 0, slots := 0, locals := 22 }
theorem d_Mod_nextDue_0 : decode cd_Mod_nextDue 0 = .ok (.iconst (-1), 1) := by decide +kernel
theorem d_Mod_nextDue_1 : decode cd_Mod_nextDue 1 = .ok (.istore_n 2, 1) := by decide +kernel
theorem d_Mod_nextDue_2 : decode cd_Mod_nextDue 2 = .ok (.iconst 0, 1) := by decide +kernel
theorem d_Mod_nextDue_3 : decode cd_Mod_nextDue 3 = .ok (.istore_n 3, 1) := by decide +kernel
theorem d_Mod_nextDue_4 : decode cd_Mod_nextDue 4 = .ok (.iload_n 3, 1) := by decide +kernel
theorem d_Mod_nextDue_5 : decode cd_Mod_nextDue 5 = .ok (.sipush 640, 3) := by decide +kernel
theorem d_Mod_nextDue_8 : decode cd_Mod_nextDue 8 = .ok (.if_icmp .ge 70, 3) := by decide +kernel
theorem d_Mod_nextDue_11 : decode cd_Mod_nextDue 11 = .ok (.aload_n 0, 1) := by decide +kernel
theorem d_Mod_nextDue_12 : decode cd_Mod_nextDue 12 = .ok (.iload_n 3, 1) := by decide +kernel
theorem d_Mod_nextDue_13 : decode cd_Mod_nextDue 13 = .ok (.iload_n 1, 1) := by decide +kernel
theorem d_Mod_nextDue_14 : decode cd_Mod_nextDue 14 = .ok (.invokevirtual 111, 3) := by decide +kernel
theorem d_Mod_nextDue_17 : decode cd_Mod_nextDue 17 = .ok (.ifCond .eq 25, 3) := by decide +kernel
theorem d_Mod_nextDue_20 : decode cd_Mod_nextDue 20 = .ok (.aload_n 0, 1) := by decide +kernel
theorem d_Mod_nextDue_21 : decode cd_Mod_nextDue 21 = .ok (.getfield 34, 3) := by decide +kernel
theorem d_Mod_nextDue_24 : decode cd_Mod_nextDue 24 = .ok (.iload_n 3, 1) := by decide +kernel
theorem d_Mod_nextDue_25 : decode cd_Mod_nextDue 25 = .ok (.baload, 1) := by decide +kernel
theorem d_Mod_nextDue_26 : decode cd_Mod_nextDue 26 = .ok (.ifCond .ne 16, 3) := by decide +kernel
theorem d_Mod_nextDue_29 : decode cd_Mod_nextDue 29 = .ok (.aload_n 0, 1) := by decide +kernel
theorem d_Mod_nextDue_30 : decode cd_Mod_nextDue 30 = .ok (.getfield 25, 3) := by decide +kernel
theorem d_Mod_nextDue_33 : decode cd_Mod_nextDue 33 = .ok (.iload_n 3, 1) := by decide +kernel
theorem d_Mod_nextDue_34 : decode cd_Mod_nextDue 34 = .ok (.iaload, 1) := by decide +kernel
theorem d_Mod_nextDue_35 : decode cd_Mod_nextDue 35 = .ok (.ifCond .le 7, 3) := by decide +kernel
theorem d_Mod_nextDue_38 : decode cd_Mod_nextDue 38 = .ok (.iconst 1, 1) := by decide +kernel
theorem d_Mod_nextDue_39 : decode cd_Mod_nextDue 39 = .ok (.goto 4, 3) := by decide +kernel
theorem d_Mod_nextDue_42 : decode cd_Mod_nextDue 42 = .ok (.iconst 0, 1) := by decide +kernel
theorem d_Mod_nextDue_43 : decode cd_Mod_nextDue 43 = .ok (.istore 4, 2) := by decide +kernel
theorem d_Mod_nextDue_45 : decode cd_Mod_nextDue 45 = .ok (.iload 4, 2) := by decide +kernel
theorem d_Mod_nextDue_47 : decode cd_Mod_nextDue 47 = .ok (.ifCond .eq 25, 3) := by decide +kernel
theorem d_Mod_nextDue_50 : decode cd_Mod_nextDue 50 = .ok (.iload_n 2, 1) := by decide +kernel
theorem d_Mod_nextDue_51 : decode cd_Mod_nextDue 51 = .ok (.iconst (-1), 1) := by decide +kernel
theorem d_Mod_nextDue_52 : decode cd_Mod_nextDue 52 = .ok (.if_icmp .eq 18, 3) := by decide +kernel
theorem d_Mod_nextDue_55 : decode cd_Mod_nextDue 55 = .ok (.aload_n 0, 1) := by decide +kernel
theorem d_Mod_nextDue_56 : decode cd_Mod_nextDue 56 = .ok (.getfield 25, 3) := by decide +kernel
theorem d_Mod_nextDue_59 : decode cd_Mod_nextDue 59 = .ok (.iload_n 3, 1) := by decide +kernel
theorem d_Mod_nextDue_60 : decode cd_Mod_nextDue 60 = .ok (.iaload, 1) := by decide +kernel
theorem d_Mod_nextDue_61 : decode cd_Mod_nextDue 61 = .ok (.aload_n 0, 1) := by decide +kernel
theorem d_Mod_nextDue_62 : decode cd_Mod_nextDue 62 = .ok (.getfield 25, 3) := by decide +kernel
theorem d_Mod_nextDue_65 : decode cd_Mod_nextDue 65 = .ok (.iload_n 2, 1) := by decide +kernel
theorem d_Mod_nextDue_66 : decode cd_Mod_nextDue 66 = .ok (.iaload, 1) := by decide +kernel
theorem d_Mod_nextDue_67 : decode cd_Mod_nextDue 67 = .ok (.if_icmp .ge 5, 3) := by decide +kernel
theorem d_Mod_nextDue_70 : decode cd_Mod_nextDue 70 = .ok (.iload_n 3, 1) := by decide +kernel
theorem d_Mod_nextDue_71 : decode cd_Mod_nextDue 71 = .ok (.istore_n 2, 1) := by decide +kernel
theorem d_Mod_nextDue_72 : decode cd_Mod_nextDue 72 = .ok (.iinc 3 1, 3) := by decide +kernel
theorem d_Mod_nextDue_75 : decode cd_Mod_nextDue 75 = .ok (.goto (-71), 3) := by decide +kernel
theorem d_Mod_nextDue_78 : decode cd_Mod_nextDue 78 = .ok (.iload_n 2, 1) := by decide +kernel
theorem d_Mod_nextDue_79 : decode cd_Mod_nextDue 79 = .ok (.ireturn, 1) := by decide +kernel
set_option maxRecDepth 100000 in
set_option maxHeartbeats 4000000 in
theorem t_Mod_nextDue_J43 {p : Program} {l : Launch} {e : Env} {s : State} {m : MethodId} {args : Array Value} {below : List Frame} {meth : Method} {c : Code} {V : xV} (C : xC p s m args c cd_Mod_nextDue 5 R_Mod V) (hlocks : meth.locks = false) (hr : meth.sig.returnType = (some .int)) {Q : Int32 → xS → Prop} {K4 : Int32 → Int32 → Int32 → xS → Prop} (hK4 : ∀ (x1 : Int32) (x2 : Int32) (x3 : Int32) (σ : xS) (H : Heap) (locs : List Loc) (ls : Array Slot), K4 x1 x2 x3 σ → xI V s.heap σ H locs → lv_has ls 5 [(0, .ref (V.2.2 31)), (1, .int x1), (2, .int x2), (3, .int x3)] → W p l e rm_Mod_nextDue s m args below meth c H locs 0 0 (xZi below V args s Q) (F0 m 4 ls [])) {x1 x2 x3 : Int32} {y0 : Int32} {σ : xS} {H : Heap} {locs : List Loc} {ls : Array Slot} (h : p_Mod_nextDue_J43 K4 Q x1 x2 x3 y0 σ) (hI : xI V s.heap σ H locs) (hl : lv_has ls 5 [(0, .ref (V.2.2 31)), (1, .int x1), (2, .int x2), (3, .int x3)]) : W p l e rm_Mod_nextDue s m args below meth c H locs 0 0 (xZi below V args s Q) (F0 m 43 ls [.int y0]) := by
  have hx := C.1
  have hb := C.2.1
  unfold p_Mod_nextDue_J43 at h
  refine lv_istore (lv' := [(4, .int y0), (0, .ref (V.2.2 31)), (1, .int x1), (2, .int x2), (3, .int x3)]) hx hb d_Mod_nextDue_43 hl (by decide) rfl (fun ls hl => ?_)
  refine lv_iload hx hb d_Mod_nextDue_45 (lv_at hl 0 rfl) ?_
  refine lv_if_eq (tgt := 72) hx hb d_Mod_nextDue_47 (by decide) (fun c5 => ?_) (fun c5 => ?_)
  · have h := h.1 c5
    obtain ⟨z6, ez6⟩ : ∃ y : Int32, y = x3 + 1 := ⟨_, rfl⟩
    have h := h z6 ez6
    refine lv_iinc (v := z6) (lv' := [(3, .int z6), (4, .int y0), (0, .ref (V.2.2 31)), (1, .int x1), (2, .int x2)]) hx hb d_Mod_nextDue_72 hl (k := 4) rfl (by rw [ez6]; rfl) (by decide) rfl (fun ls hl => ?_)
    refine lv_goto (tgt := 4) hx hb d_Mod_nextDue_75 (by decide) ?_
    exact hK4 _ _ _ _ _ _ _ h hI (lv_sub hl [2, 3, 4, 0] rfl)
  · have h := h.2 c5
    refine lv_iload_n hx hb d_Mod_nextDue_50 rfl (lv_at hl 3 rfl) ?_
    refine lv_iconst (v := (-1)) hx hb d_Mod_nextDue_51 (by decide) ?_
    refine lv_icmp_eq (tgt := 70) hx hb d_Mod_nextDue_52 (by decide) (fun c7 => ?_) (fun c7 => ?_)
    · have h := h.1 c7
      refine lv_iload_n hx hb d_Mod_nextDue_70 rfl (lv_at hl 4 rfl) ?_
      refine lv_istore_n (lv' := [(2, .int x3), (4, .int y0), (0, .ref (V.2.2 31)), (1, .int x1), (3, .int x3)]) hx hb d_Mod_nextDue_71 rfl hl (by decide) rfl (fun ls hl => ?_)
      obtain ⟨z8, ez8⟩ : ∃ y : Int32, y = x3 + 1 := ⟨_, rfl⟩
      have h := h z8 ez8
      refine lv_iinc (v := z8) (lv' := [(3, .int z8), (2, .int x3), (4, .int y0), (0, .ref (V.2.2 31)), (1, .int x1)]) hx hb d_Mod_nextDue_72 hl (k := 4) rfl (by rw [ez8]; rfl) (by decide) rfl (fun ls hl => ?_)
      refine lv_goto (tgt := 4) hx hb d_Mod_nextDue_75 (by decide) ?_
      exact hK4 _ _ _ _ _ _ _ h hI (lv_sub hl [3, 4, 1, 0] rfl)
    · have h := h.2 c7
      refine lv_aload_n hx hb d_Mod_nextDue_55 rfl (lv_at hl 1 rfl) ?_
      refine x_get C hI (d := 31) (by decide) (xE31 V _) fd_Mod_25 rfl d_Mod_nextDue_56 ?_
      refine lv_iload_n hx hb d_Mod_nextDue_59 rfl (lv_at hl 4 rfl) ?_
      obtain ⟨i9, h⟩ := h
      refine x_iald C hI (d := 45) (by decide) (xE45 V) i9 d_Mod_nextDue_60 ?_
      refine lv_aload_n hx hb d_Mod_nextDue_61 rfl (lv_at hl 1 rfl) ?_
      refine x_get C hI (d := 31) (by decide) (xE31 V _) fd_Mod_25 rfl d_Mod_nextDue_62 ?_
      refine lv_iload_n hx hb d_Mod_nextDue_65 rfl (lv_at hl 3 rfl) ?_
      obtain ⟨i10, h⟩ := h
      refine x_iald C hI (d := 45) (by decide) (xE45 V) i10 d_Mod_nextDue_66 ?_
      refine lv_icmp_ge (tgt := 72) hx hb d_Mod_nextDue_67 (by decide) (fun c11 => ?_) (fun c11 => ?_)
      · have h := h.1 c11
        obtain ⟨z12, ez12⟩ : ∃ y : Int32, y = x3 + 1 := ⟨_, rfl⟩
        have h := h z12 ez12
        refine lv_iinc (v := z12) (lv' := [(3, .int z12), (4, .int y0), (0, .ref (V.2.2 31)), (1, .int x1), (2, .int x2)]) hx hb d_Mod_nextDue_72 hl (k := 4) rfl (by rw [ez12]; rfl) (by decide) rfl (fun ls hl => ?_)
        refine lv_goto (tgt := 4) hx hb d_Mod_nextDue_75 (by decide) ?_
        exact hK4 _ _ _ _ _ _ _ h hI (lv_sub hl [2, 3, 4, 0] rfl)
      · have h := h.2 c11
        refine lv_iload_n hx hb d_Mod_nextDue_70 rfl (lv_at hl 4 rfl) ?_
        refine lv_istore_n (lv' := [(2, .int x3), (4, .int y0), (0, .ref (V.2.2 31)), (1, .int x1), (3, .int x3)]) hx hb d_Mod_nextDue_71 rfl hl (by decide) rfl (fun ls hl => ?_)
        obtain ⟨z13, ez13⟩ : ∃ y : Int32, y = x3 + 1 := ⟨_, rfl⟩
        have h := h z13 ez13
        refine lv_iinc (v := z13) (lv' := [(3, .int z13), (2, .int x3), (4, .int y0), (0, .ref (V.2.2 31)), (1, .int x1)]) hx hb d_Mod_nextDue_72 hl (k := 4) rfl (by rw [ez13]; rfl) (by decide) rfl (fun ls hl => ?_)
        refine lv_goto (tgt := 4) hx hb d_Mod_nextDue_75 (by decide) ?_
        exact hK4 _ _ _ _ _ _ _ h hI (lv_sub hl [3, 4, 1, 0] rfl)
set_option maxRecDepth 100000 in
set_option maxHeartbeats 4000000 in
theorem t_Mod_nextDue_J42 {p : Program} {l : Launch} {e : Env} {s : State} {m : MethodId} {args : Array Value} {below : List Frame} {meth : Method} {c : Code} {V : xV} (C : xC p s m args c cd_Mod_nextDue 5 R_Mod V) (hlocks : meth.locks = false) (hr : meth.sig.returnType = (some .int)) {Q : Int32 → xS → Prop} {K4 : Int32 → Int32 → Int32 → xS → Prop} (hK4 : ∀ (x1 : Int32) (x2 : Int32) (x3 : Int32) (σ : xS) (H : Heap) (locs : List Loc) (ls : Array Slot), K4 x1 x2 x3 σ → xI V s.heap σ H locs → lv_has ls 5 [(0, .ref (V.2.2 31)), (1, .int x1), (2, .int x2), (3, .int x3)] → W p l e rm_Mod_nextDue s m args below meth c H locs 0 0 (xZi below V args s Q) (F0 m 4 ls [])) {x1 x2 x3 : Int32} {σ : xS} {H : Heap} {locs : List Loc} {ls : Array Slot} (h : p_Mod_nextDue_J42 K4 Q x1 x2 x3 σ) (hI : xI V s.heap σ H locs) (hl : lv_has ls 5 [(0, .ref (V.2.2 31)), (1, .int x1), (2, .int x2), (3, .int x3)]) : W p l e rm_Mod_nextDue s m args below meth c H locs 0 0 (xZi below V args s Q) (F0 m 42 ls []) := by
  have hx := C.1
  have hb := C.2.1
  unfold p_Mod_nextDue_J42 at h
  refine lv_iconst (v := 0) hx hb d_Mod_nextDue_42 (by decide) ?_
  exact t_Mod_nextDue_J43 C hlocks hr hK4 h hI (lv_sub hl [0, 1, 2, 3] rfl)
set_option maxRecDepth 100000 in
set_option maxHeartbeats 4000000 in
theorem s_Mod_nextDue_L4 {p : Program} {l : Launch} {e : Env} {s : State} {m : MethodId} {args : Array Value} {below : List Frame} {meth : Method} {c : Code} {V : xV} (C : xC p s m args c cd_Mod_nextDue 5 R_Mod V) (hlocks : meth.locks = false) (hr : meth.sig.returnType = (some .int)) {Q : Int32 → xS → Prop} {K4 : Int32 → Int32 → Int32 → xS → Prop} (hK4 : ∀ (x1 : Int32) (x2 : Int32) (x3 : Int32) (σ : xS) (H : Heap) (locs : List Loc) (ls : Array Slot), K4 x1 x2 x3 σ → xI V s.heap σ H locs → lv_has ls 5 [(0, .ref (V.2.2 31)), (1, .int x1), (2, .int x2), (3, .int x3)] → W p l e rm_Mod_nextDue s m args below meth c H locs 0 0 (xZi below V args s Q) (F0 m 4 ls [])) {x1 x2 x3 : Int32} {σ : xS} {H : Heap} {locs : List Loc} {ls : Array Slot} (h : b_Mod_nextDue_L4 K4 Q x1 x2 x3 σ) (hI : xI V s.heap σ H locs) (hl : lv_has ls 5 [(0, .ref (V.2.2 31)), (1, .int x1), (2, .int x2), (3, .int x3)]) : W p l e rm_Mod_nextDue s m args below meth c H locs 0 0 (xZi below V args s Q) (F0 m 4 ls []) := by
  have hx := C.1
  have hb := C.2.1
  unfold b_Mod_nextDue_L4 at h
  refine lv_iload_n hx hb d_Mod_nextDue_4 rfl (lv_at hl 3 rfl) ?_
  refine lv_sipush (v := 640) hx hb d_Mod_nextDue_5 (by decide) ?_
  refine lv_icmp_ge (tgt := 78) hx hb d_Mod_nextDue_8 (by decide) (fun c1 => ?_) (fun c1 => ?_)
  · have h := h.1 c1
    refine lv_iload_n hx hb d_Mod_nextDue_78 rfl (lv_at hl 2 rfl) ?_
    exact x_iret C hlocks hr hI h d_Mod_nextDue_79
  · have h := h.2 c1
    refine lv_aload_n hx hb d_Mod_nextDue_11 rfl (lv_at hl 0 rfl) ?_
    refine lv_iload_n hx hb d_Mod_nextDue_12 rfl (lv_at hl 3 rfl) ?_
    refine lv_iload_n hx hb d_Mod_nextDue_13 rfl (lv_at hl 1 rfl) ?_
    refine x_calli C hI hl.1 (d := 31) (As := [.int x3, .int x1]) (rest := []) (by decide) (c_Mod_isYoung h) (xE31 V _) rfl yw_Mod_isYoung ml_Mod_111 rfl rfl ⟨Nat.le_of_ble_eq_true rfl, Nat.le_of_ble_eq_true rfl⟩ rfl rfl (Nat.le_of_ble_eq_true rfl) d_Mod_nextDue_14 ⟨Nat.zero_le _, Nat.zero_le _⟩ (fun r3 σ2 H locs h hI => ?_)
    refine lv_if_eq (tgt := 42) hx hb d_Mod_nextDue_17 (by decide) (fun c4 => ?_) (fun c4 => ?_)
    · have h := h.1 c4
      exact t_Mod_nextDue_J42 C hlocks hr hK4 h hI (lv_sub hl [0, 1, 2, 3] rfl)
    · have h := h.2 c4
      refine lv_aload_n hx hb d_Mod_nextDue_20 rfl (lv_at hl 0 rfl) ?_
      refine x_get C hI (d := 31) (by decide) (xE31 V _) fd_Mod_34 rfl d_Mod_nextDue_21 ?_
      refine lv_iload_n hx hb d_Mod_nextDue_24 rfl (lv_at hl 3 rfl) ?_
      obtain ⟨i14, h⟩ := h
      refine x_zald C hI (d := 48) (by decide) (xE48 V) i14 d_Mod_nextDue_25 ?_
      refine lv_if_ne (tgt := 42) hx hb d_Mod_nextDue_26 (by decide) (fun c15 => ?_) (fun c15 => ?_)
      · have h := h.1 c15
        exact t_Mod_nextDue_J42 C hlocks hr hK4 h hI (lv_sub hl [0, 1, 2, 3] rfl)
      · have h := h.2 c15
        refine lv_aload_n hx hb d_Mod_nextDue_29 rfl (lv_at hl 0 rfl) ?_
        refine x_get C hI (d := 31) (by decide) (xE31 V _) fd_Mod_25 rfl d_Mod_nextDue_30 ?_
        refine lv_iload_n hx hb d_Mod_nextDue_33 rfl (lv_at hl 3 rfl) ?_
        obtain ⟨i16, h⟩ := h
        refine x_iald C hI (d := 45) (by decide) (xE45 V) i16 d_Mod_nextDue_34 ?_
        refine lv_if_le (tgt := 42) hx hb d_Mod_nextDue_35 (by decide) (fun c17 => ?_) (fun c17 => ?_)
        · have h := h.1 c17
          exact t_Mod_nextDue_J42 C hlocks hr hK4 h hI (lv_sub hl [0, 1, 2, 3] rfl)
        · have h := h.2 c17
          refine lv_iconst (v := 1) hx hb d_Mod_nextDue_38 (by decide) ?_
          refine lv_goto (tgt := 43) hx hb d_Mod_nextDue_39 (by decide) ?_
          exact t_Mod_nextDue_J43 C hlocks hr hK4 h hI (lv_sub hl [0, 1, 2, 3] rfl)
theorem w_Mod_nextDue_L4 {p : Program} {l : Launch} {e : Env} {s : State} {m : MethodId} {args : Array Value} {below : List Frame} {meth : Method} {c : Code} {V : xV} (C : xC p s m args c cd_Mod_nextDue 5 R_Mod V) (hlocks : meth.locks = false) (hr : meth.sig.returnType = (some .int)) {Q : Int32 → xS → Prop} : ∀ (n : Nat) (x1 : Int32) (x2 : Int32) (x3 : Int32) (σ : xS) (H : Heap) (locs : List Loc) (ls : Array Slot), p_Mod_nextDue_L4 Q n x1 x2 x3 σ → xI V s.heap σ H locs → lv_has ls 5 [(0, .ref (V.2.2 31)), (1, .int x1), (2, .int x2), (3, .int x3)] → W p l e rm_Mod_nextDue s m args below meth c H locs 0 0 (xZi below V args s Q) (F0 m 4 ls []) := by
  intro n
  induction n with
  | zero =>
    intro x1 x2 x3 σ H locs ls h
    exact False.elim h
  | succ n ih =>
    intro x1 x2 x3 σ H locs ls h hI hl
    exact s_Mod_nextDue_L4 C hlocks hr (K4 := p_Mod_nextDue_L4 Q n) (fun x1 x2 x3 σ H locs ls h hI hl => ih x1 x2 x3 σ H locs ls h hI hl) h hI hl
set_option maxRecDepth 100000 in
set_option maxHeartbeats 4000000 in
theorem c_Mod_nextDue {l : Launch} {V : xV} {σ : xS} {x1 : Int32} {Q : Int32 → xS → Prop} (h : p_Mod_nextDue x1 σ Q) : xMi l y_Mod_nextDue (.code y_Mod_nextDue cd_Mod_nextDue 5 (some .int) :: xG) rm_Mod_nextDue V [.ref (V.2.2 31), .int x1] σ Q := by
  refine x_begini (by decide) (Nat.le_of_ble_eq_true rfl) (fun p e s m below meth c ls C hlocks hr hI hl => ?_)
  have C : xC p s m _ c cd_Mod_nextDue 5 R_Mod V := C
  have hx := C.1
  have hb := C.2.1
  have hl : lv_has ls 5 [(0, .ref (V.2.2 31)), (1, .int x1)] := hl
  unfold p_Mod_nextDue at h
  refine lv_iconst (v := (-1)) hx hb d_Mod_nextDue_0 (by decide) ?_
  refine lv_istore_n (lv' := [(2, .int (-1)), (0, .ref (V.2.2 31)), (1, .int x1)]) hx hb d_Mod_nextDue_1 rfl hl (by decide) rfl (fun ls hl => ?_)
  refine lv_iconst (v := 0) hx hb d_Mod_nextDue_2 (by decide) ?_
  refine lv_istore_n (lv' := [(3, .int 0), (2, .int (-1)), (0, .ref (V.2.2 31)), (1, .int x1)]) hx hb d_Mod_nextDue_3 rfl hl (by decide) rfl (fun ls hl => ?_)
  obtain ⟨n, h⟩ := h
  exact w_Mod_nextDue_L4 C hlocks hr n _ _ _ _ _ _ _ h hI (lv_sub hl [2, 3, 1, 0] rfl)
theorem yw_Mod_nextDue : xY y_Mod_nextDue cd_Mod_nextDue 5 (some .int) 1 := ⟨xG_mem 1140 (by decide +kernel) (by decide +kernel), xG_mem 41 (by decide +kernel) (by decide +kernel), xG_mem 65 (by decide +kernel) (by decide +kernel), xG_mem 1141 (by decide +kernel) (by decide +kernel), by decide, by decide, by decide +kernel⟩
theorem ml_Mod_124 : Cond.methodLink R_Mod 124 y_Mod_nextDue ∈ xG := xG_mem 1138 (by decide +kernel) (by decide +kernel)
theorem fd_Mod_131 : xFd R_Mod 131 10 21 := ⟨R_Mod, T_Mod, 32, rfl, in_Mod, by decide, xG_mem 1005 (by decide +kernel) (by decide +kernel)⟩
theorem fw_Mod_131 : xFw R_Mod 131 10 21 := ⟨R_Mod, T_Mod, 32, t_Mod, rfl, in_Mod, by decide, xG_mem 1005 (by decide +kernel) (by decide +kernel), tk_Mod, nm_Mod, rfl, by decide +kernel⟩
theorem xP_31_21 (V : xV) (f : Nat → Int32) (x : Int32) : xE V 31 (upd f 21 x) = .inr (10, [.int (f 0), .ref (V.2.2 40), .ref (V.2.2 41), .ref (V.2.2 42), .ref (V.2.2 43), .ref (V.2.2 44), .ref (V.2.2 45), .ref (V.2.2 46), .ref (V.2.2 47), .ref (V.2.2 48), .int (f 10), .ref (V.2.2 49), .ref (V.2.2 50), .int (f 13), .ref (V.2.2 51), .ref (V.2.2 52), .ref (V.2.2 53), .ref (V.2.2 54), .ref (V.2.2 55), .int (f 19), .ref (V.2.2 56), .int (f 21), .int (f 22), .int (f 23), .int (f 24), .int (f 25), .int (f 26), .ref (V.2.2 57), .ref (V.2.2 58), .ref (V.2.2 59), .ref (V.2.2 60), .int (f 31)].set 21 (.int x)) := rfl
theorem fd_Mod_134 : xFd R_Mod 134 10 22 := ⟨R_Mod, T_Mod, 32, rfl, in_Mod, by decide, xG_mem 1006 (by decide +kernel) (by decide +kernel)⟩
theorem fw_Mod_134 : xFw R_Mod 134 10 22 := ⟨R_Mod, T_Mod, 32, t_Mod, rfl, in_Mod, by decide, xG_mem 1006 (by decide +kernel) (by decide +kernel), tk_Mod, nm_Mod, rfl, by decide +kernel⟩
theorem xP_31_22 (V : xV) (f : Nat → Int32) (x : Int32) : xE V 31 (upd f 22 x) = .inr (10, [.int (f 0), .ref (V.2.2 40), .ref (V.2.2 41), .ref (V.2.2 42), .ref (V.2.2 43), .ref (V.2.2 44), .ref (V.2.2 45), .ref (V.2.2 46), .ref (V.2.2 47), .ref (V.2.2 48), .int (f 10), .ref (V.2.2 49), .ref (V.2.2 50), .int (f 13), .ref (V.2.2 51), .ref (V.2.2 52), .ref (V.2.2 53), .ref (V.2.2 54), .ref (V.2.2 55), .int (f 19), .ref (V.2.2 56), .int (f 21), .int (f 22), .int (f 23), .int (f 24), .int (f 25), .int (f 26), .ref (V.2.2 57), .ref (V.2.2 58), .ref (V.2.2 59), .ref (V.2.2 60), .int (f 31)].set 22 (.int x)) := rfl
def y_Mod_slide : MethodName := ⟨"RegionPoolModel", "slide", "(I)V"⟩
abbrev cd_Mod_slide : ByteArray := prog_12_method_22_code
theorem fd_Mod_137 : xFd R_Mod 137 10 23 := ⟨R_Mod, T_Mod, 32, rfl, in_Mod, by decide, xG_mem 1007 (by decide +kernel) (by decide +kernel)⟩
theorem fw_Mod_137 : xFw R_Mod 137 10 23 := ⟨R_Mod, T_Mod, 32, t_Mod, rfl, in_Mod, by decide, xG_mem 1007 (by decide +kernel) (by decide +kernel), tk_Mod, nm_Mod, rfl, by decide +kernel⟩
theorem xP_31_23 (V : xV) (f : Nat → Int32) (x : Int32) : xE V 31 (upd f 23 x) = .inr (10, [.int (f 0), .ref (V.2.2 40), .ref (V.2.2 41), .ref (V.2.2 42), .ref (V.2.2 43), .ref (V.2.2 44), .ref (V.2.2 45), .ref (V.2.2 46), .ref (V.2.2 47), .ref (V.2.2 48), .int (f 10), .ref (V.2.2 49), .ref (V.2.2 50), .int (f 13), .ref (V.2.2 51), .ref (V.2.2 52), .ref (V.2.2 53), .ref (V.2.2 54), .ref (V.2.2 55), .int (f 19), .ref (V.2.2 56), .int (f 21), .int (f 22), .int (f 23), .int (f 24), .int (f 25), .int (f 26), .ref (V.2.2 57), .ref (V.2.2 58), .ref (V.2.2 59), .ref (V.2.2 60), .int (f 31)].set 23 (.int x)) := rfl
def b_Mod_slide_L200 (K200 : Int32 → Int32 → Int32 → Int32 → xS → Prop) (Q : xS → Prop) (x1 x3 x5 x6 : Int32) (σ : xS) : Prop :=
  (vp_in x1 8 ∧ (((σ 51 x1.toNatClampNeg) ≤ x6 → (vp_in x1 8 ∧ (vp_in x1 8 ∧ Q (xu (xu σ 51 x1.toNatClampNeg x5) 53 x1.toNatClampNeg x3)))) ∧ (¬ (σ 51 x1.toNatClampNeg) ≤ x6 → (vp_in ((40 * x1) + x6) 320 ∧ (vp_in (σ 52 ((40 * x1) + x6).toNatClampNeg) 40 ∧ (∀ z10 : Int32, z10 = x6 + 1 → K200 x1 x3 x5 z10 (xu σ 50 (σ 52 ((40 * x1) + x6).toNatClampNeg).toNatClampNeg (vp_nar .boolean 0))))))))
def p_Mod_slide_L200 (Q : xS → Prop) (n : Nat) : Int32 → Int32 → Int32 → Int32 → xS → Prop := Nat.rec (motive := fun _ => Int32 → Int32 → Int32 → Int32 → xS → Prop) (fun _ _ _ _ _ => False) (fun _ K x1 x3 x5 x6 σ => b_Mod_slide_L200 K Q x1 x3 x5 x6 σ) n
def p_Mod_slide_J151 (K10 : Int32 → Int32 → Int32 → Int32 → Int32 → xS → Prop) (K24 : Int32 → Int32 → Int32 → Int32 → Int32 → Int32 → xS → Prop) (Q : xS → Prop) (x1 x2 x3 x5 x6 x8 : Int32) (y0 : Int32) (y1 : Int32) (σ : xS) : Prop :=
  (vp_in x8 640 ∧ (∀ z28 : Int32, z28 = (x3 + (((xu σ 31 23 (y1 + y0)) 42 x8.toNatClampNeg) + 1)) → (∀ z29 : Int32, z29 = x6 + 1 → K24 x1 x2 z28 1 x5 z29 (xu σ 31 23 (y1 + y0)))))
def p_Mod_slide_J90 (K10 : Int32 → Int32 → Int32 → Int32 → Int32 → xS → Prop) (K24 : Int32 → Int32 → Int32 → Int32 → Int32 → Int32 → xS → Prop) (Q : xS → Prop) (x1 x2 x3 x5 x6 x7 x8 : Int32) (σ : xS) : Prop :=
  (vp_in ((40 * x1) + x2) 320 ∧ (∀ z22 : Int32, z22 = ((16 * (σ 52 ((40 * x1) + x2).toNatClampNeg)) + x3) → (vp_in x7 640 ∧ (vp_in z22 640 ∧ (vp_in x8 640 ∧ ((¬ x7 = z22 → p_Mod_slide_J151 K10 K24 Q x1 x2 x3 x5 x6 x8 1 ((xu (xu (xu σ 49 x7.toNatClampNeg (-1)) 49 z22.toNatClampNeg x8) 44 x8.toNatClampNeg z22) 31 23) (xu (xu (xu σ 49 x7.toNatClampNeg (-1)) 49 z22.toNatClampNeg x8) 44 x8.toNatClampNeg z22)) ∧ (x7 = z22 → p_Mod_slide_J151 K10 K24 Q x1 x2 x3 x5 x6 x8 0 ((xu (xu (xu σ 49 x7.toNatClampNeg (-1)) 49 z22.toNatClampNeg x8) 44 x8.toNatClampNeg z22) 31 23) (xu (xu (xu σ 49 x7.toNatClampNeg (-1)) 49 z22.toNatClampNeg x8) 44 x8.toNatClampNeg z22))))))))
def b_Mod_slide_L24 (K10 : Int32 → Int32 → Int32 → Int32 → Int32 → xS → Prop) (K24 : Int32 → Int32 → Int32 → Int32 → Int32 → Int32 → xS → Prop) (Q : xS → Prop) (x1 x2 x3 x4 x5 x6 : Int32) (σ : xS) : Prop :=
  ((16 ≤ x6 → (∀ z13 : Int32, z13 = x5 + 1 → K10 x1 x2 x3 x4 z13 σ)) ∧ (¬ 16 ≤ x6 → (vp_in ((40 * x1) + x5) 320 ∧ (∀ z15 : Int32, z15 = ((16 * (σ 52 ((40 * x1) + x5).toNatClampNeg)) + x6) → (vp_in z15 640 ∧ (∀ z17 : Int32, z17 = (σ 49 z15.toNatClampNeg) → ((¬ z17 = (-1) → (vp_in z17 640 ∧ ((((x3 + (σ 42 z17.toNatClampNeg)) + 1) ≤ 16 → p_Mod_slide_J90 K10 K24 Q x1 x2 x3 x5 x6 z15 z17 σ) ∧ (¬ ((x3 + (σ 42 z17.toNatClampNeg)) + 1) ≤ 16 → (∀ z30 : Int32, z30 = x2 + 1 → p_Mod_slide_J90 K10 K24 Q x1 z30 0 x5 x6 z15 z17 σ))))) ∧ (z17 = (-1) → (∀ z31 : Int32, z31 = x6 + 1 → K24 x1 x2 x3 x4 x5 z31 σ)))))))))
def p_Mod_slide_L24 (K10 : Int32 → Int32 → Int32 → Int32 → Int32 → xS → Prop) (Q : xS → Prop) (n : Nat) : Int32 → Int32 → Int32 → Int32 → Int32 → Int32 → xS → Prop := Nat.rec (motive := fun _ => Int32 → Int32 → Int32 → Int32 → Int32 → Int32 → xS → Prop) (fun _ _ _ _ _ _ _ => False) (fun _ K x1 x2 x3 x4 x5 x6 σ => b_Mod_slide_L24 K10 K Q x1 x2 x3 x4 x5 x6 σ) n
def b_Mod_slide_L10 (K10 : Int32 → Int32 → Int32 → Int32 → Int32 → xS → Prop) (Q : xS → Prop) (x1 x2 x3 x4 x5 : Int32) (σ : xS) : Prop :=
  (vp_in x1 8 ∧ (((σ 51 x1.toNatClampNeg) ≤ x5 → ((x4 = 0 → (∃ n, p_Mod_slide_L200 Q n x1 x3 0 0 σ)) ∧ (¬ x4 = 0 → (∀ z11 : Int32, z11 = (x2 + 1) → (∃ n, p_Mod_slide_L200 Q n x1 x3 z11 z11 σ))))) ∧ (¬ (σ 51 x1.toNatClampNeg) ≤ x5 → (∃ n, p_Mod_slide_L24 K10 Q n x1 x2 x3 x4 x5 0 σ))))
def p_Mod_slide_L10 (Q : xS → Prop) (n : Nat) : Int32 → Int32 → Int32 → Int32 → Int32 → xS → Prop := Nat.rec (motive := fun _ => Int32 → Int32 → Int32 → Int32 → Int32 → xS → Prop) (fun _ _ _ _ _ _ => False) (fun _ K x1 x2 x3 x4 x5 σ => b_Mod_slide_L10 K Q x1 x2 x3 x4 x5 σ) n
def p_Mod_slide (x1 : Int32) (σ : xS) (Q : xS → Prop) : Prop :=
  (∃ n, p_Mod_slide_L10 Q n x1 0 0 0 0 σ)
abbrev rm_Mod_slide : Room := { frames := 0, cells := 0, slots := 0, locals := 0 }
theorem d_Mod_slide_0 : decode cd_Mod_slide 0 = .ok (.iconst 0, 1) := by decide +kernel
theorem d_Mod_slide_1 : decode cd_Mod_slide 1 = .ok (.istore_n 2, 1) := by decide +kernel
theorem d_Mod_slide_2 : decode cd_Mod_slide 2 = .ok (.iconst 0, 1) := by decide +kernel
theorem d_Mod_slide_3 : decode cd_Mod_slide 3 = .ok (.istore_n 3, 1) := by decide +kernel
theorem d_Mod_slide_4 : decode cd_Mod_slide 4 = .ok (.iconst 0, 1) := by decide +kernel
theorem d_Mod_slide_5 : decode cd_Mod_slide 5 = .ok (.istore 4, 2) := by decide +kernel
theorem d_Mod_slide_7 : decode cd_Mod_slide 7 = .ok (.iconst 0, 1) := by decide +kernel
theorem d_Mod_slide_8 : decode cd_Mod_slide 8 = .ok (.istore 5, 2) := by decide +kernel
theorem d_Mod_slide_10 : decode cd_Mod_slide 10 = .ok (.iload 5, 2) := by decide +kernel
theorem d_Mod_slide_12 : decode cd_Mod_slide 12 = .ok (.aload_n 0, 1) := by decide +kernel
theorem d_Mod_slide_13 : decode cd_Mod_slide 13 = .ok (.getfield 44, 3) := by decide +kernel
theorem d_Mod_slide_16 : decode cd_Mod_slide 16 = .ok (.iload_n 1, 1) := by decide +kernel
theorem d_Mod_slide_17 : decode cd_Mod_slide 17 = .ok (.iaload, 1) := by decide +kernel
theorem d_Mod_slide_18 : decode cd_Mod_slide 18 = .ok (.if_icmp .ge 164, 3) := by decide +kernel
theorem d_Mod_slide_21 : decode cd_Mod_slide 21 = .ok (.iconst 0, 1) := by decide +kernel
theorem d_Mod_slide_22 : decode cd_Mod_slide 22 = .ok (.istore 6, 2) := by decide +kernel
theorem d_Mod_slide_24 : decode cd_Mod_slide 24 = .ok (.iload 6, 2) := by decide +kernel
theorem d_Mod_slide_26 : decode cd_Mod_slide 26 = .ok (.bipush 16, 2) := by decide +kernel
theorem d_Mod_slide_28 : decode cd_Mod_slide 28 = .ok (.if_icmp .ge 148, 3) := by decide +kernel
theorem d_Mod_slide_31 : decode cd_Mod_slide 31 = .ok (.bipush 16, 2) := by decide +kernel
theorem d_Mod_slide_33 : decode cd_Mod_slide 33 = .ok (.aload_n 0, 1) := by decide +kernel
theorem d_Mod_slide_34 : decode cd_Mod_slide 34 = .ok (.getfield 47, 3) := by decide +kernel
theorem d_Mod_slide_37 : decode cd_Mod_slide 37 = .ok (.bipush 40, 2) := by decide +kernel
theorem d_Mod_slide_39 : decode cd_Mod_slide 39 = .ok (.iload_n 1, 1) := by decide +kernel
theorem d_Mod_slide_40 : decode cd_Mod_slide 40 = .ok (.imul, 1) := by decide +kernel
theorem d_Mod_slide_41 : decode cd_Mod_slide 41 = .ok (.iload 5, 2) := by decide +kernel
theorem d_Mod_slide_43 : decode cd_Mod_slide 43 = .ok (.iadd, 1) := by decide +kernel
theorem d_Mod_slide_44 : decode cd_Mod_slide 44 = .ok (.iaload, 1) := by decide +kernel
theorem d_Mod_slide_45 : decode cd_Mod_slide 45 = .ok (.imul, 1) := by decide +kernel
theorem d_Mod_slide_46 : decode cd_Mod_slide 46 = .ok (.iload 6, 2) := by decide +kernel
theorem d_Mod_slide_48 : decode cd_Mod_slide 48 = .ok (.iadd, 1) := by decide +kernel
theorem d_Mod_slide_49 : decode cd_Mod_slide 49 = .ok (.istore 7, 2) := by decide +kernel
theorem d_Mod_slide_51 : decode cd_Mod_slide 51 = .ok (.aload_n 0, 1) := by decide +kernel
theorem d_Mod_slide_52 : decode cd_Mod_slide 52 = .ok (.getfield 38, 3) := by decide +kernel
theorem d_Mod_slide_55 : decode cd_Mod_slide 55 = .ok (.iload 7, 2) := by decide +kernel
theorem d_Mod_slide_57 : decode cd_Mod_slide 57 = .ok (.iaload, 1) := by decide +kernel
theorem d_Mod_slide_58 : decode cd_Mod_slide 58 = .ok (.istore 8, 2) := by decide +kernel
theorem d_Mod_slide_60 : decode cd_Mod_slide 60 = .ok (.iload 8, 2) := by decide +kernel
theorem d_Mod_slide_62 : decode cd_Mod_slide 62 = .ok (.iconst (-1), 1) := by decide +kernel
theorem d_Mod_slide_63 : decode cd_Mod_slide 63 = .ok (.if_icmp .ne 6, 3) := by decide +kernel
theorem d_Mod_slide_66 : decode cd_Mod_slide 66 = .ok (.goto 104, 3) := by decide +kernel
theorem d_Mod_slide_69 : decode cd_Mod_slide 69 = .ok (.iload_n 3, 1) := by decide +kernel
theorem d_Mod_slide_70 : decode cd_Mod_slide 70 = .ok (.aload_n 0, 1) := by decide +kernel
theorem d_Mod_slide_71 : decode cd_Mod_slide 71 = .ok (.getfield 16, 3) := by decide +kernel
theorem d_Mod_slide_74 : decode cd_Mod_slide 74 = .ok (.iload 8, 2) := by decide +kernel
theorem d_Mod_slide_76 : decode cd_Mod_slide 76 = .ok (.iaload, 1) := by decide +kernel
theorem d_Mod_slide_77 : decode cd_Mod_slide 77 = .ok (.iadd, 1) := by decide +kernel
theorem d_Mod_slide_78 : decode cd_Mod_slide 78 = .ok (.iconst 1, 1) := by decide +kernel
theorem d_Mod_slide_79 : decode cd_Mod_slide 79 = .ok (.iadd, 1) := by decide +kernel
theorem d_Mod_slide_80 : decode cd_Mod_slide 80 = .ok (.bipush 16, 2) := by decide +kernel
theorem d_Mod_slide_82 : decode cd_Mod_slide 82 = .ok (.if_icmp .le 8, 3) := by decide +kernel
theorem d_Mod_slide_85 : decode cd_Mod_slide 85 = .ok (.iinc 2 1, 3) := by decide +kernel
theorem d_Mod_slide_88 : decode cd_Mod_slide 88 = .ok (.iconst 0, 1) := by decide +kernel
theorem d_Mod_slide_89 : decode cd_Mod_slide 89 = .ok (.istore_n 3, 1) := by decide +kernel
theorem d_Mod_slide_90 : decode cd_Mod_slide 90 = .ok (.bipush 16, 2) := by decide +kernel
theorem d_Mod_slide_92 : decode cd_Mod_slide 92 = .ok (.aload_n 0, 1) := by decide +kernel
theorem d_Mod_slide_93 : decode cd_Mod_slide 93 = .ok (.getfield 47, 3) := by decide +kernel
theorem d_Mod_slide_96 : decode cd_Mod_slide 96 = .ok (.bipush 40, 2) := by decide +kernel
theorem d_Mod_slide_98 : decode cd_Mod_slide 98 = .ok (.iload_n 1, 1) := by decide +kernel
theorem d_Mod_slide_99 : decode cd_Mod_slide 99 = .ok (.imul, 1) := by decide +kernel
theorem d_Mod_slide_100 : decode cd_Mod_slide 100 = .ok (.iload_n 2, 1) := by decide +kernel
theorem d_Mod_slide_101 : decode cd_Mod_slide 101 = .ok (.iadd, 1) := by decide +kernel
theorem d_Mod_slide_102 : decode cd_Mod_slide 102 = .ok (.iaload, 1) := by decide +kernel
theorem d_Mod_slide_103 : decode cd_Mod_slide 103 = .ok (.imul, 1) := by decide +kernel
theorem d_Mod_slide_104 : decode cd_Mod_slide 104 = .ok (.iload_n 3, 1) := by decide +kernel
theorem d_Mod_slide_105 : decode cd_Mod_slide 105 = .ok (.iadd, 1) := by decide +kernel
theorem d_Mod_slide_106 : decode cd_Mod_slide 106 = .ok (.istore 9, 2) := by decide +kernel
theorem d_Mod_slide_108 : decode cd_Mod_slide 108 = .ok (.aload_n 0, 1) := by decide +kernel
theorem d_Mod_slide_109 : decode cd_Mod_slide 109 = .ok (.getfield 38, 3) := by decide +kernel
theorem d_Mod_slide_112 : decode cd_Mod_slide 112 = .ok (.iload 7, 2) := by decide +kernel
theorem d_Mod_slide_114 : decode cd_Mod_slide 114 = .ok (.iconst (-1), 1) := by decide +kernel
theorem d_Mod_slide_115 : decode cd_Mod_slide 115 = .ok (.iastore, 1) := by decide +kernel
theorem d_Mod_slide_116 : decode cd_Mod_slide 116 = .ok (.aload_n 0, 1) := by decide +kernel
theorem d_Mod_slide_117 : decode cd_Mod_slide 117 = .ok (.getfield 38, 3) := by decide +kernel
theorem d_Mod_slide_120 : decode cd_Mod_slide 120 = .ok (.iload 9, 2) := by decide +kernel
theorem d_Mod_slide_122 : decode cd_Mod_slide 122 = .ok (.iload 8, 2) := by decide +kernel
theorem d_Mod_slide_124 : decode cd_Mod_slide 124 = .ok (.iastore, 1) := by decide +kernel
theorem d_Mod_slide_125 : decode cd_Mod_slide 125 = .ok (.aload_n 0, 1) := by decide +kernel
theorem d_Mod_slide_126 : decode cd_Mod_slide 126 = .ok (.getfield 22, 3) := by decide +kernel
theorem d_Mod_slide_129 : decode cd_Mod_slide 129 = .ok (.iload 8, 2) := by decide +kernel
theorem d_Mod_slide_131 : decode cd_Mod_slide 131 = .ok (.iload 9, 2) := by decide +kernel
theorem d_Mod_slide_133 : decode cd_Mod_slide 133 = .ok (.iastore, 1) := by decide +kernel
theorem d_Mod_slide_134 : decode cd_Mod_slide 134 = .ok (.aload_n 0, 1) := by decide +kernel
theorem d_Mod_slide_135 : decode cd_Mod_slide 135 = .ok (.dup, 1) := by decide +kernel
theorem d_Mod_slide_136 : decode cd_Mod_slide 136 = .ok (.getfield 137, 3) := by decide +kernel
theorem d_Mod_slide_139 : decode cd_Mod_slide 139 = .ok (.iload 7, 2) := by decide +kernel
theorem d_Mod_slide_141 : decode cd_Mod_slide 141 = .ok (.iload 9, 2) := by decide +kernel
theorem d_Mod_slide_143 : decode cd_Mod_slide 143 = .ok (.if_icmp .ne 7, 3) := by decide +kernel
theorem d_Mod_slide_146 : decode cd_Mod_slide 146 = .ok (.iconst 0, 1) := by decide +kernel
theorem d_Mod_slide_147 : decode cd_Mod_slide 147 = .ok (.goto 4, 3) := by decide +kernel
theorem d_Mod_slide_150 : decode cd_Mod_slide 150 = .ok (.iconst 1, 1) := by decide +kernel
theorem d_Mod_slide_151 : decode cd_Mod_slide 151 = .ok (.iadd, 1) := by decide +kernel
theorem d_Mod_slide_152 : decode cd_Mod_slide 152 = .ok (.putfield 137, 3) := by decide +kernel
theorem d_Mod_slide_155 : decode cd_Mod_slide 155 = .ok (.iload_n 3, 1) := by decide +kernel
theorem d_Mod_slide_156 : decode cd_Mod_slide 156 = .ok (.aload_n 0, 1) := by decide +kernel
theorem d_Mod_slide_157 : decode cd_Mod_slide 157 = .ok (.getfield 16, 3) := by decide +kernel
theorem d_Mod_slide_160 : decode cd_Mod_slide 160 = .ok (.iload 8, 2) := by decide +kernel
theorem d_Mod_slide_162 : decode cd_Mod_slide 162 = .ok (.iaload, 1) := by decide +kernel
theorem d_Mod_slide_163 : decode cd_Mod_slide 163 = .ok (.iconst 1, 1) := by decide +kernel
theorem d_Mod_slide_164 : decode cd_Mod_slide 164 = .ok (.iadd, 1) := by decide +kernel
theorem d_Mod_slide_165 : decode cd_Mod_slide 165 = .ok (.iadd, 1) := by decide +kernel
theorem d_Mod_slide_166 : decode cd_Mod_slide 166 = .ok (.istore_n 3, 1) := by decide +kernel
theorem d_Mod_slide_167 : decode cd_Mod_slide 167 = .ok (.iconst 1, 1) := by decide +kernel
theorem d_Mod_slide_168 : decode cd_Mod_slide 168 = .ok (.istore 4, 2) := by decide +kernel
theorem d_Mod_slide_170 : decode cd_Mod_slide 170 = .ok (.iinc 6 1, 3) := by decide +kernel
theorem d_Mod_slide_173 : decode cd_Mod_slide 173 = .ok (.goto (-149), 3) := by decide +kernel
theorem d_Mod_slide_176 : decode cd_Mod_slide 176 = .ok (.iinc 5 1, 3) := by decide +kernel
theorem d_Mod_slide_179 : decode cd_Mod_slide 179 = .ok (.goto (-169), 3) := by decide +kernel
theorem d_Mod_slide_182 : decode cd_Mod_slide 182 = .ok (.iload 4, 2) := by decide +kernel
theorem d_Mod_slide_184 : decode cd_Mod_slide 184 = .ok (.ifCond .eq 9, 3) := by decide +kernel
theorem d_Mod_slide_187 : decode cd_Mod_slide 187 = .ok (.iload_n 2, 1) := by decide +kernel
theorem d_Mod_slide_188 : decode cd_Mod_slide 188 = .ok (.iconst 1, 1) := by decide +kernel
theorem d_Mod_slide_189 : decode cd_Mod_slide 189 = .ok (.iadd, 1) := by decide +kernel
theorem d_Mod_slide_190 : decode cd_Mod_slide 190 = .ok (.goto 4, 3) := by decide +kernel
theorem d_Mod_slide_193 : decode cd_Mod_slide 193 = .ok (.iconst 0, 1) := by decide +kernel
theorem d_Mod_slide_194 : decode cd_Mod_slide 194 = .ok (.istore 5, 2) := by decide +kernel
theorem d_Mod_slide_196 : decode cd_Mod_slide 196 = .ok (.iload 5, 2) := by decide +kernel
theorem d_Mod_slide_198 : decode cd_Mod_slide 198 = .ok (.istore 6, 2) := by decide +kernel
theorem d_Mod_slide_200 : decode cd_Mod_slide 200 = .ok (.iload 6, 2) := by decide +kernel
theorem d_Mod_slide_202 : decode cd_Mod_slide 202 = .ok (.aload_n 0, 1) := by decide +kernel
theorem d_Mod_slide_203 : decode cd_Mod_slide 203 = .ok (.getfield 44, 3) := by decide +kernel
theorem d_Mod_slide_206 : decode cd_Mod_slide 206 = .ok (.iload_n 1, 1) := by decide +kernel
theorem d_Mod_slide_207 : decode cd_Mod_slide 207 = .ok (.iaload, 1) := by decide +kernel
theorem d_Mod_slide_208 : decode cd_Mod_slide 208 = .ok (.if_icmp .ge 27, 3) := by decide +kernel
theorem d_Mod_slide_211 : decode cd_Mod_slide 211 = .ok (.aload_n 0, 1) := by decide +kernel
theorem d_Mod_slide_212 : decode cd_Mod_slide 212 = .ok (.getfield 41, 3) := by decide +kernel
theorem d_Mod_slide_215 : decode cd_Mod_slide 215 = .ok (.aload_n 0, 1) := by decide +kernel
theorem d_Mod_slide_216 : decode cd_Mod_slide 216 = .ok (.getfield 47, 3) := by decide +kernel
theorem d_Mod_slide_219 : decode cd_Mod_slide 219 = .ok (.bipush 40, 2) := by decide +kernel
theorem d_Mod_slide_221 : decode cd_Mod_slide 221 = .ok (.iload_n 1, 1) := by decide +kernel
theorem d_Mod_slide_222 : decode cd_Mod_slide 222 = .ok (.imul, 1) := by decide +kernel
theorem d_Mod_slide_223 : decode cd_Mod_slide 223 = .ok (.iload 6, 2) := by decide +kernel
theorem d_Mod_slide_225 : decode cd_Mod_slide 225 = .ok (.iadd, 1) := by decide +kernel
theorem d_Mod_slide_226 : decode cd_Mod_slide 226 = .ok (.iaload, 1) := by decide +kernel
theorem d_Mod_slide_227 : decode cd_Mod_slide 227 = .ok (.iconst 0, 1) := by decide +kernel
theorem d_Mod_slide_228 : decode cd_Mod_slide 228 = .ok (.bastore, 1) := by decide +kernel
theorem d_Mod_slide_229 : decode cd_Mod_slide 229 = .ok (.iinc 6 1, 3) := by decide +kernel
theorem d_Mod_slide_232 : decode cd_Mod_slide 232 = .ok (.goto (-32), 3) := by decide +kernel
theorem d_Mod_slide_235 : decode cd_Mod_slide 235 = .ok (.aload_n 0, 1) := by decide +kernel
theorem d_Mod_slide_236 : decode cd_Mod_slide 236 = .ok (.getfield 44, 3) := by decide +kernel
theorem d_Mod_slide_239 : decode cd_Mod_slide 239 = .ok (.iload_n 1, 1) := by decide +kernel
theorem d_Mod_slide_240 : decode cd_Mod_slide 240 = .ok (.iload 5, 2) := by decide +kernel
theorem d_Mod_slide_242 : decode cd_Mod_slide 242 = .ok (.iastore, 1) := by decide +kernel
theorem d_Mod_slide_243 : decode cd_Mod_slide 243 = .ok (.aload_n 0, 1) := by decide +kernel
theorem d_Mod_slide_244 : decode cd_Mod_slide 244 = .ok (.getfield 50, 3) := by decide +kernel
theorem d_Mod_slide_247 : decode cd_Mod_slide 247 = .ok (.iload_n 1, 1) := by decide +kernel
theorem d_Mod_slide_248 : decode cd_Mod_slide 248 = .ok (.iload_n 3, 1) := by decide +kernel
theorem d_Mod_slide_249 : decode cd_Mod_slide 249 = .ok (.iastore, 1) := by decide +kernel
theorem d_Mod_slide_250 : decode cd_Mod_slide 250 = .ok (.return_, 1) := by decide +kernel
set_option maxRecDepth 100000 in
set_option maxHeartbeats 4000000 in
theorem s_Mod_slide_L200 {p : Program} {l : Launch} {e : Env} {s : State} {m : MethodId} {args : Array Value} {below : List Frame} {meth : Method} {c : Code} {V : xV} (C : xC p s m args c cd_Mod_slide 10 R_Mod V) (hlocks : meth.locks = false) (hr : meth.sig.returnType = none) {Q : xS → Prop} {K200 : Int32 → Int32 → Int32 → Int32 → xS → Prop} (hK200 : ∀ (x1 : Int32) (x3 : Int32) (x5 : Int32) (x6 : Int32) (σ : xS) (H : Heap) (locs : List Loc) (ls : Array Slot), K200 x1 x3 x5 x6 σ → xI V s.heap σ H locs → lv_has ls 10 [(0, .ref (V.2.2 31)), (1, .int x1), (3, .int x3), (5, .int x5), (6, .int x6)] → W p l e rm_Mod_slide s m args below meth c H locs 0 0 (xZv below V args s Q) (F0 m 200 ls [])) {x1 x3 x5 x6 : Int32} {σ : xS} {H : Heap} {locs : List Loc} {ls : Array Slot} (h : b_Mod_slide_L200 K200 Q x1 x3 x5 x6 σ) (hI : xI V s.heap σ H locs) (hl : lv_has ls 10 [(0, .ref (V.2.2 31)), (1, .int x1), (3, .int x3), (5, .int x5), (6, .int x6)]) : W p l e rm_Mod_slide s m args below meth c H locs 0 0 (xZv below V args s Q) (F0 m 200 ls []) := by
  have hx := C.1
  have hb := C.2.1
  unfold b_Mod_slide_L200 at h
  refine lv_iload hx hb d_Mod_slide_200 (lv_at hl 4 rfl) ?_
  refine lv_aload_n hx hb d_Mod_slide_202 rfl (lv_at hl 0 rfl) ?_
  refine x_get C hI (d := 31) (by decide) (xE31 V _) fd_Mod_44 rfl d_Mod_slide_203 ?_
  refine lv_iload_n hx hb d_Mod_slide_206 rfl (lv_at hl 1 rfl) ?_
  obtain ⟨i4, h⟩ := h
  refine x_iald C hI (d := 51) (by decide) (xE51 V) i4 d_Mod_slide_207 ?_
  refine lv_icmp_ge (tgt := 235) hx hb d_Mod_slide_208 (by decide) (fun c5 => ?_) (fun c5 => ?_)
  · have h := h.1 c5
    refine lv_aload_n hx hb d_Mod_slide_235 rfl (lv_at hl 0 rfl) ?_
    refine x_get C hI (d := 31) (by decide) (xE31 V _) fd_Mod_44 rfl d_Mod_slide_236 ?_
    refine lv_iload_n hx hb d_Mod_slide_239 rfl (lv_at hl 1 rfl) ?_
    refine lv_iload hx hb d_Mod_slide_240 (lv_at hl 3 rfl) ?_
    obtain ⟨i6, h⟩ := h
    refine x_iast C hI (d := 51) (by decide) (xE51 V) i6 d_Mod_slide_242 (fun H locs hI => ?_)
    refine lv_aload_n hx hb d_Mod_slide_243 rfl (lv_at hl 0 rfl) ?_
    refine x_get C hI (d := 31) (by decide) (xE31 V _) fd_Mod_50 rfl d_Mod_slide_244 ?_
    refine lv_iload_n hx hb d_Mod_slide_247 rfl (lv_at hl 1 rfl) ?_
    refine lv_iload_n hx hb d_Mod_slide_248 rfl (lv_at hl 2 rfl) ?_
    obtain ⟨i7, h⟩ := h
    refine x_iast C hI (d := 53) (by decide) (xE53 V) i7 d_Mod_slide_249 (fun H locs hI => ?_)
    exact x_vret C hlocks hr hI h d_Mod_slide_250
  · have h := h.2 c5
    refine lv_aload_n hx hb d_Mod_slide_211 rfl (lv_at hl 0 rfl) ?_
    refine x_get C hI (d := 31) (by decide) (xE31 V _) fd_Mod_41 rfl d_Mod_slide_212 ?_
    refine lv_aload_n hx hb d_Mod_slide_215 rfl (lv_at hl 0 rfl) ?_
    refine x_get C hI (d := 31) (by decide) (xE31 V _) fd_Mod_47 rfl d_Mod_slide_216 ?_
    refine lv_bipush (v := 40) hx hb d_Mod_slide_219 (by decide) ?_
    refine lv_iload_n hx hb d_Mod_slide_221 rfl (lv_at hl 1 rfl) ?_
    refine lv_imul hx hb d_Mod_slide_222 ?_
    refine lv_iload hx hb d_Mod_slide_223 (lv_at hl 4 rfl) ?_
    refine lv_iadd hx hb d_Mod_slide_225 ?_
    obtain ⟨i8, h⟩ := h
    refine x_iald C hI (d := 52) (by decide) (xE52 V) i8 d_Mod_slide_226 ?_
    refine lv_iconst (v := 0) hx hb d_Mod_slide_227 (by decide) ?_
    obtain ⟨i9, h⟩ := h
    refine x_zast C hI (d := 50) (by decide) (xE50 V) i9 d_Mod_slide_228 (fun H locs hI => ?_)
    obtain ⟨z10, ez10⟩ : ∃ y : Int32, y = x6 + 1 := ⟨_, rfl⟩
    have h := h z10 ez10
    refine lv_iinc (v := z10) (lv' := [(6, .int z10), (0, .ref (V.2.2 31)), (1, .int x1), (3, .int x3), (5, .int x5)]) hx hb d_Mod_slide_229 hl (k := 4) rfl (by rw [ez10]; rfl) (by decide) rfl (fun ls hl => ?_)
    refine lv_goto (tgt := 200) hx hb d_Mod_slide_232 (by decide) ?_
    exact hK200 _ _ _ _ _ _ _ _ h hI (lv_sub hl [1, 2, 3, 4, 0] rfl)
theorem w_Mod_slide_L200 {p : Program} {l : Launch} {e : Env} {s : State} {m : MethodId} {args : Array Value} {below : List Frame} {meth : Method} {c : Code} {V : xV} (C : xC p s m args c cd_Mod_slide 10 R_Mod V) (hlocks : meth.locks = false) (hr : meth.sig.returnType = none) {Q : xS → Prop} : ∀ (n : Nat) (x1 : Int32) (x3 : Int32) (x5 : Int32) (x6 : Int32) (σ : xS) (H : Heap) (locs : List Loc) (ls : Array Slot), p_Mod_slide_L200 Q n x1 x3 x5 x6 σ → xI V s.heap σ H locs → lv_has ls 10 [(0, .ref (V.2.2 31)), (1, .int x1), (3, .int x3), (5, .int x5), (6, .int x6)] → W p l e rm_Mod_slide s m args below meth c H locs 0 0 (xZv below V args s Q) (F0 m 200 ls []) := by
  intro n
  induction n with
  | zero =>
    intro x1 x3 x5 x6 σ H locs ls h
    exact False.elim h
  | succ n ih =>
    intro x1 x3 x5 x6 σ H locs ls h hI hl
    exact s_Mod_slide_L200 C hlocks hr (K200 := p_Mod_slide_L200 Q n) (fun x1 x3 x5 x6 σ H locs ls h hI hl => ih x1 x3 x5 x6 σ H locs ls h hI hl) h hI hl
set_option maxRecDepth 100000 in
set_option maxHeartbeats 4000000 in
theorem t_Mod_slide_J151 {p : Program} {l : Launch} {e : Env} {s : State} {m : MethodId} {args : Array Value} {below : List Frame} {meth : Method} {c : Code} {V : xV} (C : xC p s m args c cd_Mod_slide 10 R_Mod V) (hlocks : meth.locks = false) (hr : meth.sig.returnType = none) {Q : xS → Prop} {K10 : Int32 → Int32 → Int32 → Int32 → Int32 → xS → Prop} {K24 : Int32 → Int32 → Int32 → Int32 → Int32 → Int32 → xS → Prop} (hK10 : ∀ (x1 : Int32) (x2 : Int32) (x3 : Int32) (x4 : Int32) (x5 : Int32) (σ : xS) (H : Heap) (locs : List Loc) (ls : Array Slot), K10 x1 x2 x3 x4 x5 σ → xI V s.heap σ H locs → lv_has ls 10 [(0, .ref (V.2.2 31)), (1, .int x1), (2, .int x2), (3, .int x3), (4, .int x4), (5, .int x5)] → W p l e rm_Mod_slide s m args below meth c H locs 0 0 (xZv below V args s Q) (F0 m 10 ls [])) (hK24 : ∀ (x1 : Int32) (x2 : Int32) (x3 : Int32) (x4 : Int32) (x5 : Int32) (x6 : Int32) (σ : xS) (H : Heap) (locs : List Loc) (ls : Array Slot), K24 x1 x2 x3 x4 x5 x6 σ → xI V s.heap σ H locs → lv_has ls 10 [(0, .ref (V.2.2 31)), (1, .int x1), (2, .int x2), (3, .int x3), (4, .int x4), (5, .int x5), (6, .int x6)] → W p l e rm_Mod_slide s m args below meth c H locs 0 0 (xZv below V args s Q) (F0 m 24 ls [])) {x1 x2 x3 x5 x6 x8 : Int32} {y0 : Int32} {y1 : Int32} {σ : xS} {H : Heap} {locs : List Loc} {ls : Array Slot} (h : p_Mod_slide_J151 K10 K24 Q x1 x2 x3 x5 x6 x8 y0 y1 σ) (hI : xI V s.heap σ H locs) (hl : lv_has ls 10 [(0, .ref (V.2.2 31)), (1, .int x1), (2, .int x2), (3, .int x3), (5, .int x5), (6, .int x6), (8, .int x8)]) : W p l e rm_Mod_slide s m args below meth c H locs 0 0 (xZv below V args s Q) (F0 m 151 ls [.int y0, .int y1, .ref (V.2.2 31)]) := by
  have hx := C.1
  have hb := C.2.1
  unfold p_Mod_slide_J151 at h
  refine lv_iadd hx hb d_Mod_slide_151 ?_
  refine x_put C hI (d := 31) (by decide) (xE31 V _) (xP_31_23 V _ _) fw_Mod_137 (Nat.le_of_ble_eq_true rfl) d_Mod_slide_152 (fun H locs hI => ?_)
  refine lv_iload_n hx hb d_Mod_slide_155 rfl (lv_at hl 3 rfl) ?_
  refine lv_aload_n hx hb d_Mod_slide_156 rfl (lv_at hl 0 rfl) ?_
  refine x_get C hI (d := 31) (by decide) (xE31 V _) fd_Mod_16 rfl d_Mod_slide_157 ?_
  refine lv_iload hx hb d_Mod_slide_160 (lv_at hl 6 rfl) ?_
  obtain ⟨i27, h⟩ := h
  refine x_iald C hI (d := 42) (by decide) (xE42 V) i27 d_Mod_slide_162 ?_
  refine lv_iconst (v := 1) hx hb d_Mod_slide_163 (by decide) ?_
  refine lv_iadd hx hb d_Mod_slide_164 ?_
  refine lv_iadd hx hb d_Mod_slide_165 ?_
  refine lv_topi (fun z28 ez28 => ?_)
  have h := h z28 ez28
  refine lv_istore_n (lv' := [(3, .int z28), (0, .ref (V.2.2 31)), (1, .int x1), (2, .int x2), (5, .int x5), (6, .int x6), (8, .int x8)]) hx hb d_Mod_slide_166 rfl hl (by decide) rfl (fun ls hl => ?_)
  refine lv_iconst (v := 1) hx hb d_Mod_slide_167 (by decide) ?_
  refine lv_istore (lv' := [(4, .int 1), (3, .int z28), (0, .ref (V.2.2 31)), (1, .int x1), (2, .int x2), (5, .int x5), (6, .int x6), (8, .int x8)]) hx hb d_Mod_slide_168 hl (by decide) rfl (fun ls hl => ?_)
  obtain ⟨z29, ez29⟩ : ∃ y : Int32, y = x6 + 1 := ⟨_, rfl⟩
  have h := h z29 ez29
  refine lv_iinc (v := z29) (lv' := [(6, .int z29), (4, .int 1), (3, .int z28), (0, .ref (V.2.2 31)), (1, .int x1), (2, .int x2), (5, .int x5), (8, .int x8)]) hx hb d_Mod_slide_170 hl (k := 6) rfl (by rw [ez29]; rfl) (by decide) rfl (fun ls hl => ?_)
  refine lv_goto (tgt := 24) hx hb d_Mod_slide_173 (by decide) ?_
  exact hK24 _ _ _ _ _ _ _ _ _ _ h hI (lv_sub hl [3, 4, 5, 2, 1, 6, 0] rfl)
set_option maxRecDepth 100000 in
set_option maxHeartbeats 4000000 in
theorem t_Mod_slide_J90 {p : Program} {l : Launch} {e : Env} {s : State} {m : MethodId} {args : Array Value} {below : List Frame} {meth : Method} {c : Code} {V : xV} (C : xC p s m args c cd_Mod_slide 10 R_Mod V) (hlocks : meth.locks = false) (hr : meth.sig.returnType = none) {Q : xS → Prop} {K10 : Int32 → Int32 → Int32 → Int32 → Int32 → xS → Prop} {K24 : Int32 → Int32 → Int32 → Int32 → Int32 → Int32 → xS → Prop} (hK10 : ∀ (x1 : Int32) (x2 : Int32) (x3 : Int32) (x4 : Int32) (x5 : Int32) (σ : xS) (H : Heap) (locs : List Loc) (ls : Array Slot), K10 x1 x2 x3 x4 x5 σ → xI V s.heap σ H locs → lv_has ls 10 [(0, .ref (V.2.2 31)), (1, .int x1), (2, .int x2), (3, .int x3), (4, .int x4), (5, .int x5)] → W p l e rm_Mod_slide s m args below meth c H locs 0 0 (xZv below V args s Q) (F0 m 10 ls [])) (hK24 : ∀ (x1 : Int32) (x2 : Int32) (x3 : Int32) (x4 : Int32) (x5 : Int32) (x6 : Int32) (σ : xS) (H : Heap) (locs : List Loc) (ls : Array Slot), K24 x1 x2 x3 x4 x5 x6 σ → xI V s.heap σ H locs → lv_has ls 10 [(0, .ref (V.2.2 31)), (1, .int x1), (2, .int x2), (3, .int x3), (4, .int x4), (5, .int x5), (6, .int x6)] → W p l e rm_Mod_slide s m args below meth c H locs 0 0 (xZv below V args s Q) (F0 m 24 ls [])) {x1 x2 x3 x5 x6 x7 x8 : Int32} {σ : xS} {H : Heap} {locs : List Loc} {ls : Array Slot} (h : p_Mod_slide_J90 K10 K24 Q x1 x2 x3 x5 x6 x7 x8 σ) (hI : xI V s.heap σ H locs) (hl : lv_has ls 10 [(0, .ref (V.2.2 31)), (1, .int x1), (2, .int x2), (3, .int x3), (5, .int x5), (6, .int x6), (7, .int x7), (8, .int x8)]) : W p l e rm_Mod_slide s m args below meth c H locs 0 0 (xZv below V args s Q) (F0 m 90 ls []) := by
  have hx := C.1
  have hb := C.2.1
  unfold p_Mod_slide_J90 at h
  refine lv_bipush (v := 16) hx hb d_Mod_slide_90 (by decide) ?_
  refine lv_aload_n hx hb d_Mod_slide_92 rfl (lv_at hl 0 rfl) ?_
  refine x_get C hI (d := 31) (by decide) (xE31 V _) fd_Mod_47 rfl d_Mod_slide_93 ?_
  refine lv_bipush (v := 40) hx hb d_Mod_slide_96 (by decide) ?_
  refine lv_iload_n hx hb d_Mod_slide_98 rfl (lv_at hl 1 rfl) ?_
  refine lv_imul hx hb d_Mod_slide_99 ?_
  refine lv_iload_n hx hb d_Mod_slide_100 rfl (lv_at hl 2 rfl) ?_
  refine lv_iadd hx hb d_Mod_slide_101 ?_
  obtain ⟨i21, h⟩ := h
  refine x_iald C hI (d := 52) (by decide) (xE52 V) i21 d_Mod_slide_102 ?_
  refine lv_imul hx hb d_Mod_slide_103 ?_
  refine lv_iload_n hx hb d_Mod_slide_104 rfl (lv_at hl 3 rfl) ?_
  refine lv_iadd hx hb d_Mod_slide_105 ?_
  refine lv_topi (fun z22 ez22 => ?_)
  have h := h z22 ez22
  refine lv_istore (lv' := [(9, .int z22), (0, .ref (V.2.2 31)), (1, .int x1), (2, .int x2), (3, .int x3), (5, .int x5), (6, .int x6), (7, .int x7), (8, .int x8)]) hx hb d_Mod_slide_106 hl (by decide) rfl (fun ls hl => ?_)
  refine lv_aload_n hx hb d_Mod_slide_108 rfl (lv_at hl 1 rfl) ?_
  refine x_get C hI (d := 31) (by decide) (xE31 V _) fd_Mod_38 rfl d_Mod_slide_109 ?_
  refine lv_iload hx hb d_Mod_slide_112 (lv_at hl 7 rfl) ?_
  refine lv_iconst (v := (-1)) hx hb d_Mod_slide_114 (by decide) ?_
  obtain ⟨i23, h⟩ := h
  refine x_iast C hI (d := 49) (by decide) (xE49 V) i23 d_Mod_slide_115 (fun H locs hI => ?_)
  refine lv_aload_n hx hb d_Mod_slide_116 rfl (lv_at hl 1 rfl) ?_
  refine x_get C hI (d := 31) (by decide) (xE31 V _) fd_Mod_38 rfl d_Mod_slide_117 ?_
  refine lv_iload hx hb d_Mod_slide_120 (lv_at hl 0 rfl) ?_
  refine lv_iload hx hb d_Mod_slide_122 (lv_at hl 8 rfl) ?_
  obtain ⟨i24, h⟩ := h
  refine x_iast C hI (d := 49) (by decide) (xE49 V) i24 d_Mod_slide_124 (fun H locs hI => ?_)
  refine lv_aload_n hx hb d_Mod_slide_125 rfl (lv_at hl 1 rfl) ?_
  refine x_get C hI (d := 31) (by decide) (xE31 V _) fd_Mod_22 rfl d_Mod_slide_126 ?_
  refine lv_iload hx hb d_Mod_slide_129 (lv_at hl 8 rfl) ?_
  refine lv_iload hx hb d_Mod_slide_131 (lv_at hl 0 rfl) ?_
  obtain ⟨i25, h⟩ := h
  refine x_iast C hI (d := 44) (by decide) (xE44 V) i25 d_Mod_slide_133 (fun H locs hI => ?_)
  refine lv_aload_n hx hb d_Mod_slide_134 rfl (lv_at hl 1 rfl) ?_
  refine lv_dup hx hb d_Mod_slide_135 rfl ?_
  refine x_get C hI (d := 31) (by decide) (xE31 V _) fd_Mod_137 rfl d_Mod_slide_136 ?_
  refine lv_iload hx hb d_Mod_slide_139 (lv_at hl 7 rfl) ?_
  refine lv_iload hx hb d_Mod_slide_141 (lv_at hl 0 rfl) ?_
  refine lv_icmp_ne (tgt := 150) hx hb d_Mod_slide_143 (by decide) (fun c26 => ?_) (fun c26 => ?_)
  · have h := h.1 c26
    refine lv_iconst (v := 1) hx hb d_Mod_slide_150 (by decide) ?_
    exact t_Mod_slide_J151 C hlocks hr hK10 hK24 h hI (lv_sub hl [1, 2, 3, 4, 5, 6, 8] rfl)
  · have h := h.2 c26
    refine lv_iconst (v := 0) hx hb d_Mod_slide_146 (by decide) ?_
    refine lv_goto (tgt := 151) hx hb d_Mod_slide_147 (by decide) ?_
    exact t_Mod_slide_J151 C hlocks hr hK10 hK24 h hI (lv_sub hl [1, 2, 3, 4, 5, 6, 8] rfl)
set_option maxRecDepth 100000 in
set_option maxHeartbeats 4000000 in
theorem s_Mod_slide_L24 {p : Program} {l : Launch} {e : Env} {s : State} {m : MethodId} {args : Array Value} {below : List Frame} {meth : Method} {c : Code} {V : xV} (C : xC p s m args c cd_Mod_slide 10 R_Mod V) (hlocks : meth.locks = false) (hr : meth.sig.returnType = none) {Q : xS → Prop} {K10 : Int32 → Int32 → Int32 → Int32 → Int32 → xS → Prop} {K24 : Int32 → Int32 → Int32 → Int32 → Int32 → Int32 → xS → Prop} (hK10 : ∀ (x1 : Int32) (x2 : Int32) (x3 : Int32) (x4 : Int32) (x5 : Int32) (σ : xS) (H : Heap) (locs : List Loc) (ls : Array Slot), K10 x1 x2 x3 x4 x5 σ → xI V s.heap σ H locs → lv_has ls 10 [(0, .ref (V.2.2 31)), (1, .int x1), (2, .int x2), (3, .int x3), (4, .int x4), (5, .int x5)] → W p l e rm_Mod_slide s m args below meth c H locs 0 0 (xZv below V args s Q) (F0 m 10 ls [])) (hK24 : ∀ (x1 : Int32) (x2 : Int32) (x3 : Int32) (x4 : Int32) (x5 : Int32) (x6 : Int32) (σ : xS) (H : Heap) (locs : List Loc) (ls : Array Slot), K24 x1 x2 x3 x4 x5 x6 σ → xI V s.heap σ H locs → lv_has ls 10 [(0, .ref (V.2.2 31)), (1, .int x1), (2, .int x2), (3, .int x3), (4, .int x4), (5, .int x5), (6, .int x6)] → W p l e rm_Mod_slide s m args below meth c H locs 0 0 (xZv below V args s Q) (F0 m 24 ls [])) {x1 x2 x3 x4 x5 x6 : Int32} {σ : xS} {H : Heap} {locs : List Loc} {ls : Array Slot} (h : b_Mod_slide_L24 K10 K24 Q x1 x2 x3 x4 x5 x6 σ) (hI : xI V s.heap σ H locs) (hl : lv_has ls 10 [(0, .ref (V.2.2 31)), (1, .int x1), (2, .int x2), (3, .int x3), (4, .int x4), (5, .int x5), (6, .int x6)]) : W p l e rm_Mod_slide s m args below meth c H locs 0 0 (xZv below V args s Q) (F0 m 24 ls []) := by
  have hx := C.1
  have hb := C.2.1
  unfold b_Mod_slide_L24 at h
  refine lv_iload hx hb d_Mod_slide_24 (lv_at hl 6 rfl) ?_
  refine lv_bipush (v := 16) hx hb d_Mod_slide_26 (by decide) ?_
  refine lv_icmp_ge (tgt := 176) hx hb d_Mod_slide_28 (by decide) (fun c12 => ?_) (fun c12 => ?_)
  · have h := h.1 c12
    obtain ⟨z13, ez13⟩ : ∃ y : Int32, y = x5 + 1 := ⟨_, rfl⟩
    have h := h z13 ez13
    refine lv_iinc (v := z13) (lv' := [(5, .int z13), (0, .ref (V.2.2 31)), (1, .int x1), (2, .int x2), (3, .int x3), (4, .int x4), (6, .int x6)]) hx hb d_Mod_slide_176 hl (k := 5) rfl (by rw [ez13]; rfl) (by decide) rfl (fun ls hl => ?_)
    refine lv_goto (tgt := 10) hx hb d_Mod_slide_179 (by decide) ?_
    exact hK10 _ _ _ _ _ _ _ _ _ h hI (lv_sub hl [1, 2, 3, 4, 5, 0] rfl)
  · have h := h.2 c12
    refine lv_bipush (v := 16) hx hb d_Mod_slide_31 (by decide) ?_
    refine lv_aload_n hx hb d_Mod_slide_33 rfl (lv_at hl 0 rfl) ?_
    refine x_get C hI (d := 31) (by decide) (xE31 V _) fd_Mod_47 rfl d_Mod_slide_34 ?_
    refine lv_bipush (v := 40) hx hb d_Mod_slide_37 (by decide) ?_
    refine lv_iload_n hx hb d_Mod_slide_39 rfl (lv_at hl 1 rfl) ?_
    refine lv_imul hx hb d_Mod_slide_40 ?_
    refine lv_iload hx hb d_Mod_slide_41 (lv_at hl 5 rfl) ?_
    refine lv_iadd hx hb d_Mod_slide_43 ?_
    obtain ⟨i14, h⟩ := h
    refine x_iald C hI (d := 52) (by decide) (xE52 V) i14 d_Mod_slide_44 ?_
    refine lv_imul hx hb d_Mod_slide_45 ?_
    refine lv_iload hx hb d_Mod_slide_46 (lv_at hl 6 rfl) ?_
    refine lv_iadd hx hb d_Mod_slide_48 ?_
    refine lv_topi (fun z15 ez15 => ?_)
    have h := h z15 ez15
    refine lv_istore (lv' := [(7, .int z15), (0, .ref (V.2.2 31)), (1, .int x1), (2, .int x2), (3, .int x3), (4, .int x4), (5, .int x5), (6, .int x6)]) hx hb d_Mod_slide_49 hl (by decide) rfl (fun ls hl => ?_)
    refine lv_aload_n hx hb d_Mod_slide_51 rfl (lv_at hl 1 rfl) ?_
    refine x_get C hI (d := 31) (by decide) (xE31 V _) fd_Mod_38 rfl d_Mod_slide_52 ?_
    refine lv_iload hx hb d_Mod_slide_55 (lv_at hl 0 rfl) ?_
    obtain ⟨i16, h⟩ := h
    refine x_iald C hI (d := 49) (by decide) (xE49 V) i16 d_Mod_slide_57 ?_
    refine lv_topi (fun z17 ez17 => ?_)
    have h := h z17 ez17
    refine lv_istore (lv' := [(8, .int z17), (7, .int z15), (0, .ref (V.2.2 31)), (1, .int x1), (2, .int x2), (3, .int x3), (4, .int x4), (5, .int x5), (6, .int x6)]) hx hb d_Mod_slide_58 hl (by decide) rfl (fun ls hl => ?_)
    refine lv_iload hx hb d_Mod_slide_60 (lv_at hl 0 rfl) ?_
    refine lv_iconst (v := (-1)) hx hb d_Mod_slide_62 (by decide) ?_
    refine lv_icmp_ne (tgt := 69) hx hb d_Mod_slide_63 (by decide) (fun c18 => ?_) (fun c18 => ?_)
    · have h := h.1 c18
      refine lv_iload_n hx hb d_Mod_slide_69 rfl (lv_at hl 5 rfl) ?_
      refine lv_aload_n hx hb d_Mod_slide_70 rfl (lv_at hl 2 rfl) ?_
      refine x_get C hI (d := 31) (by decide) (xE31 V _) fd_Mod_16 rfl d_Mod_slide_71 ?_
      refine lv_iload hx hb d_Mod_slide_74 (lv_at hl 0 rfl) ?_
      obtain ⟨i19, h⟩ := h
      refine x_iald C hI (d := 42) (by decide) (xE42 V) i19 d_Mod_slide_76 ?_
      refine lv_iadd hx hb d_Mod_slide_77 ?_
      refine lv_iconst (v := 1) hx hb d_Mod_slide_78 (by decide) ?_
      refine lv_iadd hx hb d_Mod_slide_79 ?_
      refine lv_bipush (v := 16) hx hb d_Mod_slide_80 (by decide) ?_
      refine lv_icmp_le (tgt := 90) hx hb d_Mod_slide_82 (by decide) (fun c20 => ?_) (fun c20 => ?_)
      · have h := h.1 c20
        exact t_Mod_slide_J90 C hlocks hr hK10 hK24 h hI (lv_sub hl [2, 3, 4, 5, 7, 8, 1, 0] rfl)
      · have h := h.2 c20
        obtain ⟨z30, ez30⟩ : ∃ y : Int32, y = x2 + 1 := ⟨_, rfl⟩
        have h := h z30 ez30
        refine lv_iinc (v := z30) (lv' := [(2, .int z30), (8, .int z17), (7, .int z15), (0, .ref (V.2.2 31)), (1, .int x1), (3, .int x3), (4, .int x4), (5, .int x5), (6, .int x6)]) hx hb d_Mod_slide_85 hl (k := 4) rfl (by rw [ez30]; rfl) (by decide) rfl (fun ls hl => ?_)
        refine lv_iconst (v := 0) hx hb d_Mod_slide_88 (by decide) ?_
        refine lv_istore_n (lv' := [(3, .int 0), (2, .int z30), (8, .int z17), (7, .int z15), (0, .ref (V.2.2 31)), (1, .int x1), (4, .int x4), (5, .int x5), (6, .int x6)]) hx hb d_Mod_slide_89 rfl hl (by decide) rfl (fun ls hl => ?_)
        exact t_Mod_slide_J90 C hlocks hr hK10 hK24 h hI (lv_sub hl [4, 5, 1, 0, 7, 8, 3, 2] rfl)
    · have h := h.2 c18
      refine lv_goto (tgt := 170) hx hb d_Mod_slide_66 (by decide) ?_
      obtain ⟨z31, ez31⟩ : ∃ y : Int32, y = x6 + 1 := ⟨_, rfl⟩
      have h := h z31 ez31
      refine lv_iinc (v := z31) (lv' := [(6, .int z31), (8, .int z17), (7, .int z15), (0, .ref (V.2.2 31)), (1, .int x1), (2, .int x2), (3, .int x3), (4, .int x4), (5, .int x5)]) hx hb d_Mod_slide_170 hl (k := 8) rfl (by rw [ez31]; rfl) (by decide) rfl (fun ls hl => ?_)
      refine lv_goto (tgt := 24) hx hb d_Mod_slide_173 (by decide) ?_
      exact hK24 _ _ _ _ _ _ _ _ _ _ h hI (lv_sub hl [3, 4, 5, 6, 7, 8, 0] rfl)
theorem w_Mod_slide_L24 {p : Program} {l : Launch} {e : Env} {s : State} {m : MethodId} {args : Array Value} {below : List Frame} {meth : Method} {c : Code} {V : xV} (C : xC p s m args c cd_Mod_slide 10 R_Mod V) (hlocks : meth.locks = false) (hr : meth.sig.returnType = none) {Q : xS → Prop} {K10 : Int32 → Int32 → Int32 → Int32 → Int32 → xS → Prop} (hK10 : ∀ (x1 : Int32) (x2 : Int32) (x3 : Int32) (x4 : Int32) (x5 : Int32) (σ : xS) (H : Heap) (locs : List Loc) (ls : Array Slot), K10 x1 x2 x3 x4 x5 σ → xI V s.heap σ H locs → lv_has ls 10 [(0, .ref (V.2.2 31)), (1, .int x1), (2, .int x2), (3, .int x3), (4, .int x4), (5, .int x5)] → W p l e rm_Mod_slide s m args below meth c H locs 0 0 (xZv below V args s Q) (F0 m 10 ls [])) : ∀ (n : Nat) (x1 : Int32) (x2 : Int32) (x3 : Int32) (x4 : Int32) (x5 : Int32) (x6 : Int32) (σ : xS) (H : Heap) (locs : List Loc) (ls : Array Slot), p_Mod_slide_L24 K10 Q n x1 x2 x3 x4 x5 x6 σ → xI V s.heap σ H locs → lv_has ls 10 [(0, .ref (V.2.2 31)), (1, .int x1), (2, .int x2), (3, .int x3), (4, .int x4), (5, .int x5), (6, .int x6)] → W p l e rm_Mod_slide s m args below meth c H locs 0 0 (xZv below V args s Q) (F0 m 24 ls []) := by
  intro n
  induction n with
  | zero =>
    intro x1 x2 x3 x4 x5 x6 σ H locs ls h
    exact False.elim h
  | succ n ih =>
    intro x1 x2 x3 x4 x5 x6 σ H locs ls h hI hl
    exact s_Mod_slide_L24 C hlocks hr hK10 (K24 := p_Mod_slide_L24 K10 Q n) (fun x1 x2 x3 x4 x5 x6 σ H locs ls h hI hl => ih x1 x2 x3 x4 x5 x6 σ H locs ls h hI hl) h hI hl
set_option maxRecDepth 100000 in
set_option maxHeartbeats 4000000 in
theorem s_Mod_slide_L10 {p : Program} {l : Launch} {e : Env} {s : State} {m : MethodId} {args : Array Value} {below : List Frame} {meth : Method} {c : Code} {V : xV} (C : xC p s m args c cd_Mod_slide 10 R_Mod V) (hlocks : meth.locks = false) (hr : meth.sig.returnType = none) {Q : xS → Prop} {K10 : Int32 → Int32 → Int32 → Int32 → Int32 → xS → Prop} (hK10 : ∀ (x1 : Int32) (x2 : Int32) (x3 : Int32) (x4 : Int32) (x5 : Int32) (σ : xS) (H : Heap) (locs : List Loc) (ls : Array Slot), K10 x1 x2 x3 x4 x5 σ → xI V s.heap σ H locs → lv_has ls 10 [(0, .ref (V.2.2 31)), (1, .int x1), (2, .int x2), (3, .int x3), (4, .int x4), (5, .int x5)] → W p l e rm_Mod_slide s m args below meth c H locs 0 0 (xZv below V args s Q) (F0 m 10 ls [])) {x1 x2 x3 x4 x5 : Int32} {σ : xS} {H : Heap} {locs : List Loc} {ls : Array Slot} (h : b_Mod_slide_L10 K10 Q x1 x2 x3 x4 x5 σ) (hI : xI V s.heap σ H locs) (hl : lv_has ls 10 [(0, .ref (V.2.2 31)), (1, .int x1), (2, .int x2), (3, .int x3), (4, .int x4), (5, .int x5)]) : W p l e rm_Mod_slide s m args below meth c H locs 0 0 (xZv below V args s Q) (F0 m 10 ls []) := by
  have hx := C.1
  have hb := C.2.1
  unfold b_Mod_slide_L10 at h
  refine lv_iload hx hb d_Mod_slide_10 (lv_at hl 5 rfl) ?_
  refine lv_aload_n hx hb d_Mod_slide_12 rfl (lv_at hl 0 rfl) ?_
  refine x_get C hI (d := 31) (by decide) (xE31 V _) fd_Mod_44 rfl d_Mod_slide_13 ?_
  refine lv_iload_n hx hb d_Mod_slide_16 rfl (lv_at hl 1 rfl) ?_
  obtain ⟨i1, h⟩ := h
  refine x_iald C hI (d := 51) (by decide) (xE51 V) i1 d_Mod_slide_17 ?_
  refine lv_icmp_ge (tgt := 182) hx hb d_Mod_slide_18 (by decide) (fun c2 => ?_) (fun c2 => ?_)
  · have h := h.1 c2
    refine lv_iload hx hb d_Mod_slide_182 (lv_at hl 4 rfl) ?_
    refine lv_if_eq (tgt := 193) hx hb d_Mod_slide_184 (by decide) (fun c3 => ?_) (fun c3 => ?_)
    · have h := h.1 c3
      refine lv_iconst (v := 0) hx hb d_Mod_slide_193 (by decide) ?_
      refine lv_istore (lv' := [(5, .int 0), (0, .ref (V.2.2 31)), (1, .int x1), (2, .int x2), (3, .int x3), (4, .int x4)]) hx hb d_Mod_slide_194 hl (by decide) rfl (fun ls hl => ?_)
      refine lv_iload hx hb d_Mod_slide_196 (lv_at hl 0 rfl) ?_
      refine lv_istore (lv' := [(6, .int 0), (5, .int 0), (0, .ref (V.2.2 31)), (1, .int x1), (2, .int x2), (3, .int x3), (4, .int x4)]) hx hb d_Mod_slide_198 hl (by decide) rfl (fun ls hl => ?_)
      obtain ⟨n, h⟩ := h
      exact w_Mod_slide_L200 C hlocks hr n _ _ _ _ _ _ _ _ h hI (lv_sub hl [2, 3, 5, 1, 0] rfl)
    · have h := h.2 c3
      refine lv_iload_n hx hb d_Mod_slide_187 rfl (lv_at hl 2 rfl) ?_
      refine lv_iconst (v := 1) hx hb d_Mod_slide_188 (by decide) ?_
      refine lv_iadd hx hb d_Mod_slide_189 ?_
      refine lv_goto (tgt := 194) hx hb d_Mod_slide_190 (by decide) ?_
      refine lv_topi (fun z11 ez11 => ?_)
      have h := h z11 ez11
      refine lv_istore (lv' := [(5, .int z11), (0, .ref (V.2.2 31)), (1, .int x1), (2, .int x2), (3, .int x3), (4, .int x4)]) hx hb d_Mod_slide_194 hl (by decide) rfl (fun ls hl => ?_)
      refine lv_iload hx hb d_Mod_slide_196 (lv_at hl 0 rfl) ?_
      refine lv_istore (lv' := [(6, .int z11), (5, .int z11), (0, .ref (V.2.2 31)), (1, .int x1), (2, .int x2), (3, .int x3), (4, .int x4)]) hx hb d_Mod_slide_198 hl (by decide) rfl (fun ls hl => ?_)
      obtain ⟨n, h⟩ := h
      exact w_Mod_slide_L200 C hlocks hr n _ _ _ _ _ _ _ _ h hI (lv_sub hl [2, 3, 5, 1, 0] rfl)
  · have h := h.2 c2
    refine lv_iconst (v := 0) hx hb d_Mod_slide_21 (by decide) ?_
    refine lv_istore (lv' := [(6, .int 0), (0, .ref (V.2.2 31)), (1, .int x1), (2, .int x2), (3, .int x3), (4, .int x4), (5, .int x5)]) hx hb d_Mod_slide_22 hl (by decide) rfl (fun ls hl => ?_)
    obtain ⟨n, h⟩ := h
    exact w_Mod_slide_L24 C hlocks hr hK10 n _ _ _ _ _ _ _ _ _ _ h hI (lv_sub hl [1, 2, 3, 4, 5, 6, 0] rfl)
theorem w_Mod_slide_L10 {p : Program} {l : Launch} {e : Env} {s : State} {m : MethodId} {args : Array Value} {below : List Frame} {meth : Method} {c : Code} {V : xV} (C : xC p s m args c cd_Mod_slide 10 R_Mod V) (hlocks : meth.locks = false) (hr : meth.sig.returnType = none) {Q : xS → Prop} : ∀ (n : Nat) (x1 : Int32) (x2 : Int32) (x3 : Int32) (x4 : Int32) (x5 : Int32) (σ : xS) (H : Heap) (locs : List Loc) (ls : Array Slot), p_Mod_slide_L10 Q n x1 x2 x3 x4 x5 σ → xI V s.heap σ H locs → lv_has ls 10 [(0, .ref (V.2.2 31)), (1, .int x1), (2, .int x2), (3, .int x3), (4, .int x4), (5, .int x5)] → W p l e rm_Mod_slide s m args below meth c H locs 0 0 (xZv below V args s Q) (F0 m 10 ls []) := by
  intro n
  induction n with
  | zero =>
    intro x1 x2 x3 x4 x5 σ H locs ls h
    exact False.elim h
  | succ n ih =>
    intro x1 x2 x3 x4 x5 σ H locs ls h hI hl
    exact s_Mod_slide_L10 C hlocks hr (K10 := p_Mod_slide_L10 Q n) (fun x1 x2 x3 x4 x5 σ H locs ls h hI hl => ih x1 x2 x3 x4 x5 σ H locs ls h hI hl) h hI hl
set_option maxRecDepth 100000 in
set_option maxHeartbeats 4000000 in
theorem c_Mod_slide {l : Launch} {V : xV} {σ : xS} {x1 : Int32} {Q : xS → Prop} (h : p_Mod_slide x1 σ Q) : xMv l y_Mod_slide (.code y_Mod_slide cd_Mod_slide 10 none :: xG) rm_Mod_slide V [.ref (V.2.2 31), .int x1] σ Q := by
  refine x_beginv (by decide) (Nat.le_of_ble_eq_true rfl) (fun p e s m below meth c ls C hlocks hr hI hl => ?_)
  have C : xC p s m _ c cd_Mod_slide 10 R_Mod V := C
  have hx := C.1
  have hb := C.2.1
  have hl : lv_has ls 10 [(0, .ref (V.2.2 31)), (1, .int x1)] := hl
  unfold p_Mod_slide at h
  refine lv_iconst (v := 0) hx hb d_Mod_slide_0 (by decide) ?_
  refine lv_istore_n (lv' := [(2, .int 0), (0, .ref (V.2.2 31)), (1, .int x1)]) hx hb d_Mod_slide_1 rfl hl (by decide) rfl (fun ls hl => ?_)
  refine lv_iconst (v := 0) hx hb d_Mod_slide_2 (by decide) ?_
  refine lv_istore_n (lv' := [(3, .int 0), (2, .int 0), (0, .ref (V.2.2 31)), (1, .int x1)]) hx hb d_Mod_slide_3 rfl hl (by decide) rfl (fun ls hl => ?_)
  refine lv_iconst (v := 0) hx hb d_Mod_slide_4 (by decide) ?_
  refine lv_istore (lv' := [(4, .int 0), (3, .int 0), (2, .int 0), (0, .ref (V.2.2 31)), (1, .int x1)]) hx hb d_Mod_slide_5 hl (by decide) rfl (fun ls hl => ?_)
  refine lv_iconst (v := 0) hx hb d_Mod_slide_7 (by decide) ?_
  refine lv_istore (lv' := [(5, .int 0), (4, .int 0), (3, .int 0), (2, .int 0), (0, .ref (V.2.2 31)), (1, .int x1)]) hx hb d_Mod_slide_8 hl (by decide) rfl (fun ls hl => ?_)
  obtain ⟨n, h⟩ := h
  exact w_Mod_slide_L10 C hlocks hr n _ _ _ _ _ _ _ _ _ h hI (lv_sub hl [4, 5, 3, 2, 1, 0] rfl)
theorem yw_Mod_slide : xY y_Mod_slide cd_Mod_slide 10 none 1 := ⟨xG_mem 1144 (by decide +kernel) (by decide +kernel), xG_mem 42 (by decide +kernel) (by decide +kernel), xG_mem 65 (by decide +kernel) (by decide +kernel), xG_mem 1145 (by decide +kernel) (by decide +kernel), by decide, by decide, by decide +kernel⟩
theorem ml_Mod_128 : Cond.methodLink R_Mod 128 y_Mod_slide ∈ xG := xG_mem 1142 (by decide +kernel) (by decide +kernel)
def b_Mod_collectFrom_L217 (K217 : Int32 → Int32 → xS → Prop) (Q : Int32 → xS → Prop) (x2 x3 : Int32) (σ : xS) : Prop :=
  (((σ 31 13) ≤ x3 → Q x2 (xu (xu σ 31 21 ((σ 31 21) + 1)) 31 22 (((xu σ 31 21 ((σ 31 21) + 1)) 31 22) + x2))) ∧ (¬ (σ 31 13) ≤ x3 → p_Mod_slide x3 σ (fun σ11 => (∀ z12 : Int32, z12 = x3 + 1 → K217 x2 z12 σ11))))
def p_Mod_collectFrom_L217 (Q : Int32 → xS → Prop) (n : Nat) : Int32 → Int32 → xS → Prop := Nat.rec (motive := fun _ => Int32 → Int32 → xS → Prop) (fun _ _ _ => False) (fun _ K x2 x3 σ => b_Mod_collectFrom_L217 K Q x2 x3 σ) n
def b_Mod_collectFrom_L176 (K176 : Int32 → Int32 → Int32 → xS → Prop) (Q : Int32 → xS → Prop) (x1 x2 x3 : Int32) (σ : xS) : Prop :=
  ((640 ≤ x3 → (∃ n, p_Mod_collectFrom_L217 Q n x2 x1 σ)) ∧ (¬ 640 ≤ x3 → p_Mod_isYoung x3 x1 σ (fun r14 σ13 => ((r14 = 0 → (∀ z16 : Int32, z16 = x3 + 1 → K176 x1 x2 z16 σ13)) ∧ (¬ r14 = 0 → (vp_in x3 640 ∧ ((¬ (σ13 48 x3.toNatClampNeg) = 0 → (∀ z19 : Int32, z19 = x3 + 1 → K176 x1 x2 z19 σ13)) ∧ ((σ13 48 x3.toNatClampNeg) = 0 → p_Mod_remove x3 σ13 (fun σ20 => (∀ z21 : Int32, z21 = x2 + 1 → (∀ z22 : Int32, z22 = x3 + 1 → K176 x1 z21 z22 σ20)))))))))))
def p_Mod_collectFrom_L176 (Q : Int32 → xS → Prop) (n : Nat) : Int32 → Int32 → Int32 → xS → Prop := Nat.rec (motive := fun _ => Int32 → Int32 → Int32 → xS → Prop) (fun _ _ _ _ => False) (fun _ K x1 x2 x3 σ => b_Mod_collectFrom_L176 K Q x1 x2 x3 σ) n
def b_Mod_collectFrom_L133 (K64 : Int32 → Int32 → xS → Prop) (K133 : Int32 → Int32 → Int32 → Int32 → xS → Prop) (Q : Int32 → xS → Prop) (x1 x2 x3 x4 : Int32) (σ : xS) : Prop :=
  ((x3 = 0 → (∀ z27 : Int32, z27 = x2 + 1 → K64 x1 z27 σ)) ∧ (¬ x3 = 0 → (vp_in x2 640 ∧ (((σ 42 x2.toNatClampNeg) ≤ x4 → (∀ z30 : Int32, z30 = x2 + 1 → K64 x1 z30 σ)) ∧ (¬ (σ 42 x2.toNatClampNeg) ≤ x4 → p_Mod_empty x2 x4 σ (fun σ31 => (∀ z32 : Int32, z32 = x4 + 1 → K133 x1 x2 x3 z32 σ31)))))))
def p_Mod_collectFrom_L133 (K64 : Int32 → Int32 → xS → Prop) (Q : Int32 → xS → Prop) (n : Nat) : Int32 → Int32 → Int32 → Int32 → xS → Prop := Nat.rec (motive := fun _ => Int32 → Int32 → Int32 → Int32 → xS → Prop) (fun _ _ _ _ _ => False) (fun _ K x1 x2 x3 x4 σ => b_Mod_collectFrom_L133 K64 K Q x1 x2 x3 x4 σ) n
def b_Mod_collectFrom_L64 (K64 : Int32 → Int32 → xS → Prop) (Q : Int32 → xS → Prop) (x1 x2 : Int32) (σ : xS) : Prop :=
  ((640 ≤ x2 → p_Mod_forget x1 σ (fun σ8 => (∃ n, p_Mod_collectFrom_L176 Q n x1 0 0 σ8))) ∧ (¬ 640 ≤ x2 → p_Mod_isYoung x2 x1 σ (fun r24 σ23 => ((r24 = 0 → (∃ n, p_Mod_collectFrom_L133 K64 Q n x1 x2 0 0 σ23)) ∧ (¬ r24 = 0 → (vp_in x2 640 ∧ (((σ23 48 x2.toNatClampNeg) = 0 → (∃ n, p_Mod_collectFrom_L133 K64 Q n x1 x2 0 0 σ23)) ∧ (¬ (σ23 48 x2.toNatClampNeg) = 0 → (vp_in x2 640 ∧ ((¬ (σ23 40 x2.toNatClampNeg) = 2 → (∃ n, p_Mod_collectFrom_L133 K64 Q n x1 x2 0 0 σ23)) ∧ ((σ23 40 x2.toNatClampNeg) = 2 → (vp_in (15 * x2) 9600 ∧ (vp_in (15 * x2) 9600 ∧ p_Mod_isLive (σ23 46 (15 * x2).toNatClampNeg) (σ23 47 (15 * x2).toNatClampNeg) σ23 (fun r40 σ39 => ((¬ r40 = 0 → (∃ n, p_Mod_collectFrom_L133 K64 Q n x1 x2 0 0 σ39)) ∧ (r40 = 0 → (∃ n, p_Mod_collectFrom_L133 K64 Q n x1 x2 1 0 σ39)))))))))))))))))
def p_Mod_collectFrom_L64 (Q : Int32 → xS → Prop) (n : Nat) : Int32 → Int32 → xS → Prop := Nat.rec (motive := fun _ => Int32 → Int32 → xS → Prop) (fun _ _ _ => False) (fun _ K x1 x2 σ => b_Mod_collectFrom_L64 K Q x1 x2 σ) n
def b_Mod_collectFrom_L16 (K16 : Int32 → Int32 → xS → Prop) (Q : Int32 → xS → Prop) (x1 x2 : Int32) (σ : xS) : Prop :=
  ((x2 = (-1) → p_Mod_findLive x1 σ (fun σ6 => (∃ n, p_Mod_collectFrom_L64 Q n x1 0 σ6))) ∧ (¬ x2 = (-1) → (vp_in x2 640 ∧ (vp_in ((xu σ 45 x2.toNatClampNeg 0) 31 19) 1400 ∧ p_Mod_nextDue x1 (xu (xu (xu σ 45 x2.toNatClampNeg 0) 56 ((xu σ 45 x2.toNatClampNeg 0) 31 19).toNatClampNeg x2) 31 19 (((xu (xu σ 45 x2.toNatClampNeg 0) 56 ((xu σ 45 x2.toNatClampNeg 0) 31 19).toNatClampNeg x2) 31 19) + 1)) (fun r45 σ44 => K16 x1 r45 σ44)))))
def p_Mod_collectFrom_L16 (Q : Int32 → xS → Prop) (n : Nat) : Int32 → Int32 → xS → Prop := Nat.rec (motive := fun _ => Int32 → Int32 → xS → Prop) (fun _ _ _ => False) (fun _ K x1 x2 σ => b_Mod_collectFrom_L16 K Q x1 x2 σ) n
def p_Mod_collectFrom (x1 : Int32) (σ : xS) (Q : Int32 → xS → Prop) : Prop :=
  p_Mod_findLive x1 σ (fun σ1 => p_Mod_forget x1 σ1 (fun σ2 => p_Mod_nextDue x1 σ2 (fun r4 σ3 => (∃ n, p_Mod_collectFrom_L16 Q n x1 r4 σ3))))
abbrev rm_Mod_collectFrom : Room := { frames := 3, cells := 0, slots := 0, locals := 69 }
theorem d_Mod_collectFrom_0 : decode cd_Mod_collectFrom 0 = .ok (.aload_n 0, 1) := by decide +kernel
theorem d_Mod_collectFrom_1 : decode cd_Mod_collectFrom 1 = .ok (.iload_n 1, 1) := by decide +kernel
theorem d_Mod_collectFrom_2 : decode cd_Mod_collectFrom 2 = .ok (.invokevirtual 118, 3) := by decide +kernel
theorem d_Mod_collectFrom_5 : decode cd_Mod_collectFrom 5 = .ok (.aload_n 0, 1) := by decide +kernel
theorem d_Mod_collectFrom_6 : decode cd_Mod_collectFrom 6 = .ok (.iload_n 1, 1) := by decide +kernel
theorem d_Mod_collectFrom_7 : decode cd_Mod_collectFrom 7 = .ok (.invokevirtual 121, 3) := by decide +kernel
theorem d_Mod_collectFrom_10 : decode cd_Mod_collectFrom 10 = .ok (.aload_n 0, 1) := by decide +kernel
theorem d_Mod_collectFrom_11 : decode cd_Mod_collectFrom 11 = .ok (.iload_n 1, 1) := by decide +kernel
theorem d_Mod_collectFrom_12 : decode cd_Mod_collectFrom 12 = .ok (.invokevirtual 124, 3) := by decide +kernel
theorem d_Mod_collectFrom_15 : decode cd_Mod_collectFrom 15 = .ok (.istore_n 2, 1) := by decide +kernel
theorem d_Mod_collectFrom_16 : decode cd_Mod_collectFrom 16 = .ok (.iload_n 2, 1) := by decide +kernel
theorem d_Mod_collectFrom_17 : decode cd_Mod_collectFrom 17 = .ok (.iconst (-1), 1) := by decide +kernel
theorem d_Mod_collectFrom_18 : decode cd_Mod_collectFrom 18 = .ok (.if_icmp .eq 39, 3) := by decide +kernel
theorem d_Mod_collectFrom_21 : decode cd_Mod_collectFrom 21 = .ok (.aload_n 0, 1) := by decide +kernel
theorem d_Mod_collectFrom_22 : decode cd_Mod_collectFrom 22 = .ok (.getfield 25, 3) := by decide +kernel
theorem d_Mod_collectFrom_25 : decode cd_Mod_collectFrom 25 = .ok (.iload_n 2, 1) := by decide +kernel
theorem d_Mod_collectFrom_26 : decode cd_Mod_collectFrom 26 = .ok (.iconst 0, 1) := by decide +kernel
theorem d_Mod_collectFrom_27 : decode cd_Mod_collectFrom 27 = .ok (.iastore, 1) := by decide +kernel
theorem d_Mod_collectFrom_28 : decode cd_Mod_collectFrom 28 = .ok (.aload_n 0, 1) := by decide +kernel
theorem d_Mod_collectFrom_29 : decode cd_Mod_collectFrom 29 = .ok (.getfield 59, 3) := by decide +kernel
theorem d_Mod_collectFrom_32 : decode cd_Mod_collectFrom 32 = .ok (.aload_n 0, 1) := by decide +kernel
theorem d_Mod_collectFrom_33 : decode cd_Mod_collectFrom 33 = .ok (.getfield 97, 3) := by decide +kernel
theorem d_Mod_collectFrom_36 : decode cd_Mod_collectFrom 36 = .ok (.iload_n 2, 1) := by decide +kernel
theorem d_Mod_collectFrom_37 : decode cd_Mod_collectFrom 37 = .ok (.iastore, 1) := by decide +kernel
theorem d_Mod_collectFrom_38 : decode cd_Mod_collectFrom 38 = .ok (.aload_n 0, 1) := by decide +kernel
theorem d_Mod_collectFrom_39 : decode cd_Mod_collectFrom 39 = .ok (.dup, 1) := by decide +kernel
theorem d_Mod_collectFrom_40 : decode cd_Mod_collectFrom 40 = .ok (.getfield 97, 3) := by decide +kernel
theorem d_Mod_collectFrom_43 : decode cd_Mod_collectFrom 43 = .ok (.iconst 1, 1) := by decide +kernel
theorem d_Mod_collectFrom_44 : decode cd_Mod_collectFrom 44 = .ok (.iadd, 1) := by decide +kernel
theorem d_Mod_collectFrom_45 : decode cd_Mod_collectFrom 45 = .ok (.putfield 97, 3) := by decide +kernel
theorem d_Mod_collectFrom_48 : decode cd_Mod_collectFrom 48 = .ok (.aload_n 0, 1) := by decide +kernel
theorem d_Mod_collectFrom_49 : decode cd_Mod_collectFrom 49 = .ok (.iload_n 1, 1) := by decide +kernel
theorem d_Mod_collectFrom_50 : decode cd_Mod_collectFrom 50 = .ok (.invokevirtual 124, 3) := by decide +kernel
theorem d_Mod_collectFrom_53 : decode cd_Mod_collectFrom 53 = .ok (.istore_n 2, 1) := by decide +kernel
theorem d_Mod_collectFrom_54 : decode cd_Mod_collectFrom 54 = .ok (.goto (-38), 3) := by decide +kernel
theorem d_Mod_collectFrom_57 : decode cd_Mod_collectFrom 57 = .ok (.aload_n 0, 1) := by decide +kernel
theorem d_Mod_collectFrom_58 : decode cd_Mod_collectFrom 58 = .ok (.iload_n 1, 1) := by decide +kernel
theorem d_Mod_collectFrom_59 : decode cd_Mod_collectFrom 59 = .ok (.invokevirtual 118, 3) := by decide +kernel
theorem d_Mod_collectFrom_62 : decode cd_Mod_collectFrom 62 = .ok (.iconst 0, 1) := by decide +kernel
theorem d_Mod_collectFrom_63 : decode cd_Mod_collectFrom 63 = .ok (.istore_n 2, 1) := by decide +kernel
theorem d_Mod_collectFrom_64 : decode cd_Mod_collectFrom 64 = .ok (.iload_n 2, 1) := by decide +kernel
theorem d_Mod_collectFrom_65 : decode cd_Mod_collectFrom 65 = .ok (.sipush 640, 3) := by decide +kernel
theorem d_Mod_collectFrom_68 : decode cd_Mod_collectFrom 68 = .ok (.if_icmp .ge 99, 3) := by decide +kernel
theorem d_Mod_collectFrom_71 : decode cd_Mod_collectFrom 71 = .ok (.aload_n 0, 1) := by decide +kernel
theorem d_Mod_collectFrom_72 : decode cd_Mod_collectFrom 72 = .ok (.iload_n 2, 1) := by decide +kernel
theorem d_Mod_collectFrom_73 : decode cd_Mod_collectFrom 73 = .ok (.iload_n 1, 1) := by decide +kernel
theorem d_Mod_collectFrom_74 : decode cd_Mod_collectFrom 74 = .ok (.invokevirtual 111, 3) := by decide +kernel
theorem d_Mod_collectFrom_77 : decode cd_Mod_collectFrom 77 = .ok (.ifCond .eq 51, 3) := by decide +kernel
theorem d_Mod_collectFrom_80 : decode cd_Mod_collectFrom 80 = .ok (.aload_n 0, 1) := by decide +kernel
theorem d_Mod_collectFrom_81 : decode cd_Mod_collectFrom 81 = .ok (.getfield 34, 3) := by decide +kernel
theorem d_Mod_collectFrom_84 : decode cd_Mod_collectFrom 84 = .ok (.iload_n 2, 1) := by decide +kernel
theorem d_Mod_collectFrom_85 : decode cd_Mod_collectFrom 85 = .ok (.baload, 1) := by decide +kernel
theorem d_Mod_collectFrom_86 : decode cd_Mod_collectFrom 86 = .ok (.ifCond .eq 42, 3) := by decide +kernel
theorem d_Mod_collectFrom_89 : decode cd_Mod_collectFrom 89 = .ok (.aload_n 0, 1) := by decide +kernel
theorem d_Mod_collectFrom_90 : decode cd_Mod_collectFrom 90 = .ok (.getfield 7, 3) := by decide +kernel
theorem d_Mod_collectFrom_93 : decode cd_Mod_collectFrom 93 = .ok (.iload_n 2, 1) := by decide +kernel
theorem d_Mod_collectFrom_94 : decode cd_Mod_collectFrom 94 = .ok (.iaload, 1) := by decide +kernel
theorem d_Mod_collectFrom_95 : decode cd_Mod_collectFrom 95 = .ok (.iconst 2, 1) := by decide +kernel
theorem d_Mod_collectFrom_96 : decode cd_Mod_collectFrom 96 = .ok (.if_icmp .ne 32, 3) := by decide +kernel
theorem d_Mod_collectFrom_99 : decode cd_Mod_collectFrom 99 = .ok (.aload_n 0, 1) := by decide +kernel
theorem d_Mod_collectFrom_100 : decode cd_Mod_collectFrom 100 = .ok (.aload_n 0, 1) := by decide +kernel
theorem d_Mod_collectFrom_101 : decode cd_Mod_collectFrom 101 = .ok (.getfield 28, 3) := by decide +kernel
theorem d_Mod_collectFrom_104 : decode cd_Mod_collectFrom 104 = .ok (.bipush 15, 2) := by decide +kernel
theorem d_Mod_collectFrom_106 : decode cd_Mod_collectFrom 106 = .ok (.iload_n 2, 1) := by decide +kernel
theorem d_Mod_collectFrom_107 : decode cd_Mod_collectFrom 107 = .ok (.imul, 1) := by decide +kernel
theorem d_Mod_collectFrom_108 : decode cd_Mod_collectFrom 108 = .ok (.iaload, 1) := by decide +kernel
theorem d_Mod_collectFrom_109 : decode cd_Mod_collectFrom 109 = .ok (.aload_n 0, 1) := by decide +kernel
theorem d_Mod_collectFrom_110 : decode cd_Mod_collectFrom 110 = .ok (.getfield 31, 3) := by decide +kernel
theorem d_Mod_collectFrom_113 : decode cd_Mod_collectFrom 113 = .ok (.bipush 15, 2) := by decide +kernel
theorem d_Mod_collectFrom_115 : decode cd_Mod_collectFrom 115 = .ok (.iload_n 2, 1) := by decide +kernel
theorem d_Mod_collectFrom_116 : decode cd_Mod_collectFrom 116 = .ok (.imul, 1) := by decide +kernel
theorem d_Mod_collectFrom_117 : decode cd_Mod_collectFrom 117 = .ok (.iaload, 1) := by decide +kernel
theorem d_Mod_collectFrom_118 : decode cd_Mod_collectFrom 118 = .ok (.invokevirtual 104, 3) := by decide +kernel
theorem d_Mod_collectFrom_121 : decode cd_Mod_collectFrom 121 = .ok (.ifCond .ne 7, 3) := by decide +kernel
theorem d_Mod_collectFrom_124 : decode cd_Mod_collectFrom 124 = .ok (.iconst 1, 1) := by decide +kernel
theorem d_Mod_collectFrom_125 : decode cd_Mod_collectFrom 125 = .ok (.goto 4, 3) := by decide +kernel
theorem d_Mod_collectFrom_128 : decode cd_Mod_collectFrom 128 = .ok (.iconst 0, 1) := by decide +kernel
theorem d_Mod_collectFrom_129 : decode cd_Mod_collectFrom 129 = .ok (.istore_n 3, 1) := by decide +kernel
theorem d_Mod_collectFrom_130 : decode cd_Mod_collectFrom 130 = .ok (.iconst 0, 1) := by decide +kernel
theorem d_Mod_collectFrom_131 : decode cd_Mod_collectFrom 131 = .ok (.istore 4, 2) := by decide +kernel
theorem d_Mod_collectFrom_133 : decode cd_Mod_collectFrom 133 = .ok (.iload_n 3, 1) := by decide +kernel
theorem d_Mod_collectFrom_134 : decode cd_Mod_collectFrom 134 = .ok (.ifCond .eq 27, 3) := by decide +kernel
theorem d_Mod_collectFrom_137 : decode cd_Mod_collectFrom 137 = .ok (.iload 4, 2) := by decide +kernel
theorem d_Mod_collectFrom_139 : decode cd_Mod_collectFrom 139 = .ok (.aload_n 0, 1) := by decide +kernel
theorem d_Mod_collectFrom_140 : decode cd_Mod_collectFrom 140 = .ok (.getfield 16, 3) := by decide +kernel
theorem d_Mod_collectFrom_143 : decode cd_Mod_collectFrom 143 = .ok (.iload_n 2, 1) := by decide +kernel
theorem d_Mod_collectFrom_144 : decode cd_Mod_collectFrom 144 = .ok (.iaload, 1) := by decide +kernel
theorem d_Mod_collectFrom_145 : decode cd_Mod_collectFrom 145 = .ok (.if_icmp .ge 16, 3) := by decide +kernel
theorem d_Mod_collectFrom_148 : decode cd_Mod_collectFrom 148 = .ok (.aload_n 0, 1) := by decide +kernel
theorem d_Mod_collectFrom_149 : decode cd_Mod_collectFrom 149 = .ok (.iload_n 2, 1) := by decide +kernel
theorem d_Mod_collectFrom_150 : decode cd_Mod_collectFrom 150 = .ok (.iload 4, 2) := by decide +kernel
theorem d_Mod_collectFrom_152 : decode cd_Mod_collectFrom 152 = .ok (.invokevirtual 114, 3) := by decide +kernel
theorem d_Mod_collectFrom_155 : decode cd_Mod_collectFrom 155 = .ok (.iinc 4 1, 3) := by decide +kernel
theorem d_Mod_collectFrom_158 : decode cd_Mod_collectFrom 158 = .ok (.goto (-25), 3) := by decide +kernel
theorem d_Mod_collectFrom_161 : decode cd_Mod_collectFrom 161 = .ok (.iinc 2 1, 3) := by decide +kernel
theorem d_Mod_collectFrom_164 : decode cd_Mod_collectFrom 164 = .ok (.goto (-100), 3) := by decide +kernel
theorem d_Mod_collectFrom_167 : decode cd_Mod_collectFrom 167 = .ok (.aload_n 0, 1) := by decide +kernel
theorem d_Mod_collectFrom_168 : decode cd_Mod_collectFrom 168 = .ok (.iload_n 1, 1) := by decide +kernel
theorem d_Mod_collectFrom_169 : decode cd_Mod_collectFrom 169 = .ok (.invokevirtual 121, 3) := by decide +kernel
theorem d_Mod_collectFrom_172 : decode cd_Mod_collectFrom 172 = .ok (.iconst 0, 1) := by decide +kernel
theorem d_Mod_collectFrom_173 : decode cd_Mod_collectFrom 173 = .ok (.istore_n 2, 1) := by decide +kernel
theorem d_Mod_collectFrom_174 : decode cd_Mod_collectFrom 174 = .ok (.iconst 0, 1) := by decide +kernel
theorem d_Mod_collectFrom_175 : decode cd_Mod_collectFrom 175 = .ok (.istore_n 3, 1) := by decide +kernel
theorem d_Mod_collectFrom_176 : decode cd_Mod_collectFrom 176 = .ok (.iload_n 3, 1) := by decide +kernel
theorem d_Mod_collectFrom_177 : decode cd_Mod_collectFrom 177 = .ok (.sipush 640, 3) := by decide +kernel
theorem d_Mod_collectFrom_180 : decode cd_Mod_collectFrom 180 = .ok (.if_icmp .ge 35, 3) := by decide +kernel
theorem d_Mod_collectFrom_183 : decode cd_Mod_collectFrom 183 = .ok (.aload_n 0, 1) := by decide +kernel
theorem d_Mod_collectFrom_184 : decode cd_Mod_collectFrom 184 = .ok (.iload_n 3, 1) := by decide +kernel
theorem d_Mod_collectFrom_185 : decode cd_Mod_collectFrom 185 = .ok (.iload_n 1, 1) := by decide +kernel
theorem d_Mod_collectFrom_186 : decode cd_Mod_collectFrom 186 = .ok (.invokevirtual 111, 3) := by decide +kernel
theorem d_Mod_collectFrom_189 : decode cd_Mod_collectFrom 189 = .ok (.ifCond .eq 20, 3) := by decide +kernel
theorem d_Mod_collectFrom_192 : decode cd_Mod_collectFrom 192 = .ok (.aload_n 0, 1) := by decide +kernel
theorem d_Mod_collectFrom_193 : decode cd_Mod_collectFrom 193 = .ok (.getfield 34, 3) := by decide +kernel
theorem d_Mod_collectFrom_196 : decode cd_Mod_collectFrom 196 = .ok (.iload_n 3, 1) := by decide +kernel
theorem d_Mod_collectFrom_197 : decode cd_Mod_collectFrom 197 = .ok (.baload, 1) := by decide +kernel
theorem d_Mod_collectFrom_198 : decode cd_Mod_collectFrom 198 = .ok (.ifCond .ne 11, 3) := by decide +kernel
theorem d_Mod_collectFrom_201 : decode cd_Mod_collectFrom 201 = .ok (.aload_n 0, 1) := by decide +kernel
theorem d_Mod_collectFrom_202 : decode cd_Mod_collectFrom 202 = .ok (.iload_n 3, 1) := by decide +kernel
theorem d_Mod_collectFrom_203 : decode cd_Mod_collectFrom 203 = .ok (.invokevirtual 100, 3) := by decide +kernel
theorem d_Mod_collectFrom_206 : decode cd_Mod_collectFrom 206 = .ok (.iinc 2 1, 3) := by decide +kernel
theorem d_Mod_collectFrom_209 : decode cd_Mod_collectFrom 209 = .ok (.iinc 3 1, 3) := by decide +kernel
theorem d_Mod_collectFrom_212 : decode cd_Mod_collectFrom 212 = .ok (.goto (-36), 3) := by decide +kernel
theorem d_Mod_collectFrom_215 : decode cd_Mod_collectFrom 215 = .ok (.iload_n 1, 1) := by decide +kernel
theorem d_Mod_collectFrom_216 : decode cd_Mod_collectFrom 216 = .ok (.istore_n 3, 1) := by decide +kernel
theorem d_Mod_collectFrom_217 : decode cd_Mod_collectFrom 217 = .ok (.iload_n 3, 1) := by decide +kernel
theorem d_Mod_collectFrom_218 : decode cd_Mod_collectFrom 218 = .ok (.aload_n 0, 1) := by decide +kernel
theorem d_Mod_collectFrom_219 : decode cd_Mod_collectFrom 219 = .ok (.getfield 80, 3) := by decide +kernel
theorem d_Mod_collectFrom_222 : decode cd_Mod_collectFrom 222 = .ok (.if_icmp .ge 14, 3) := by decide +kernel
theorem d_Mod_collectFrom_225 : decode cd_Mod_collectFrom 225 = .ok (.aload_n 0, 1) := by decide +kernel
theorem d_Mod_collectFrom_226 : decode cd_Mod_collectFrom 226 = .ok (.iload_n 3, 1) := by decide +kernel
theorem d_Mod_collectFrom_227 : decode cd_Mod_collectFrom 227 = .ok (.invokevirtual 128, 3) := by decide +kernel
theorem d_Mod_collectFrom_230 : decode cd_Mod_collectFrom 230 = .ok (.iinc 3 1, 3) := by decide +kernel
theorem d_Mod_collectFrom_233 : decode cd_Mod_collectFrom 233 = .ok (.goto (-16), 3) := by decide +kernel
theorem d_Mod_collectFrom_236 : decode cd_Mod_collectFrom 236 = .ok (.aload_n 0, 1) := by decide +kernel
theorem d_Mod_collectFrom_237 : decode cd_Mod_collectFrom 237 = .ok (.dup, 1) := by decide +kernel
theorem d_Mod_collectFrom_238 : decode cd_Mod_collectFrom 238 = .ok (.getfield 131, 3) := by decide +kernel
theorem d_Mod_collectFrom_241 : decode cd_Mod_collectFrom 241 = .ok (.iconst 1, 1) := by decide +kernel
theorem d_Mod_collectFrom_242 : decode cd_Mod_collectFrom 242 = .ok (.iadd, 1) := by decide +kernel
theorem d_Mod_collectFrom_243 : decode cd_Mod_collectFrom 243 = .ok (.putfield 131, 3) := by decide +kernel
theorem d_Mod_collectFrom_246 : decode cd_Mod_collectFrom 246 = .ok (.aload_n 0, 1) := by decide +kernel
theorem d_Mod_collectFrom_247 : decode cd_Mod_collectFrom 247 = .ok (.dup, 1) := by decide +kernel
theorem d_Mod_collectFrom_248 : decode cd_Mod_collectFrom 248 = .ok (.getfield 134, 3) := by decide +kernel
theorem d_Mod_collectFrom_251 : decode cd_Mod_collectFrom 251 = .ok (.iload_n 2, 1) := by decide +kernel
theorem d_Mod_collectFrom_252 : decode cd_Mod_collectFrom 252 = .ok (.iadd, 1) := by decide +kernel
theorem d_Mod_collectFrom_253 : decode cd_Mod_collectFrom 253 = .ok (.putfield 134, 3) := by decide +kernel
theorem d_Mod_collectFrom_256 : decode cd_Mod_collectFrom 256 = .ok (.iload_n 2, 1) := by decide +kernel
theorem d_Mod_collectFrom_257 : decode cd_Mod_collectFrom 257 = .ok (.ireturn, 1) := by decide +kernel
set_option maxRecDepth 100000 in
set_option maxHeartbeats 4000000 in
theorem s_Mod_collectFrom_L217 {p : Program} {l : Launch} {e : Env} {s : State} {m : MethodId} {args : Array Value} {below : List Frame} {meth : Method} {c : Code} {V : xV} (C : xC p s m args c cd_Mod_collectFrom 5 R_Mod V) (hlocks : meth.locks = false) (hr : meth.sig.returnType = (some .int)) {Q : Int32 → xS → Prop} {K217 : Int32 → Int32 → xS → Prop} (hK217 : ∀ (x2 : Int32) (x3 : Int32) (σ : xS) (H : Heap) (locs : List Loc) (ls : Array Slot), K217 x2 x3 σ → xI V s.heap σ H locs → lv_has ls 5 [(0, .ref (V.2.2 31)), (2, .int x2), (3, .int x3)] → W p l e rm_Mod_collectFrom s m args below meth c H locs 0 0 (xZi below V args s Q) (F0 m 217 ls [])) {x2 x3 : Int32} {σ : xS} {H : Heap} {locs : List Loc} {ls : Array Slot} (h : b_Mod_collectFrom_L217 K217 Q x2 x3 σ) (hI : xI V s.heap σ H locs) (hl : lv_has ls 5 [(0, .ref (V.2.2 31)), (2, .int x2), (3, .int x3)]) : W p l e rm_Mod_collectFrom s m args below meth c H locs 0 0 (xZi below V args s Q) (F0 m 217 ls []) := by
  have hx := C.1
  have hb := C.2.1
  unfold b_Mod_collectFrom_L217 at h
  refine lv_iload_n hx hb d_Mod_collectFrom_217 rfl (lv_at hl 2 rfl) ?_
  refine lv_aload_n hx hb d_Mod_collectFrom_218 rfl (lv_at hl 0 rfl) ?_
  refine x_get C hI (d := 31) (by decide) (xE31 V _) fd_Mod_80 rfl d_Mod_collectFrom_219 ?_
  refine lv_icmp_ge (tgt := 236) hx hb d_Mod_collectFrom_222 (by decide) (fun c10 => ?_) (fun c10 => ?_)
  · have h := h.1 c10
    refine lv_aload_n hx hb d_Mod_collectFrom_236 rfl (lv_at hl 0 rfl) ?_
    refine lv_dup hx hb d_Mod_collectFrom_237 rfl ?_
    refine x_get C hI (d := 31) (by decide) (xE31 V _) fd_Mod_131 rfl d_Mod_collectFrom_238 ?_
    refine lv_iconst (v := 1) hx hb d_Mod_collectFrom_241 (by decide) ?_
    refine lv_iadd hx hb d_Mod_collectFrom_242 ?_
    refine x_put C hI (d := 31) (by decide) (xE31 V _) (xP_31_21 V _ _) fw_Mod_131 (Nat.le_of_ble_eq_true rfl) d_Mod_collectFrom_243 (fun H locs hI => ?_)
    refine lv_aload_n hx hb d_Mod_collectFrom_246 rfl (lv_at hl 0 rfl) ?_
    refine lv_dup hx hb d_Mod_collectFrom_247 rfl ?_
    refine x_get C hI (d := 31) (by decide) (xE31 V _) fd_Mod_134 rfl d_Mod_collectFrom_248 ?_
    refine lv_iload_n hx hb d_Mod_collectFrom_251 rfl (lv_at hl 1 rfl) ?_
    refine lv_iadd hx hb d_Mod_collectFrom_252 ?_
    refine x_put C hI (d := 31) (by decide) (xE31 V _) (xP_31_22 V _ _) fw_Mod_134 (Nat.le_of_ble_eq_true rfl) d_Mod_collectFrom_253 (fun H locs hI => ?_)
    refine lv_iload_n hx hb d_Mod_collectFrom_256 rfl (lv_at hl 1 rfl) ?_
    exact x_iret C hlocks hr hI h d_Mod_collectFrom_257
  · have h := h.2 c10
    refine lv_aload_n hx hb d_Mod_collectFrom_225 rfl (lv_at hl 0 rfl) ?_
    refine lv_iload_n hx hb d_Mod_collectFrom_226 rfl (lv_at hl 2 rfl) ?_
    refine x_callv C hI hl.1 (d := 31) (As := [.int x3]) (rest := []) (by decide) (c_Mod_slide h) (xE31 V _) rfl yw_Mod_slide ml_Mod_128 rfl rfl ⟨Nat.le_of_ble_eq_true rfl, Nat.le_of_ble_eq_true rfl⟩ rfl rfl (Nat.le_of_ble_eq_true rfl) d_Mod_collectFrom_227 ⟨Nat.zero_le _, Nat.zero_le _⟩ (fun σ11 H locs h hI => ?_)
    obtain ⟨z12, ez12⟩ : ∃ y : Int32, y = x3 + 1 := ⟨_, rfl⟩
    have h := h z12 ez12
    refine lv_iinc (v := z12) (lv' := [(3, .int z12), (0, .ref (V.2.2 31)), (2, .int x2)]) hx hb d_Mod_collectFrom_230 hl (k := 2) rfl (by rw [ez12]; rfl) (by decide) rfl (fun ls hl => ?_)
    refine lv_goto (tgt := 217) hx hb d_Mod_collectFrom_233 (by decide) ?_
    exact hK217 _ _ _ _ _ _ h hI (lv_sub hl [1, 2, 0] rfl)
theorem w_Mod_collectFrom_L217 {p : Program} {l : Launch} {e : Env} {s : State} {m : MethodId} {args : Array Value} {below : List Frame} {meth : Method} {c : Code} {V : xV} (C : xC p s m args c cd_Mod_collectFrom 5 R_Mod V) (hlocks : meth.locks = false) (hr : meth.sig.returnType = (some .int)) {Q : Int32 → xS → Prop} : ∀ (n : Nat) (x2 : Int32) (x3 : Int32) (σ : xS) (H : Heap) (locs : List Loc) (ls : Array Slot), p_Mod_collectFrom_L217 Q n x2 x3 σ → xI V s.heap σ H locs → lv_has ls 5 [(0, .ref (V.2.2 31)), (2, .int x2), (3, .int x3)] → W p l e rm_Mod_collectFrom s m args below meth c H locs 0 0 (xZi below V args s Q) (F0 m 217 ls []) := by
  intro n
  induction n with
  | zero =>
    intro x2 x3 σ H locs ls h
    exact False.elim h
  | succ n ih =>
    intro x2 x3 σ H locs ls h hI hl
    exact s_Mod_collectFrom_L217 C hlocks hr (K217 := p_Mod_collectFrom_L217 Q n) (fun x2 x3 σ H locs ls h hI hl => ih x2 x3 σ H locs ls h hI hl) h hI hl
set_option maxRecDepth 100000 in
set_option maxHeartbeats 4000000 in
theorem s_Mod_collectFrom_L176 {p : Program} {l : Launch} {e : Env} {s : State} {m : MethodId} {args : Array Value} {below : List Frame} {meth : Method} {c : Code} {V : xV} (C : xC p s m args c cd_Mod_collectFrom 5 R_Mod V) (hlocks : meth.locks = false) (hr : meth.sig.returnType = (some .int)) {Q : Int32 → xS → Prop} {K176 : Int32 → Int32 → Int32 → xS → Prop} (hK176 : ∀ (x1 : Int32) (x2 : Int32) (x3 : Int32) (σ : xS) (H : Heap) (locs : List Loc) (ls : Array Slot), K176 x1 x2 x3 σ → xI V s.heap σ H locs → lv_has ls 5 [(0, .ref (V.2.2 31)), (1, .int x1), (2, .int x2), (3, .int x3)] → W p l e rm_Mod_collectFrom s m args below meth c H locs 0 0 (xZi below V args s Q) (F0 m 176 ls [])) {x1 x2 x3 : Int32} {σ : xS} {H : Heap} {locs : List Loc} {ls : Array Slot} (h : b_Mod_collectFrom_L176 K176 Q x1 x2 x3 σ) (hI : xI V s.heap σ H locs) (hl : lv_has ls 5 [(0, .ref (V.2.2 31)), (1, .int x1), (2, .int x2), (3, .int x3)]) : W p l e rm_Mod_collectFrom s m args below meth c H locs 0 0 (xZi below V args s Q) (F0 m 176 ls []) := by
  have hx := C.1
  have hb := C.2.1
  unfold b_Mod_collectFrom_L176 at h
  refine lv_iload_n hx hb d_Mod_collectFrom_176 rfl (lv_at hl 3 rfl) ?_
  refine lv_sipush (v := 640) hx hb d_Mod_collectFrom_177 (by decide) ?_
  refine lv_icmp_ge (tgt := 215) hx hb d_Mod_collectFrom_180 (by decide) (fun c9 => ?_) (fun c9 => ?_)
  · have h := h.1 c9
    refine lv_iload_n hx hb d_Mod_collectFrom_215 rfl (lv_at hl 1 rfl) ?_
    refine lv_istore_n (lv' := [(3, .int x1), (0, .ref (V.2.2 31)), (1, .int x1), (2, .int x2)]) hx hb d_Mod_collectFrom_216 rfl hl (by decide) rfl (fun ls hl => ?_)
    obtain ⟨n, h⟩ := h
    exact w_Mod_collectFrom_L217 C hlocks hr n _ _ _ _ _ _ h hI (lv_sub hl [1, 3, 0] rfl)
  · have h := h.2 c9
    refine lv_aload_n hx hb d_Mod_collectFrom_183 rfl (lv_at hl 0 rfl) ?_
    refine lv_iload_n hx hb d_Mod_collectFrom_184 rfl (lv_at hl 3 rfl) ?_
    refine lv_iload_n hx hb d_Mod_collectFrom_185 rfl (lv_at hl 1 rfl) ?_
    refine x_calli C hI hl.1 (d := 31) (As := [.int x3, .int x1]) (rest := []) (by decide) (c_Mod_isYoung h) (xE31 V _) rfl yw_Mod_isYoung ml_Mod_111 rfl rfl ⟨Nat.le_of_ble_eq_true rfl, Nat.le_of_ble_eq_true rfl⟩ rfl rfl (Nat.le_of_ble_eq_true rfl) d_Mod_collectFrom_186 ⟨Nat.zero_le _, Nat.zero_le _⟩ (fun r14 σ13 H locs h hI => ?_)
    refine lv_if_eq (tgt := 209) hx hb d_Mod_collectFrom_189 (by decide) (fun c15 => ?_) (fun c15 => ?_)
    · have h := h.1 c15
      obtain ⟨z16, ez16⟩ : ∃ y : Int32, y = x3 + 1 := ⟨_, rfl⟩
      have h := h z16 ez16
      refine lv_iinc (v := z16) (lv' := [(3, .int z16), (0, .ref (V.2.2 31)), (1, .int x1), (2, .int x2)]) hx hb d_Mod_collectFrom_209 hl (k := 3) rfl (by rw [ez16]; rfl) (by decide) rfl (fun ls hl => ?_)
      refine lv_goto (tgt := 176) hx hb d_Mod_collectFrom_212 (by decide) ?_
      exact hK176 _ _ _ _ _ _ _ h hI (lv_sub hl [1, 2, 3, 0] rfl)
    · have h := h.2 c15
      refine lv_aload_n hx hb d_Mod_collectFrom_192 rfl (lv_at hl 0 rfl) ?_
      refine x_get C hI (d := 31) (by decide) (xE31 V _) fd_Mod_34 rfl d_Mod_collectFrom_193 ?_
      refine lv_iload_n hx hb d_Mod_collectFrom_196 rfl (lv_at hl 3 rfl) ?_
      obtain ⟨i17, h⟩ := h
      refine x_zald C hI (d := 48) (by decide) (xE48 V) i17 d_Mod_collectFrom_197 ?_
      refine lv_if_ne (tgt := 209) hx hb d_Mod_collectFrom_198 (by decide) (fun c18 => ?_) (fun c18 => ?_)
      · have h := h.1 c18
        obtain ⟨z19, ez19⟩ : ∃ y : Int32, y = x3 + 1 := ⟨_, rfl⟩
        have h := h z19 ez19
        refine lv_iinc (v := z19) (lv' := [(3, .int z19), (0, .ref (V.2.2 31)), (1, .int x1), (2, .int x2)]) hx hb d_Mod_collectFrom_209 hl (k := 3) rfl (by rw [ez19]; rfl) (by decide) rfl (fun ls hl => ?_)
        refine lv_goto (tgt := 176) hx hb d_Mod_collectFrom_212 (by decide) ?_
        exact hK176 _ _ _ _ _ _ _ h hI (lv_sub hl [1, 2, 3, 0] rfl)
      · have h := h.2 c18
        refine lv_aload_n hx hb d_Mod_collectFrom_201 rfl (lv_at hl 0 rfl) ?_
        refine lv_iload_n hx hb d_Mod_collectFrom_202 rfl (lv_at hl 3 rfl) ?_
        refine x_callv C hI hl.1 (d := 31) (As := [.int x3]) (rest := []) (by decide) (c_Mod_remove h) (xE31 V _) rfl yw_Mod_remove ml_Mod_100 rfl rfl ⟨Nat.le_of_ble_eq_true rfl, Nat.le_of_ble_eq_true rfl⟩ rfl rfl (Nat.le_of_ble_eq_true rfl) d_Mod_collectFrom_203 ⟨Nat.zero_le _, Nat.zero_le _⟩ (fun σ20 H locs h hI => ?_)
        obtain ⟨z21, ez21⟩ : ∃ y : Int32, y = x2 + 1 := ⟨_, rfl⟩
        have h := h z21 ez21
        refine lv_iinc (v := z21) (lv' := [(2, .int z21), (0, .ref (V.2.2 31)), (1, .int x1), (3, .int x3)]) hx hb d_Mod_collectFrom_206 hl (k := 2) rfl (by rw [ez21]; rfl) (by decide) rfl (fun ls hl => ?_)
        obtain ⟨z22, ez22⟩ : ∃ y : Int32, y = x3 + 1 := ⟨_, rfl⟩
        have h := h z22 ez22
        refine lv_iinc (v := z22) (lv' := [(3, .int z22), (2, .int z21), (0, .ref (V.2.2 31)), (1, .int x1)]) hx hb d_Mod_collectFrom_209 hl (k := 3) rfl (by rw [ez22]; rfl) (by decide) rfl (fun ls hl => ?_)
        refine lv_goto (tgt := 176) hx hb d_Mod_collectFrom_212 (by decide) ?_
        exact hK176 _ _ _ _ _ _ _ h hI (lv_sub hl [2, 3, 1, 0] rfl)
theorem w_Mod_collectFrom_L176 {p : Program} {l : Launch} {e : Env} {s : State} {m : MethodId} {args : Array Value} {below : List Frame} {meth : Method} {c : Code} {V : xV} (C : xC p s m args c cd_Mod_collectFrom 5 R_Mod V) (hlocks : meth.locks = false) (hr : meth.sig.returnType = (some .int)) {Q : Int32 → xS → Prop} : ∀ (n : Nat) (x1 : Int32) (x2 : Int32) (x3 : Int32) (σ : xS) (H : Heap) (locs : List Loc) (ls : Array Slot), p_Mod_collectFrom_L176 Q n x1 x2 x3 σ → xI V s.heap σ H locs → lv_has ls 5 [(0, .ref (V.2.2 31)), (1, .int x1), (2, .int x2), (3, .int x3)] → W p l e rm_Mod_collectFrom s m args below meth c H locs 0 0 (xZi below V args s Q) (F0 m 176 ls []) := by
  intro n
  induction n with
  | zero =>
    intro x1 x2 x3 σ H locs ls h
    exact False.elim h
  | succ n ih =>
    intro x1 x2 x3 σ H locs ls h hI hl
    exact s_Mod_collectFrom_L176 C hlocks hr (K176 := p_Mod_collectFrom_L176 Q n) (fun x1 x2 x3 σ H locs ls h hI hl => ih x1 x2 x3 σ H locs ls h hI hl) h hI hl
set_option maxRecDepth 100000 in
set_option maxHeartbeats 4000000 in
theorem s_Mod_collectFrom_L133 {p : Program} {l : Launch} {e : Env} {s : State} {m : MethodId} {args : Array Value} {below : List Frame} {meth : Method} {c : Code} {V : xV} (C : xC p s m args c cd_Mod_collectFrom 5 R_Mod V) (hlocks : meth.locks = false) (hr : meth.sig.returnType = (some .int)) {Q : Int32 → xS → Prop} {K64 : Int32 → Int32 → xS → Prop} {K133 : Int32 → Int32 → Int32 → Int32 → xS → Prop} (hK64 : ∀ (x1 : Int32) (x2 : Int32) (σ : xS) (H : Heap) (locs : List Loc) (ls : Array Slot), K64 x1 x2 σ → xI V s.heap σ H locs → lv_has ls 5 [(0, .ref (V.2.2 31)), (1, .int x1), (2, .int x2)] → W p l e rm_Mod_collectFrom s m args below meth c H locs 0 0 (xZi below V args s Q) (F0 m 64 ls [])) (hK133 : ∀ (x1 : Int32) (x2 : Int32) (x3 : Int32) (x4 : Int32) (σ : xS) (H : Heap) (locs : List Loc) (ls : Array Slot), K133 x1 x2 x3 x4 σ → xI V s.heap σ H locs → lv_has ls 5 [(0, .ref (V.2.2 31)), (1, .int x1), (2, .int x2), (3, .int x3), (4, .int x4)] → W p l e rm_Mod_collectFrom s m args below meth c H locs 0 0 (xZi below V args s Q) (F0 m 133 ls [])) {x1 x2 x3 x4 : Int32} {σ : xS} {H : Heap} {locs : List Loc} {ls : Array Slot} (h : b_Mod_collectFrom_L133 K64 K133 Q x1 x2 x3 x4 σ) (hI : xI V s.heap σ H locs) (hl : lv_has ls 5 [(0, .ref (V.2.2 31)), (1, .int x1), (2, .int x2), (3, .int x3), (4, .int x4)]) : W p l e rm_Mod_collectFrom s m args below meth c H locs 0 0 (xZi below V args s Q) (F0 m 133 ls []) := by
  have hx := C.1
  have hb := C.2.1
  unfold b_Mod_collectFrom_L133 at h
  refine lv_iload_n hx hb d_Mod_collectFrom_133 rfl (lv_at hl 3 rfl) ?_
  refine lv_if_eq (tgt := 161) hx hb d_Mod_collectFrom_134 (by decide) (fun c26 => ?_) (fun c26 => ?_)
  · have h := h.1 c26
    obtain ⟨z27, ez27⟩ : ∃ y : Int32, y = x2 + 1 := ⟨_, rfl⟩
    have h := h z27 ez27
    refine lv_iinc (v := z27) (lv' := [(2, .int z27), (0, .ref (V.2.2 31)), (1, .int x1), (3, .int x3), (4, .int x4)]) hx hb d_Mod_collectFrom_161 hl (k := 2) rfl (by rw [ez27]; rfl) (by decide) rfl (fun ls hl => ?_)
    refine lv_goto (tgt := 64) hx hb d_Mod_collectFrom_164 (by decide) ?_
    exact hK64 _ _ _ _ _ _ h hI (lv_sub hl [1, 2, 0] rfl)
  · have h := h.2 c26
    refine lv_iload hx hb d_Mod_collectFrom_137 (lv_at hl 4 rfl) ?_
    refine lv_aload_n hx hb d_Mod_collectFrom_139 rfl (lv_at hl 0 rfl) ?_
    refine x_get C hI (d := 31) (by decide) (xE31 V _) fd_Mod_16 rfl d_Mod_collectFrom_140 ?_
    refine lv_iload_n hx hb d_Mod_collectFrom_143 rfl (lv_at hl 2 rfl) ?_
    obtain ⟨i28, h⟩ := h
    refine x_iald C hI (d := 42) (by decide) (xE42 V) i28 d_Mod_collectFrom_144 ?_
    refine lv_icmp_ge (tgt := 161) hx hb d_Mod_collectFrom_145 (by decide) (fun c29 => ?_) (fun c29 => ?_)
    · have h := h.1 c29
      obtain ⟨z30, ez30⟩ : ∃ y : Int32, y = x2 + 1 := ⟨_, rfl⟩
      have h := h z30 ez30
      refine lv_iinc (v := z30) (lv' := [(2, .int z30), (0, .ref (V.2.2 31)), (1, .int x1), (3, .int x3), (4, .int x4)]) hx hb d_Mod_collectFrom_161 hl (k := 2) rfl (by rw [ez30]; rfl) (by decide) rfl (fun ls hl => ?_)
      refine lv_goto (tgt := 64) hx hb d_Mod_collectFrom_164 (by decide) ?_
      exact hK64 _ _ _ _ _ _ h hI (lv_sub hl [1, 2, 0] rfl)
    · have h := h.2 c29
      refine lv_aload_n hx hb d_Mod_collectFrom_148 rfl (lv_at hl 0 rfl) ?_
      refine lv_iload_n hx hb d_Mod_collectFrom_149 rfl (lv_at hl 2 rfl) ?_
      refine lv_iload hx hb d_Mod_collectFrom_150 (lv_at hl 4 rfl) ?_
      refine x_callv C hI hl.1 (d := 31) (As := [.int x2, .int x4]) (rest := []) (by decide) (c_Mod_empty h) (xE31 V _) rfl yw_Mod_empty ml_Mod_114 rfl rfl ⟨Nat.le_of_ble_eq_true rfl, Nat.le_of_ble_eq_true rfl⟩ rfl rfl (Nat.le_of_ble_eq_true rfl) d_Mod_collectFrom_152 ⟨Nat.zero_le _, Nat.zero_le _⟩ (fun σ31 H locs h hI => ?_)
      obtain ⟨z32, ez32⟩ : ∃ y : Int32, y = x4 + 1 := ⟨_, rfl⟩
      have h := h z32 ez32
      refine lv_iinc (v := z32) (lv' := [(4, .int z32), (0, .ref (V.2.2 31)), (1, .int x1), (2, .int x2), (3, .int x3)]) hx hb d_Mod_collectFrom_155 hl (k := 4) rfl (by rw [ez32]; rfl) (by decide) rfl (fun ls hl => ?_)
      refine lv_goto (tgt := 133) hx hb d_Mod_collectFrom_158 (by decide) ?_
      exact hK133 _ _ _ _ _ _ _ _ h hI (lv_sub hl [1, 2, 3, 4, 0] rfl)
theorem w_Mod_collectFrom_L133 {p : Program} {l : Launch} {e : Env} {s : State} {m : MethodId} {args : Array Value} {below : List Frame} {meth : Method} {c : Code} {V : xV} (C : xC p s m args c cd_Mod_collectFrom 5 R_Mod V) (hlocks : meth.locks = false) (hr : meth.sig.returnType = (some .int)) {Q : Int32 → xS → Prop} {K64 : Int32 → Int32 → xS → Prop} (hK64 : ∀ (x1 : Int32) (x2 : Int32) (σ : xS) (H : Heap) (locs : List Loc) (ls : Array Slot), K64 x1 x2 σ → xI V s.heap σ H locs → lv_has ls 5 [(0, .ref (V.2.2 31)), (1, .int x1), (2, .int x2)] → W p l e rm_Mod_collectFrom s m args below meth c H locs 0 0 (xZi below V args s Q) (F0 m 64 ls [])) : ∀ (n : Nat) (x1 : Int32) (x2 : Int32) (x3 : Int32) (x4 : Int32) (σ : xS) (H : Heap) (locs : List Loc) (ls : Array Slot), p_Mod_collectFrom_L133 K64 Q n x1 x2 x3 x4 σ → xI V s.heap σ H locs → lv_has ls 5 [(0, .ref (V.2.2 31)), (1, .int x1), (2, .int x2), (3, .int x3), (4, .int x4)] → W p l e rm_Mod_collectFrom s m args below meth c H locs 0 0 (xZi below V args s Q) (F0 m 133 ls []) := by
  intro n
  induction n with
  | zero =>
    intro x1 x2 x3 x4 σ H locs ls h
    exact False.elim h
  | succ n ih =>
    intro x1 x2 x3 x4 σ H locs ls h hI hl
    exact s_Mod_collectFrom_L133 C hlocks hr hK64 (K133 := p_Mod_collectFrom_L133 K64 Q n) (fun x1 x2 x3 x4 σ H locs ls h hI hl => ih x1 x2 x3 x4 σ H locs ls h hI hl) h hI hl
set_option maxRecDepth 100000 in
set_option maxHeartbeats 4000000 in
theorem s_Mod_collectFrom_L64 {p : Program} {l : Launch} {e : Env} {s : State} {m : MethodId} {args : Array Value} {below : List Frame} {meth : Method} {c : Code} {V : xV} (C : xC p s m args c cd_Mod_collectFrom 5 R_Mod V) (hlocks : meth.locks = false) (hr : meth.sig.returnType = (some .int)) {Q : Int32 → xS → Prop} {K64 : Int32 → Int32 → xS → Prop} (hK64 : ∀ (x1 : Int32) (x2 : Int32) (σ : xS) (H : Heap) (locs : List Loc) (ls : Array Slot), K64 x1 x2 σ → xI V s.heap σ H locs → lv_has ls 5 [(0, .ref (V.2.2 31)), (1, .int x1), (2, .int x2)] → W p l e rm_Mod_collectFrom s m args below meth c H locs 0 0 (xZi below V args s Q) (F0 m 64 ls [])) {x1 x2 : Int32} {σ : xS} {H : Heap} {locs : List Loc} {ls : Array Slot} (h : b_Mod_collectFrom_L64 K64 Q x1 x2 σ) (hI : xI V s.heap σ H locs) (hl : lv_has ls 5 [(0, .ref (V.2.2 31)), (1, .int x1), (2, .int x2)]) : W p l e rm_Mod_collectFrom s m args below meth c H locs 0 0 (xZi below V args s Q) (F0 m 64 ls []) := by
  have hx := C.1
  have hb := C.2.1
  unfold b_Mod_collectFrom_L64 at h
  refine lv_iload_n hx hb d_Mod_collectFrom_64 rfl (lv_at hl 2 rfl) ?_
  refine lv_sipush (v := 640) hx hb d_Mod_collectFrom_65 (by decide) ?_
  refine lv_icmp_ge (tgt := 167) hx hb d_Mod_collectFrom_68 (by decide) (fun c7 => ?_) (fun c7 => ?_)
  · have h := h.1 c7
    refine lv_aload_n hx hb d_Mod_collectFrom_167 rfl (lv_at hl 0 rfl) ?_
    refine lv_iload_n hx hb d_Mod_collectFrom_168 rfl (lv_at hl 1 rfl) ?_
    refine x_callv C hI hl.1 (d := 31) (As := [.int x1]) (rest := []) (by decide) (c_Mod_forget h) (xE31 V _) rfl yw_Mod_forget ml_Mod_121 rfl rfl ⟨Nat.le_of_ble_eq_true rfl, Nat.le_of_ble_eq_true rfl⟩ rfl rfl (Nat.le_of_ble_eq_true rfl) d_Mod_collectFrom_169 ⟨Nat.zero_le _, Nat.zero_le _⟩ (fun σ8 H locs h hI => ?_)
    refine lv_iconst (v := 0) hx hb d_Mod_collectFrom_172 (by decide) ?_
    refine lv_istore_n (lv' := [(2, .int 0), (0, .ref (V.2.2 31)), (1, .int x1)]) hx hb d_Mod_collectFrom_173 rfl hl (by decide) rfl (fun ls hl => ?_)
    refine lv_iconst (v := 0) hx hb d_Mod_collectFrom_174 (by decide) ?_
    refine lv_istore_n (lv' := [(3, .int 0), (2, .int 0), (0, .ref (V.2.2 31)), (1, .int x1)]) hx hb d_Mod_collectFrom_175 rfl hl (by decide) rfl (fun ls hl => ?_)
    obtain ⟨n, h⟩ := h
    exact w_Mod_collectFrom_L176 C hlocks hr n _ _ _ _ _ _ _ h hI (lv_sub hl [2, 3, 1, 0] rfl)
  · have h := h.2 c7
    refine lv_aload_n hx hb d_Mod_collectFrom_71 rfl (lv_at hl 0 rfl) ?_
    refine lv_iload_n hx hb d_Mod_collectFrom_72 rfl (lv_at hl 2 rfl) ?_
    refine lv_iload_n hx hb d_Mod_collectFrom_73 rfl (lv_at hl 1 rfl) ?_
    refine x_calli C hI hl.1 (d := 31) (As := [.int x2, .int x1]) (rest := []) (by decide) (c_Mod_isYoung h) (xE31 V _) rfl yw_Mod_isYoung ml_Mod_111 rfl rfl ⟨Nat.le_of_ble_eq_true rfl, Nat.le_of_ble_eq_true rfl⟩ rfl rfl (Nat.le_of_ble_eq_true rfl) d_Mod_collectFrom_74 ⟨Nat.zero_le _, Nat.zero_le _⟩ (fun r24 σ23 H locs h hI => ?_)
    refine lv_if_eq (tgt := 128) hx hb d_Mod_collectFrom_77 (by decide) (fun c25 => ?_) (fun c25 => ?_)
    · have h := h.1 c25
      refine lv_iconst (v := 0) hx hb d_Mod_collectFrom_128 (by decide) ?_
      refine lv_istore_n (lv' := [(3, .int 0), (0, .ref (V.2.2 31)), (1, .int x1), (2, .int x2)]) hx hb d_Mod_collectFrom_129 rfl hl (by decide) rfl (fun ls hl => ?_)
      refine lv_iconst (v := 0) hx hb d_Mod_collectFrom_130 (by decide) ?_
      refine lv_istore (lv' := [(4, .int 0), (3, .int 0), (0, .ref (V.2.2 31)), (1, .int x1), (2, .int x2)]) hx hb d_Mod_collectFrom_131 hl (by decide) rfl (fun ls hl => ?_)
      obtain ⟨n, h⟩ := h
      exact w_Mod_collectFrom_L133 C hlocks hr hK64 n _ _ _ _ _ _ _ _ h hI (lv_sub hl [2, 3, 4, 1, 0] rfl)
    · have h := h.2 c25
      refine lv_aload_n hx hb d_Mod_collectFrom_80 rfl (lv_at hl 0 rfl) ?_
      refine x_get C hI (d := 31) (by decide) (xE31 V _) fd_Mod_34 rfl d_Mod_collectFrom_81 ?_
      refine lv_iload_n hx hb d_Mod_collectFrom_84 rfl (lv_at hl 2 rfl) ?_
      obtain ⟨i33, h⟩ := h
      refine x_zald C hI (d := 48) (by decide) (xE48 V) i33 d_Mod_collectFrom_85 ?_
      refine lv_if_eq (tgt := 128) hx hb d_Mod_collectFrom_86 (by decide) (fun c34 => ?_) (fun c34 => ?_)
      · have h := h.1 c34
        refine lv_iconst (v := 0) hx hb d_Mod_collectFrom_128 (by decide) ?_
        refine lv_istore_n (lv' := [(3, .int 0), (0, .ref (V.2.2 31)), (1, .int x1), (2, .int x2)]) hx hb d_Mod_collectFrom_129 rfl hl (by decide) rfl (fun ls hl => ?_)
        refine lv_iconst (v := 0) hx hb d_Mod_collectFrom_130 (by decide) ?_
        refine lv_istore (lv' := [(4, .int 0), (3, .int 0), (0, .ref (V.2.2 31)), (1, .int x1), (2, .int x2)]) hx hb d_Mod_collectFrom_131 hl (by decide) rfl (fun ls hl => ?_)
        obtain ⟨n, h⟩ := h
        exact w_Mod_collectFrom_L133 C hlocks hr hK64 n _ _ _ _ _ _ _ _ h hI (lv_sub hl [2, 3, 4, 1, 0] rfl)
      · have h := h.2 c34
        refine lv_aload_n hx hb d_Mod_collectFrom_89 rfl (lv_at hl 0 rfl) ?_
        refine x_get C hI (d := 31) (by decide) (xE31 V _) fd_Mod_7 rfl d_Mod_collectFrom_90 ?_
        refine lv_iload_n hx hb d_Mod_collectFrom_93 rfl (lv_at hl 2 rfl) ?_
        obtain ⟨i35, h⟩ := h
        refine x_iald C hI (d := 40) (by decide) (xE40 V) i35 d_Mod_collectFrom_94 ?_
        refine lv_iconst (v := 2) hx hb d_Mod_collectFrom_95 (by decide) ?_
        refine lv_icmp_ne (tgt := 128) hx hb d_Mod_collectFrom_96 (by decide) (fun c36 => ?_) (fun c36 => ?_)
        · have h := h.1 c36
          refine lv_iconst (v := 0) hx hb d_Mod_collectFrom_128 (by decide) ?_
          refine lv_istore_n (lv' := [(3, .int 0), (0, .ref (V.2.2 31)), (1, .int x1), (2, .int x2)]) hx hb d_Mod_collectFrom_129 rfl hl (by decide) rfl (fun ls hl => ?_)
          refine lv_iconst (v := 0) hx hb d_Mod_collectFrom_130 (by decide) ?_
          refine lv_istore (lv' := [(4, .int 0), (3, .int 0), (0, .ref (V.2.2 31)), (1, .int x1), (2, .int x2)]) hx hb d_Mod_collectFrom_131 hl (by decide) rfl (fun ls hl => ?_)
          obtain ⟨n, h⟩ := h
          exact w_Mod_collectFrom_L133 C hlocks hr hK64 n _ _ _ _ _ _ _ _ h hI (lv_sub hl [2, 3, 4, 1, 0] rfl)
        · have h := h.2 c36
          refine lv_aload_n hx hb d_Mod_collectFrom_99 rfl (lv_at hl 0 rfl) ?_
          refine lv_aload_n hx hb d_Mod_collectFrom_100 rfl (lv_at hl 0 rfl) ?_
          refine x_get C hI (d := 31) (by decide) (xE31 V _) fd_Mod_28 rfl d_Mod_collectFrom_101 ?_
          refine lv_bipush (v := 15) hx hb d_Mod_collectFrom_104 (by decide) ?_
          refine lv_iload_n hx hb d_Mod_collectFrom_106 rfl (lv_at hl 2 rfl) ?_
          refine lv_imul hx hb d_Mod_collectFrom_107 ?_
          obtain ⟨i37, h⟩ := h
          refine x_iald C hI (d := 46) (by decide) (xE46 V) i37 d_Mod_collectFrom_108 ?_
          refine lv_aload_n hx hb d_Mod_collectFrom_109 rfl (lv_at hl 0 rfl) ?_
          refine x_get C hI (d := 31) (by decide) (xE31 V _) fd_Mod_31 rfl d_Mod_collectFrom_110 ?_
          refine lv_bipush (v := 15) hx hb d_Mod_collectFrom_113 (by decide) ?_
          refine lv_iload_n hx hb d_Mod_collectFrom_115 rfl (lv_at hl 2 rfl) ?_
          refine lv_imul hx hb d_Mod_collectFrom_116 ?_
          obtain ⟨i38, h⟩ := h
          refine x_iald C hI (d := 47) (by decide) (xE47 V) i38 d_Mod_collectFrom_117 ?_
          refine x_calli C hI hl.1 (d := 31) (As := [.int (σ23 46 (15 * x2).toNatClampNeg), .int (σ23 47 (15 * x2).toNatClampNeg)]) (rest := []) (by decide) (c_Mod_isLive h) (xE31 V _) rfl yw_Mod_isLive ml_Mod_104 rfl rfl ⟨Nat.le_of_ble_eq_true rfl, Nat.le_of_ble_eq_true rfl⟩ rfl rfl (Nat.le_of_ble_eq_true rfl) d_Mod_collectFrom_118 ⟨Nat.zero_le _, Nat.zero_le _⟩ (fun r40 σ39 H locs h hI => ?_)
          refine lv_if_ne (tgt := 128) hx hb d_Mod_collectFrom_121 (by decide) (fun c41 => ?_) (fun c41 => ?_)
          · have h := h.1 c41
            refine lv_iconst (v := 0) hx hb d_Mod_collectFrom_128 (by decide) ?_
            refine lv_istore_n (lv' := [(3, .int 0), (0, .ref (V.2.2 31)), (1, .int x1), (2, .int x2)]) hx hb d_Mod_collectFrom_129 rfl hl (by decide) rfl (fun ls hl => ?_)
            refine lv_iconst (v := 0) hx hb d_Mod_collectFrom_130 (by decide) ?_
            refine lv_istore (lv' := [(4, .int 0), (3, .int 0), (0, .ref (V.2.2 31)), (1, .int x1), (2, .int x2)]) hx hb d_Mod_collectFrom_131 hl (by decide) rfl (fun ls hl => ?_)
            obtain ⟨n, h⟩ := h
            exact w_Mod_collectFrom_L133 C hlocks hr hK64 n _ _ _ _ _ _ _ _ h hI (lv_sub hl [2, 3, 4, 1, 0] rfl)
          · have h := h.2 c41
            refine lv_iconst (v := 1) hx hb d_Mod_collectFrom_124 (by decide) ?_
            refine lv_goto (tgt := 129) hx hb d_Mod_collectFrom_125 (by decide) ?_
            refine lv_istore_n (lv' := [(3, .int 1), (0, .ref (V.2.2 31)), (1, .int x1), (2, .int x2)]) hx hb d_Mod_collectFrom_129 rfl hl (by decide) rfl (fun ls hl => ?_)
            refine lv_iconst (v := 0) hx hb d_Mod_collectFrom_130 (by decide) ?_
            refine lv_istore (lv' := [(4, .int 0), (3, .int 1), (0, .ref (V.2.2 31)), (1, .int x1), (2, .int x2)]) hx hb d_Mod_collectFrom_131 hl (by decide) rfl (fun ls hl => ?_)
            obtain ⟨n, h⟩ := h
            exact w_Mod_collectFrom_L133 C hlocks hr hK64 n _ _ _ _ _ _ _ _ h hI (lv_sub hl [2, 3, 4, 1, 0] rfl)
theorem w_Mod_collectFrom_L64 {p : Program} {l : Launch} {e : Env} {s : State} {m : MethodId} {args : Array Value} {below : List Frame} {meth : Method} {c : Code} {V : xV} (C : xC p s m args c cd_Mod_collectFrom 5 R_Mod V) (hlocks : meth.locks = false) (hr : meth.sig.returnType = (some .int)) {Q : Int32 → xS → Prop} : ∀ (n : Nat) (x1 : Int32) (x2 : Int32) (σ : xS) (H : Heap) (locs : List Loc) (ls : Array Slot), p_Mod_collectFrom_L64 Q n x1 x2 σ → xI V s.heap σ H locs → lv_has ls 5 [(0, .ref (V.2.2 31)), (1, .int x1), (2, .int x2)] → W p l e rm_Mod_collectFrom s m args below meth c H locs 0 0 (xZi below V args s Q) (F0 m 64 ls []) := by
  intro n
  induction n with
  | zero =>
    intro x1 x2 σ H locs ls h
    exact False.elim h
  | succ n ih =>
    intro x1 x2 σ H locs ls h hI hl
    exact s_Mod_collectFrom_L64 C hlocks hr (K64 := p_Mod_collectFrom_L64 Q n) (fun x1 x2 σ H locs ls h hI hl => ih x1 x2 σ H locs ls h hI hl) h hI hl
set_option maxRecDepth 100000 in
set_option maxHeartbeats 4000000 in
theorem s_Mod_collectFrom_L16 {p : Program} {l : Launch} {e : Env} {s : State} {m : MethodId} {args : Array Value} {below : List Frame} {meth : Method} {c : Code} {V : xV} (C : xC p s m args c cd_Mod_collectFrom 5 R_Mod V) (hlocks : meth.locks = false) (hr : meth.sig.returnType = (some .int)) {Q : Int32 → xS → Prop} {K16 : Int32 → Int32 → xS → Prop} (hK16 : ∀ (x1 : Int32) (x2 : Int32) (σ : xS) (H : Heap) (locs : List Loc) (ls : Array Slot), K16 x1 x2 σ → xI V s.heap σ H locs → lv_has ls 5 [(0, .ref (V.2.2 31)), (1, .int x1), (2, .int x2)] → W p l e rm_Mod_collectFrom s m args below meth c H locs 0 0 (xZi below V args s Q) (F0 m 16 ls [])) {x1 x2 : Int32} {σ : xS} {H : Heap} {locs : List Loc} {ls : Array Slot} (h : b_Mod_collectFrom_L16 K16 Q x1 x2 σ) (hI : xI V s.heap σ H locs) (hl : lv_has ls 5 [(0, .ref (V.2.2 31)), (1, .int x1), (2, .int x2)]) : W p l e rm_Mod_collectFrom s m args below meth c H locs 0 0 (xZi below V args s Q) (F0 m 16 ls []) := by
  have hx := C.1
  have hb := C.2.1
  unfold b_Mod_collectFrom_L16 at h
  refine lv_iload_n hx hb d_Mod_collectFrom_16 rfl (lv_at hl 2 rfl) ?_
  refine lv_iconst (v := (-1)) hx hb d_Mod_collectFrom_17 (by decide) ?_
  refine lv_icmp_eq (tgt := 57) hx hb d_Mod_collectFrom_18 (by decide) (fun c5 => ?_) (fun c5 => ?_)
  · have h := h.1 c5
    refine lv_aload_n hx hb d_Mod_collectFrom_57 rfl (lv_at hl 0 rfl) ?_
    refine lv_iload_n hx hb d_Mod_collectFrom_58 rfl (lv_at hl 1 rfl) ?_
    refine x_callv C hI hl.1 (d := 31) (As := [.int x1]) (rest := []) (by decide) (c_Mod_findLive h) (xE31 V _) rfl yw_Mod_findLive ml_Mod_118 rfl rfl ⟨Nat.le_of_ble_eq_true rfl, Nat.le_of_ble_eq_true rfl⟩ rfl rfl (Nat.le_of_ble_eq_true rfl) d_Mod_collectFrom_59 ⟨Nat.zero_le _, Nat.zero_le _⟩ (fun σ6 H locs h hI => ?_)
    refine lv_iconst (v := 0) hx hb d_Mod_collectFrom_62 (by decide) ?_
    refine lv_istore_n (lv' := [(2, .int 0), (0, .ref (V.2.2 31)), (1, .int x1)]) hx hb d_Mod_collectFrom_63 rfl hl (by decide) rfl (fun ls hl => ?_)
    obtain ⟨n, h⟩ := h
    exact w_Mod_collectFrom_L64 C hlocks hr n _ _ _ _ _ _ h hI (lv_sub hl [1, 2, 0] rfl)
  · have h := h.2 c5
    refine lv_aload_n hx hb d_Mod_collectFrom_21 rfl (lv_at hl 0 rfl) ?_
    refine x_get C hI (d := 31) (by decide) (xE31 V _) fd_Mod_25 rfl d_Mod_collectFrom_22 ?_
    refine lv_iload_n hx hb d_Mod_collectFrom_25 rfl (lv_at hl 2 rfl) ?_
    refine lv_iconst (v := 0) hx hb d_Mod_collectFrom_26 (by decide) ?_
    obtain ⟨i42, h⟩ := h
    refine x_iast C hI (d := 45) (by decide) (xE45 V) i42 d_Mod_collectFrom_27 (fun H locs hI => ?_)
    refine lv_aload_n hx hb d_Mod_collectFrom_28 rfl (lv_at hl 0 rfl) ?_
    refine x_get C hI (d := 31) (by decide) (xE31 V _) fd_Mod_59 rfl d_Mod_collectFrom_29 ?_
    refine lv_aload_n hx hb d_Mod_collectFrom_32 rfl (lv_at hl 0 rfl) ?_
    refine x_get C hI (d := 31) (by decide) (xE31 V _) fd_Mod_97 rfl d_Mod_collectFrom_33 ?_
    refine lv_iload_n hx hb d_Mod_collectFrom_36 rfl (lv_at hl 2 rfl) ?_
    obtain ⟨i43, h⟩ := h
    refine x_iast C hI (d := 56) (by decide) (xE56 V) i43 d_Mod_collectFrom_37 (fun H locs hI => ?_)
    refine lv_aload_n hx hb d_Mod_collectFrom_38 rfl (lv_at hl 0 rfl) ?_
    refine lv_dup hx hb d_Mod_collectFrom_39 rfl ?_
    refine x_get C hI (d := 31) (by decide) (xE31 V _) fd_Mod_97 rfl d_Mod_collectFrom_40 ?_
    refine lv_iconst (v := 1) hx hb d_Mod_collectFrom_43 (by decide) ?_
    refine lv_iadd hx hb d_Mod_collectFrom_44 ?_
    refine x_put C hI (d := 31) (by decide) (xE31 V _) (xP_31_19 V _ _) fw_Mod_97 (Nat.le_of_ble_eq_true rfl) d_Mod_collectFrom_45 (fun H locs hI => ?_)
    refine lv_aload_n hx hb d_Mod_collectFrom_48 rfl (lv_at hl 0 rfl) ?_
    refine lv_iload_n hx hb d_Mod_collectFrom_49 rfl (lv_at hl 1 rfl) ?_
    refine x_calli C hI hl.1 (d := 31) (As := [.int x1]) (rest := []) (by decide) (c_Mod_nextDue h) (xE31 V _) rfl yw_Mod_nextDue ml_Mod_124 rfl rfl ⟨Nat.le_of_ble_eq_true rfl, Nat.le_of_ble_eq_true rfl⟩ rfl rfl (Nat.le_of_ble_eq_true rfl) d_Mod_collectFrom_50 ⟨Nat.zero_le _, Nat.zero_le _⟩ (fun r45 σ44 H locs h hI => ?_)
    refine lv_istore_n (lv' := [(2, .int r45), (0, .ref (V.2.2 31)), (1, .int x1)]) hx hb d_Mod_collectFrom_53 rfl hl (by decide) rfl (fun ls hl => ?_)
    refine lv_goto (tgt := 16) hx hb d_Mod_collectFrom_54 (by decide) ?_
    exact hK16 _ _ _ _ _ _ h hI (lv_sub hl [1, 2, 0] rfl)
theorem w_Mod_collectFrom_L16 {p : Program} {l : Launch} {e : Env} {s : State} {m : MethodId} {args : Array Value} {below : List Frame} {meth : Method} {c : Code} {V : xV} (C : xC p s m args c cd_Mod_collectFrom 5 R_Mod V) (hlocks : meth.locks = false) (hr : meth.sig.returnType = (some .int)) {Q : Int32 → xS → Prop} : ∀ (n : Nat) (x1 : Int32) (x2 : Int32) (σ : xS) (H : Heap) (locs : List Loc) (ls : Array Slot), p_Mod_collectFrom_L16 Q n x1 x2 σ → xI V s.heap σ H locs → lv_has ls 5 [(0, .ref (V.2.2 31)), (1, .int x1), (2, .int x2)] → W p l e rm_Mod_collectFrom s m args below meth c H locs 0 0 (xZi below V args s Q) (F0 m 16 ls []) := by
  intro n
  induction n with
  | zero =>
    intro x1 x2 σ H locs ls h
    exact False.elim h
  | succ n ih =>
    intro x1 x2 σ H locs ls h hI hl
    exact s_Mod_collectFrom_L16 C hlocks hr (K16 := p_Mod_collectFrom_L16 Q n) (fun x1 x2 σ H locs ls h hI hl => ih x1 x2 σ H locs ls h hI hl) h hI hl
set_option maxRecDepth 100000 in
set_option maxHeartbeats 4000000 in
theorem c_Mod_collectFrom {l : Launch} {V : xV} {σ : xS} {x1 : Int32} {Q : Int32 → xS → Prop} (h : p_Mod_collectFrom x1 σ Q) : xMi l y_Mod_collectFrom (.code y_Mod_collectFrom cd_Mod_collectFrom 5 (some .int) :: xG) rm_Mod_collectFrom V [.ref (V.2.2 31), .int x1] σ Q := by
  refine x_begini (by decide) (Nat.le_of_ble_eq_true rfl) (fun p e s m below meth c ls C hlocks hr hI hl => ?_)
  have C : xC p s m _ c cd_Mod_collectFrom 5 R_Mod V := C
  have hx := C.1
  have hb := C.2.1
  have hl : lv_has ls 5 [(0, .ref (V.2.2 31)), (1, .int x1)] := hl
  unfold p_Mod_collectFrom at h
  refine lv_aload_n hx hb d_Mod_collectFrom_0 rfl (lv_at hl 0 rfl) ?_
  refine lv_iload_n hx hb d_Mod_collectFrom_1 rfl (lv_at hl 1 rfl) ?_
  refine x_callv C hI hl.1 (d := 31) (As := [.int x1]) (rest := []) (by decide) (c_Mod_findLive h) (xE31 V _) rfl yw_Mod_findLive ml_Mod_118 rfl rfl ⟨Nat.le_of_ble_eq_true rfl, Nat.le_of_ble_eq_true rfl⟩ rfl rfl (Nat.le_of_ble_eq_true rfl) d_Mod_collectFrom_2 ⟨Nat.zero_le _, Nat.zero_le _⟩ (fun σ1 H locs h hI => ?_)
  refine lv_aload_n hx hb d_Mod_collectFrom_5 rfl (lv_at hl 0 rfl) ?_
  refine lv_iload_n hx hb d_Mod_collectFrom_6 rfl (lv_at hl 1 rfl) ?_
  refine x_callv C hI hl.1 (d := 31) (As := [.int x1]) (rest := []) (by decide) (c_Mod_forget h) (xE31 V _) rfl yw_Mod_forget ml_Mod_121 rfl rfl ⟨Nat.le_of_ble_eq_true rfl, Nat.le_of_ble_eq_true rfl⟩ rfl rfl (Nat.le_of_ble_eq_true rfl) d_Mod_collectFrom_7 ⟨Nat.zero_le _, Nat.zero_le _⟩ (fun σ2 H locs h hI => ?_)
  refine lv_aload_n hx hb d_Mod_collectFrom_10 rfl (lv_at hl 0 rfl) ?_
  refine lv_iload_n hx hb d_Mod_collectFrom_11 rfl (lv_at hl 1 rfl) ?_
  refine x_calli C hI hl.1 (d := 31) (As := [.int x1]) (rest := []) (by decide) (c_Mod_nextDue h) (xE31 V _) rfl yw_Mod_nextDue ml_Mod_124 rfl rfl ⟨Nat.le_of_ble_eq_true rfl, Nat.le_of_ble_eq_true rfl⟩ rfl rfl (Nat.le_of_ble_eq_true rfl) d_Mod_collectFrom_12 ⟨Nat.zero_le _, Nat.zero_le _⟩ (fun r4 σ3 H locs h hI => ?_)
  refine lv_istore_n (lv' := [(2, .int r4), (0, .ref (V.2.2 31)), (1, .int x1)]) hx hb d_Mod_collectFrom_15 rfl hl (by decide) rfl (fun ls hl => ?_)
  obtain ⟨n, h⟩ := h
  exact w_Mod_collectFrom_L16 C hlocks hr n _ _ _ _ _ _ h hI (lv_sub hl [1, 2, 0] rfl)
theorem yw_Mod_collectFrom : xY y_Mod_collectFrom cd_Mod_collectFrom 5 (some .int) 1 := ⟨xG_mem 1112 (by decide +kernel) (by decide +kernel), xG_mem 34 (by decide +kernel) (by decide +kernel), xG_mem 65 (by decide +kernel) (by decide +kernel), xG_mem 1113 (by decide +kernel) (by decide +kernel), by decide, by decide, by decide +kernel⟩
theorem ml_Mod_148 : Cond.methodLink R_Mod 148 y_Mod_collectFrom ∈ xG := xG_mem 1110 (by decide +kernel) (by decide +kernel)
def p_Mod_collect (x1 : Int32) (σ : xS) (Q : Int32 → xS → Prop) : Prop :=
  p_Mod_isRegion x1 σ (fun r2 σ1 => p_Mod_goes r2 1 σ1 (fun r4 σ3 => ((r4 = 0 → Q 0 σ3) ∧ (¬ r4 = 0 → p_Mod_collectFrom x1 σ3 (fun r7 σ6 => Q r7 σ6)))))
abbrev rm_Mod_collect : Room := { frames := 4, cells := 0, slots := 0, locals := 93 }
theorem d_Mod_collect_0 : decode cd_Mod_collect 0 = .ok (.aload_n 0, 1) := by decide +kernel
theorem d_Mod_collect_1 : decode cd_Mod_collect 1 = .ok (.aload_n 0, 1) := by decide +kernel
theorem d_Mod_collect_2 : decode cd_Mod_collect 2 = .ok (.iload_n 1, 1) := by decide +kernel
theorem d_Mod_collect_3 : decode cd_Mod_collect 3 = .ok (.invokevirtual 140, 3) := by decide +kernel
theorem d_Mod_collect_6 : decode cd_Mod_collect 6 = .ok (.iconst 1, 1) := by decide +kernel
theorem d_Mod_collect_7 : decode cd_Mod_collect 7 = .ok (.invokevirtual 144, 3) := by decide +kernel
theorem d_Mod_collect_10 : decode cd_Mod_collect 10 = .ok (.ifCond .eq 11, 3) := by decide +kernel
theorem d_Mod_collect_13 : decode cd_Mod_collect 13 = .ok (.aload_n 0, 1) := by decide +kernel
theorem d_Mod_collect_14 : decode cd_Mod_collect 14 = .ok (.iload_n 1, 1) := by decide +kernel
theorem d_Mod_collect_15 : decode cd_Mod_collect 15 = .ok (.invokevirtual 148, 3) := by decide +kernel
theorem d_Mod_collect_18 : decode cd_Mod_collect 18 = .ok (.goto 4, 3) := by decide +kernel
theorem d_Mod_collect_21 : decode cd_Mod_collect 21 = .ok (.iconst 0, 1) := by decide +kernel
theorem d_Mod_collect_22 : decode cd_Mod_collect 22 = .ok (.ireturn, 1) := by decide +kernel
set_option maxRecDepth 100000 in
set_option maxHeartbeats 4000000 in
theorem c_Mod_collect {l : Launch} {V : xV} {σ : xS} {x1 : Int32} {Q : Int32 → xS → Prop} (h : p_Mod_collect x1 σ Q) : xMi l y_Mod_collect (.code y_Mod_collect cd_Mod_collect 2 (some .int) :: xG) rm_Mod_collect V [.ref (V.2.2 31), .int x1] σ Q := by
  refine x_begini (by decide) (Nat.le_of_ble_eq_true rfl) (fun p e s m below meth c ls C hlocks hr hI hl => ?_)
  have C : xC p s m _ c cd_Mod_collect 2 R_Mod V := C
  have hx := C.1
  have hb := C.2.1
  have hl : lv_has ls 2 [(0, .ref (V.2.2 31)), (1, .int x1)] := hl
  unfold p_Mod_collect at h
  refine lv_aload_n hx hb d_Mod_collect_0 rfl (lv_at hl 0 rfl) ?_
  refine lv_aload_n hx hb d_Mod_collect_1 rfl (lv_at hl 0 rfl) ?_
  refine lv_iload_n hx hb d_Mod_collect_2 rfl (lv_at hl 1 rfl) ?_
  refine x_calli C hI hl.1 (d := 31) (As := [.int x1]) (rest := [.ref (V.2.2 31)]) (by decide) (c_Mod_isRegion h) (xE31 V _) rfl yw_Mod_isRegion ml_Mod_140 rfl rfl ⟨Nat.le_of_ble_eq_true rfl, Nat.le_of_ble_eq_true rfl⟩ rfl rfl (Nat.le_of_ble_eq_true rfl) d_Mod_collect_3 ⟨Nat.zero_le _, Nat.zero_le _⟩ (fun r2 σ1 H locs h hI => ?_)
  refine lv_iconst (v := 1) hx hb d_Mod_collect_6 (by decide) ?_
  refine x_calli C hI hl.1 (d := 31) (As := [.int r2, .int 1]) (rest := []) (by decide) (c_Mod_goes h) (xE31 V _) rfl yw_Mod_goes ml_Mod_144 rfl rfl ⟨Nat.le_of_ble_eq_true rfl, Nat.le_of_ble_eq_true rfl⟩ rfl rfl (Nat.le_of_ble_eq_true rfl) d_Mod_collect_7 ⟨Nat.zero_le _, Nat.zero_le _⟩ (fun r4 σ3 H locs h hI => ?_)
  refine lv_if_eq (tgt := 21) hx hb d_Mod_collect_10 (by decide) (fun c5 => ?_) (fun c5 => ?_)
  · have h := h.1 c5
    refine lv_iconst (v := 0) hx hb d_Mod_collect_21 (by decide) ?_
    exact x_iret C hlocks hr hI h d_Mod_collect_22
  · have h := h.2 c5
    refine lv_aload_n hx hb d_Mod_collect_13 rfl (lv_at hl 0 rfl) ?_
    refine lv_iload_n hx hb d_Mod_collect_14 rfl (lv_at hl 1 rfl) ?_
    refine x_calli C hI hl.1 (d := 31) (As := [.int x1]) (rest := []) (by decide) (c_Mod_collectFrom h) (xE31 V _) rfl yw_Mod_collectFrom ml_Mod_148 rfl rfl ⟨Nat.le_of_ble_eq_true rfl, Nat.le_of_ble_eq_true rfl⟩ rfl rfl (Nat.le_of_ble_eq_true rfl) d_Mod_collect_15 ⟨Nat.zero_le _, Nat.zero_le _⟩ (fun r7 σ6 H locs h hI => ?_)
    refine lv_goto (tgt := 22) hx hb d_Mod_collect_18 (by decide) ?_
    exact x_iret C hlocks hr hI h d_Mod_collect_22
def y_Mod_clear : MethodName := ⟨"RegionPoolModel", "clear", "(I)V"⟩
abbrev cd_Mod_clear : ByteArray := prog_12_method_24_code
def y_Mod_isRoot : MethodName := ⟨"RegionPoolModel", "isRoot", "(I)Z"⟩
abbrev cd_Mod_isRoot : ByteArray := prog_12_method_4_code
def p_Mod_isRoot (x0 : Int32) (σ : xS) (Q : Int32 → xS → Prop) : Prop :=
  ((x0 < 0 → Q 0 σ) ∧ (¬ x0 < 0 → ((16 ≤ x0 → Q 0 σ) ∧ (¬ 16 ≤ x0 → Q 1 σ))))
abbrev rm_Mod_isRoot : Room := { frames := 0, cells := 0, slots := 0, locals := 0 }
theorem d_Mod_isRoot_0 : decode cd_Mod_isRoot 0 = .ok (.iload_n 0, 1) := by decide +kernel
theorem d_Mod_isRoot_1 : decode cd_Mod_isRoot 1 = .ok (.ifCond .lt 13, 3) := by decide +kernel
theorem d_Mod_isRoot_4 : decode cd_Mod_isRoot 4 = .ok (.iload_n 0, 1) := by decide +kernel
theorem d_Mod_isRoot_5 : decode cd_Mod_isRoot 5 = .ok (.bipush 16, 2) := by decide +kernel
theorem d_Mod_isRoot_7 : decode cd_Mod_isRoot 7 = .ok (.if_icmp .ge 7, 3) := by decide +kernel
theorem d_Mod_isRoot_10 : decode cd_Mod_isRoot 10 = .ok (.iconst 1, 1) := by decide +kernel
theorem d_Mod_isRoot_11 : decode cd_Mod_isRoot 11 = .ok (.goto 4, 3) := by decide +kernel
theorem d_Mod_isRoot_14 : decode cd_Mod_isRoot 14 = .ok (.iconst 0, 1) := by decide +kernel
theorem d_Mod_isRoot_15 : decode cd_Mod_isRoot 15 = .ok (.ireturn, 1) := by decide +kernel
set_option maxRecDepth 100000 in
set_option maxHeartbeats 4000000 in
theorem c_Mod_isRoot {l : Launch} {V : xV} {σ : xS} {x0 : Int32} {Q : Int32 → xS → Prop} (h : p_Mod_isRoot x0 σ Q) : xMi l y_Mod_isRoot (.code y_Mod_isRoot cd_Mod_isRoot 1 (some .boolean) :: xG) rm_Mod_isRoot V [.int x0] σ Q := by
  refine x_begini (by decide) (Nat.le_of_ble_eq_true rfl) (fun p e s m below meth c ls C hlocks hr hI hl => ?_)
  have C : xC p s m _ c cd_Mod_isRoot 1 R_Mod V := C
  have hx := C.1
  have hb := C.2.1
  have hl : lv_has ls 1 [(0, .int x0)] := hl
  unfold p_Mod_isRoot at h
  refine lv_iload_n hx hb d_Mod_isRoot_0 rfl (lv_at hl 0 rfl) ?_
  refine lv_if_lt (tgt := 14) hx hb d_Mod_isRoot_1 (by decide) (fun c1 => ?_) (fun c1 => ?_)
  · have h := h.1 c1
    refine lv_iconst (v := 0) hx hb d_Mod_isRoot_14 (by decide) ?_
    exact x_zret C hlocks hr hI ⟨rfl, h⟩ d_Mod_isRoot_15
  · have h := h.2 c1
    refine lv_iload_n hx hb d_Mod_isRoot_4 rfl (lv_at hl 0 rfl) ?_
    refine lv_bipush (v := 16) hx hb d_Mod_isRoot_5 (by decide) ?_
    refine lv_icmp_ge (tgt := 14) hx hb d_Mod_isRoot_7 (by decide) (fun c2 => ?_) (fun c2 => ?_)
    · have h := h.1 c2
      refine lv_iconst (v := 0) hx hb d_Mod_isRoot_14 (by decide) ?_
      exact x_zret C hlocks hr hI ⟨rfl, h⟩ d_Mod_isRoot_15
    · have h := h.2 c2
      refine lv_iconst (v := 1) hx hb d_Mod_isRoot_10 (by decide) ?_
      refine lv_goto (tgt := 15) hx hb d_Mod_isRoot_11 (by decide) ?_
      exact x_zret C hlocks hr hI ⟨rfl, h⟩ d_Mod_isRoot_15
theorem yw_Mod_isRoot : xYs y_Mod_isRoot cd_Mod_isRoot 1 (some .boolean) 1 := ⟨xG_mem 1151 (by decide +kernel) (by decide +kernel), xG_mem 65 (by decide +kernel) (by decide +kernel), xG_mem 1152 (by decide +kernel) (by decide +kernel), by decide, by decide, by decide +kernel⟩
theorem ml_Mod_151 : Cond.methodLink R_Mod 151 y_Mod_isRoot ∈ xG := xG_mem 1150 (by decide +kernel) (by decide +kernel)
def p_Mod_clear (x1 : Int32) (σ : xS) (Q : xS → Prop) : Prop :=
  p_Mod_isRoot x1 σ (fun r2 σ1 => p_Mod_goes r2 1 σ1 (fun r4 σ3 => ((r4 = 0 → Q σ3) ∧ (¬ r4 = 0 → (vp_in x1 16 ∧ (vp_in x1 16 ∧ Q (xu (xu σ3 54 x1.toNatClampNeg 0) 55 x1.toNatClampNeg 0)))))))
abbrev rm_Mod_clear : Room := { frames := 1, cells := 0, slots := 0, locals := 22 }
theorem d_Mod_clear_0 : decode cd_Mod_clear 0 = .ok (.aload_n 0, 1) := by decide +kernel
theorem d_Mod_clear_1 : decode cd_Mod_clear 1 = .ok (.iload_n 1, 1) := by decide +kernel
theorem d_Mod_clear_2 : decode cd_Mod_clear 2 = .ok (.invokestatic 151, 3) := by decide +kernel
theorem d_Mod_clear_5 : decode cd_Mod_clear 5 = .ok (.iconst 1, 1) := by decide +kernel
theorem d_Mod_clear_6 : decode cd_Mod_clear 6 = .ok (.invokevirtual 144, 3) := by decide +kernel
theorem d_Mod_clear_9 : decode cd_Mod_clear 9 = .ok (.ifCond .eq 17, 3) := by decide +kernel
theorem d_Mod_clear_12 : decode cd_Mod_clear 12 = .ok (.aload_n 0, 1) := by decide +kernel
theorem d_Mod_clear_13 : decode cd_Mod_clear 13 = .ok (.getfield 53, 3) := by decide +kernel
theorem d_Mod_clear_16 : decode cd_Mod_clear 16 = .ok (.iload_n 1, 1) := by decide +kernel
theorem d_Mod_clear_17 : decode cd_Mod_clear 17 = .ok (.iconst 0, 1) := by decide +kernel
theorem d_Mod_clear_18 : decode cd_Mod_clear 18 = .ok (.iastore, 1) := by decide +kernel
theorem d_Mod_clear_19 : decode cd_Mod_clear 19 = .ok (.aload_n 0, 1) := by decide +kernel
theorem d_Mod_clear_20 : decode cd_Mod_clear 20 = .ok (.getfield 56, 3) := by decide +kernel
theorem d_Mod_clear_23 : decode cd_Mod_clear 23 = .ok (.iload_n 1, 1) := by decide +kernel
theorem d_Mod_clear_24 : decode cd_Mod_clear 24 = .ok (.iconst 0, 1) := by decide +kernel
theorem d_Mod_clear_25 : decode cd_Mod_clear 25 = .ok (.iastore, 1) := by decide +kernel
theorem d_Mod_clear_26 : decode cd_Mod_clear 26 = .ok (.return_, 1) := by decide +kernel
set_option maxRecDepth 100000 in
set_option maxHeartbeats 4000000 in
theorem c_Mod_clear {l : Launch} {V : xV} {σ : xS} {x1 : Int32} {Q : xS → Prop} (h : p_Mod_clear x1 σ Q) : xMv l y_Mod_clear (.code y_Mod_clear cd_Mod_clear 2 none :: xG) rm_Mod_clear V [.ref (V.2.2 31), .int x1] σ Q := by
  refine x_beginv (by decide) (Nat.le_of_ble_eq_true rfl) (fun p e s m below meth c ls C hlocks hr hI hl => ?_)
  have C : xC p s m _ c cd_Mod_clear 2 R_Mod V := C
  have hx := C.1
  have hb := C.2.1
  have hl : lv_has ls 2 [(0, .ref (V.2.2 31)), (1, .int x1)] := hl
  unfold p_Mod_clear at h
  refine lv_aload_n hx hb d_Mod_clear_0 rfl (lv_at hl 0 rfl) ?_
  refine lv_iload_n hx hb d_Mod_clear_1 rfl (lv_at hl 1 rfl) ?_
  refine x_calliS C hI hl.1 (As := [.int x1]) (rest := [.ref (V.2.2 31)]) (c_Mod_isRoot h) yw_Mod_isRoot ml_Mod_151 rfl rfl ⟨Nat.le_of_ble_eq_true rfl, Nat.le_of_ble_eq_true rfl⟩ rfl rfl (Nat.le_of_ble_eq_true rfl) d_Mod_clear_2 ⟨Nat.zero_le _, Nat.zero_le _⟩ (fun r2 σ1 H locs h hI => ?_)
  refine lv_iconst (v := 1) hx hb d_Mod_clear_5 (by decide) ?_
  refine x_calli C hI hl.1 (d := 31) (As := [.int r2, .int 1]) (rest := []) (by decide) (c_Mod_goes h) (xE31 V _) rfl yw_Mod_goes ml_Mod_144 rfl rfl ⟨Nat.le_of_ble_eq_true rfl, Nat.le_of_ble_eq_true rfl⟩ rfl rfl (Nat.le_of_ble_eq_true rfl) d_Mod_clear_6 ⟨Nat.zero_le _, Nat.zero_le _⟩ (fun r4 σ3 H locs h hI => ?_)
  refine lv_if_eq (tgt := 26) hx hb d_Mod_clear_9 (by decide) (fun c5 => ?_) (fun c5 => ?_)
  · have h := h.1 c5
    exact x_vret C hlocks hr hI h d_Mod_clear_26
  · have h := h.2 c5
    refine lv_aload_n hx hb d_Mod_clear_12 rfl (lv_at hl 0 rfl) ?_
    refine x_get C hI (d := 31) (by decide) (xE31 V _) fd_Mod_53 rfl d_Mod_clear_13 ?_
    refine lv_iload_n hx hb d_Mod_clear_16 rfl (lv_at hl 1 rfl) ?_
    refine lv_iconst (v := 0) hx hb d_Mod_clear_17 (by decide) ?_
    obtain ⟨i6, h⟩ := h
    refine x_iast C hI (d := 54) (by decide) (xE54 V) i6 d_Mod_clear_18 (fun H locs hI => ?_)
    refine lv_aload_n hx hb d_Mod_clear_19 rfl (lv_at hl 0 rfl) ?_
    refine x_get C hI (d := 31) (by decide) (xE31 V _) fd_Mod_56 rfl d_Mod_clear_20 ?_
    refine lv_iload_n hx hb d_Mod_clear_23 rfl (lv_at hl 1 rfl) ?_
    refine lv_iconst (v := 0) hx hb d_Mod_clear_24 (by decide) ?_
    obtain ⟨i7, h⟩ := h
    refine x_iast C hI (d := 55) (by decide) (xE55 V) i7 d_Mod_clear_25 (fun H locs hI => ?_)
    exact x_vret C hlocks hr hI h d_Mod_clear_26
def y_Mod_number : MethodName := ⟨"RegionPoolModel", "number", "(II)V"⟩
abbrev cd_Mod_number : ByteArray := prog_12_method_25_code
def p_Mod_number (x1 x2 : Int32) (σ : xS) (Q : xS → Prop) : Prop :=
  p_Mod_isRoot x1 σ (fun r2 σ1 => p_Mod_goes r2 1 σ1 (fun r4 σ3 => ((r4 = 0 → Q σ3) ∧ (¬ r4 = 0 → (vp_in x1 16 ∧ (vp_in x1 16 ∧ Q (xu (xu σ3 54 x1.toNatClampNeg 1) 55 x1.toNatClampNeg x2)))))))
abbrev rm_Mod_number : Room := { frames := 1, cells := 0, slots := 0, locals := 22 }
theorem d_Mod_number_0 : decode cd_Mod_number 0 = .ok (.aload_n 0, 1) := by decide +kernel
theorem d_Mod_number_1 : decode cd_Mod_number 1 = .ok (.iload_n 1, 1) := by decide +kernel
theorem d_Mod_number_2 : decode cd_Mod_number 2 = .ok (.invokestatic 151, 3) := by decide +kernel
theorem d_Mod_number_5 : decode cd_Mod_number 5 = .ok (.iconst 1, 1) := by decide +kernel
theorem d_Mod_number_6 : decode cd_Mod_number 6 = .ok (.invokevirtual 144, 3) := by decide +kernel
theorem d_Mod_number_9 : decode cd_Mod_number 9 = .ok (.ifCond .eq 17, 3) := by decide +kernel
theorem d_Mod_number_12 : decode cd_Mod_number 12 = .ok (.aload_n 0, 1) := by decide +kernel
theorem d_Mod_number_13 : decode cd_Mod_number 13 = .ok (.getfield 53, 3) := by decide +kernel
theorem d_Mod_number_16 : decode cd_Mod_number 16 = .ok (.iload_n 1, 1) := by decide +kernel
theorem d_Mod_number_17 : decode cd_Mod_number 17 = .ok (.iconst 1, 1) := by decide +kernel
theorem d_Mod_number_18 : decode cd_Mod_number 18 = .ok (.iastore, 1) := by decide +kernel
theorem d_Mod_number_19 : decode cd_Mod_number 19 = .ok (.aload_n 0, 1) := by decide +kernel
theorem d_Mod_number_20 : decode cd_Mod_number 20 = .ok (.getfield 56, 3) := by decide +kernel
theorem d_Mod_number_23 : decode cd_Mod_number 23 = .ok (.iload_n 1, 1) := by decide +kernel
theorem d_Mod_number_24 : decode cd_Mod_number 24 = .ok (.iload_n 2, 1) := by decide +kernel
theorem d_Mod_number_25 : decode cd_Mod_number 25 = .ok (.iastore, 1) := by decide +kernel
theorem d_Mod_number_26 : decode cd_Mod_number 26 = .ok (.return_, 1) := by decide +kernel
set_option maxRecDepth 100000 in
set_option maxHeartbeats 4000000 in
theorem c_Mod_number {l : Launch} {V : xV} {σ : xS} {x1 x2 : Int32} {Q : xS → Prop} (h : p_Mod_number x1 x2 σ Q) : xMv l y_Mod_number (.code y_Mod_number cd_Mod_number 3 none :: xG) rm_Mod_number V [.ref (V.2.2 31), .int x1, .int x2] σ Q := by
  refine x_beginv (by decide) (Nat.le_of_ble_eq_true rfl) (fun p e s m below meth c ls C hlocks hr hI hl => ?_)
  have C : xC p s m _ c cd_Mod_number 3 R_Mod V := C
  have hx := C.1
  have hb := C.2.1
  have hl : lv_has ls 3 [(0, .ref (V.2.2 31)), (1, .int x1), (2, .int x2)] := hl
  unfold p_Mod_number at h
  refine lv_aload_n hx hb d_Mod_number_0 rfl (lv_at hl 0 rfl) ?_
  refine lv_iload_n hx hb d_Mod_number_1 rfl (lv_at hl 1 rfl) ?_
  refine x_calliS C hI hl.1 (As := [.int x1]) (rest := [.ref (V.2.2 31)]) (c_Mod_isRoot h) yw_Mod_isRoot ml_Mod_151 rfl rfl ⟨Nat.le_of_ble_eq_true rfl, Nat.le_of_ble_eq_true rfl⟩ rfl rfl (Nat.le_of_ble_eq_true rfl) d_Mod_number_2 ⟨Nat.zero_le _, Nat.zero_le _⟩ (fun r2 σ1 H locs h hI => ?_)
  refine lv_iconst (v := 1) hx hb d_Mod_number_5 (by decide) ?_
  refine x_calli C hI hl.1 (d := 31) (As := [.int r2, .int 1]) (rest := []) (by decide) (c_Mod_goes h) (xE31 V _) rfl yw_Mod_goes ml_Mod_144 rfl rfl ⟨Nat.le_of_ble_eq_true rfl, Nat.le_of_ble_eq_true rfl⟩ rfl rfl (Nat.le_of_ble_eq_true rfl) d_Mod_number_6 ⟨Nat.zero_le _, Nat.zero_le _⟩ (fun r4 σ3 H locs h hI => ?_)
  refine lv_if_eq (tgt := 26) hx hb d_Mod_number_9 (by decide) (fun c5 => ?_) (fun c5 => ?_)
  · have h := h.1 c5
    exact x_vret C hlocks hr hI h d_Mod_number_26
  · have h := h.2 c5
    refine lv_aload_n hx hb d_Mod_number_12 rfl (lv_at hl 0 rfl) ?_
    refine x_get C hI (d := 31) (by decide) (xE31 V _) fd_Mod_53 rfl d_Mod_number_13 ?_
    refine lv_iload_n hx hb d_Mod_number_16 rfl (lv_at hl 1 rfl) ?_
    refine lv_iconst (v := 1) hx hb d_Mod_number_17 (by decide) ?_
    obtain ⟨i6, h⟩ := h
    refine x_iast C hI (d := 54) (by decide) (xE54 V) i6 d_Mod_number_18 (fun H locs hI => ?_)
    refine lv_aload_n hx hb d_Mod_number_19 rfl (lv_at hl 0 rfl) ?_
    refine x_get C hI (d := 31) (by decide) (xE31 V _) fd_Mod_56 rfl d_Mod_number_20 ?_
    refine lv_iload_n hx hb d_Mod_number_23 rfl (lv_at hl 1 rfl) ?_
    refine lv_iload_n hx hb d_Mod_number_24 rfl (lv_at hl 2 rfl) ?_
    obtain ⟨i7, h⟩ := h
    refine x_iast C hI (d := 55) (by decide) (xE55 V) i7 d_Mod_number_25 (fun H locs hI => ?_)
    exact x_vret C hlocks hr hI h d_Mod_number_26
def y_Mod_move : MethodName := ⟨"RegionPoolModel", "move", "(II)V"⟩
abbrev cd_Mod_move : ByteArray := prog_12_method_26_code
def p_Mod_move_J20 (Q : xS → Prop) (x1 x2 : Int32) (y0 : Int32) (σ : xS) : Prop :=
  p_Mod_goes y0 1 σ (fun r5 σ4 => ((r5 = 0 → Q σ4) ∧ (¬ r5 = 0 → (vp_in x2 16 ∧ (vp_in x1 16 ∧ (vp_in x2 16 ∧ (vp_in x1 16 ∧ Q (xu (xu σ4 54 x1.toNatClampNeg (σ4 54 x2.toNatClampNeg)) 55 x1.toNatClampNeg ((xu σ4 54 x1.toNatClampNeg (σ4 54 x2.toNatClampNeg)) 55 x2.toNatClampNeg)))))))))
def p_Mod_move_J19 (Q : xS → Prop) (x1 x2 : Int32) (σ : xS) : Prop :=
  p_Mod_move_J20 Q x1 x2 0 σ
def p_Mod_move (x1 x2 : Int32) (σ : xS) (Q : xS → Prop) : Prop :=
  p_Mod_isRoot x1 σ (fun r2 σ1 => ((r2 = 0 → p_Mod_move_J19 Q x1 x2 σ1) ∧ (¬ r2 = 0 → p_Mod_isRoot x2 σ1 (fun r12 σ11 => ((r12 = 0 → p_Mod_move_J19 Q x1 x2 σ11) ∧ (¬ r12 = 0 → p_Mod_move_J20 Q x1 x2 1 σ11))))))
abbrev rm_Mod_move : Room := { frames := 1, cells := 0, slots := 0, locals := 22 }
theorem d_Mod_move_0 : decode cd_Mod_move 0 = .ok (.aload_n 0, 1) := by decide +kernel
theorem d_Mod_move_1 : decode cd_Mod_move 1 = .ok (.iload_n 1, 1) := by decide +kernel
theorem d_Mod_move_2 : decode cd_Mod_move 2 = .ok (.invokestatic 151, 3) := by decide +kernel
theorem d_Mod_move_5 : decode cd_Mod_move 5 = .ok (.ifCond .eq 14, 3) := by decide +kernel
theorem d_Mod_move_8 : decode cd_Mod_move 8 = .ok (.iload_n 2, 1) := by decide +kernel
theorem d_Mod_move_9 : decode cd_Mod_move 9 = .ok (.invokestatic 151, 3) := by decide +kernel
theorem d_Mod_move_12 : decode cd_Mod_move 12 = .ok (.ifCond .eq 7, 3) := by decide +kernel
theorem d_Mod_move_15 : decode cd_Mod_move 15 = .ok (.iconst 1, 1) := by decide +kernel
theorem d_Mod_move_16 : decode cd_Mod_move 16 = .ok (.goto 4, 3) := by decide +kernel
theorem d_Mod_move_19 : decode cd_Mod_move 19 = .ok (.iconst 0, 1) := by decide +kernel
theorem d_Mod_move_20 : decode cd_Mod_move 20 = .ok (.iconst 1, 1) := by decide +kernel
theorem d_Mod_move_21 : decode cd_Mod_move 21 = .ok (.invokevirtual 144, 3) := by decide +kernel
theorem d_Mod_move_24 : decode cd_Mod_move 24 = .ok (.ifCond .eq 27, 3) := by decide +kernel
theorem d_Mod_move_27 : decode cd_Mod_move 27 = .ok (.aload_n 0, 1) := by decide +kernel
theorem d_Mod_move_28 : decode cd_Mod_move 28 = .ok (.getfield 53, 3) := by decide +kernel
theorem d_Mod_move_31 : decode cd_Mod_move 31 = .ok (.iload_n 1, 1) := by decide +kernel
theorem d_Mod_move_32 : decode cd_Mod_move 32 = .ok (.aload_n 0, 1) := by decide +kernel
theorem d_Mod_move_33 : decode cd_Mod_move 33 = .ok (.getfield 53, 3) := by decide +kernel
theorem d_Mod_move_36 : decode cd_Mod_move 36 = .ok (.iload_n 2, 1) := by decide +kernel
theorem d_Mod_move_37 : decode cd_Mod_move 37 = .ok (.iaload, 1) := by decide +kernel
theorem d_Mod_move_38 : decode cd_Mod_move 38 = .ok (.iastore, 1) := by decide +kernel
theorem d_Mod_move_39 : decode cd_Mod_move 39 = .ok (.aload_n 0, 1) := by decide +kernel
theorem d_Mod_move_40 : decode cd_Mod_move 40 = .ok (.getfield 56, 3) := by decide +kernel
theorem d_Mod_move_43 : decode cd_Mod_move 43 = .ok (.iload_n 1, 1) := by decide +kernel
theorem d_Mod_move_44 : decode cd_Mod_move 44 = .ok (.aload_n 0, 1) := by decide +kernel
theorem d_Mod_move_45 : decode cd_Mod_move 45 = .ok (.getfield 56, 3) := by decide +kernel
theorem d_Mod_move_48 : decode cd_Mod_move 48 = .ok (.iload_n 2, 1) := by decide +kernel
theorem d_Mod_move_49 : decode cd_Mod_move 49 = .ok (.iaload, 1) := by decide +kernel
theorem d_Mod_move_50 : decode cd_Mod_move 50 = .ok (.iastore, 1) := by decide +kernel
theorem d_Mod_move_51 : decode cd_Mod_move 51 = .ok (.return_, 1) := by decide +kernel
set_option maxRecDepth 100000 in
set_option maxHeartbeats 4000000 in
theorem t_Mod_move_J20 {p : Program} {l : Launch} {e : Env} {s : State} {m : MethodId} {args : Array Value} {below : List Frame} {meth : Method} {c : Code} {V : xV} (C : xC p s m args c cd_Mod_move 3 R_Mod V) (hlocks : meth.locks = false) (hr : meth.sig.returnType = none) {Q : xS → Prop} {x1 x2 : Int32} {y0 : Int32} {σ : xS} {H : Heap} {locs : List Loc} {ls : Array Slot} (h : p_Mod_move_J20 Q x1 x2 y0 σ) (hI : xI V s.heap σ H locs) (hl : lv_has ls 3 [(0, .ref (V.2.2 31)), (1, .int x1), (2, .int x2)]) : W p l e rm_Mod_move s m args below meth c H locs 0 0 (xZv below V args s Q) (F0 m 20 ls [.int y0, .ref (V.2.2 31)]) := by
  have hx := C.1
  have hb := C.2.1
  unfold p_Mod_move_J20 at h
  refine lv_iconst (v := 1) hx hb d_Mod_move_20 (by decide) ?_
  refine x_calli C hI hl.1 (d := 31) (As := [.int y0, .int 1]) (rest := []) (by decide) (c_Mod_goes h) (xE31 V _) rfl yw_Mod_goes ml_Mod_144 rfl rfl ⟨Nat.le_of_ble_eq_true rfl, Nat.le_of_ble_eq_true rfl⟩ rfl rfl (Nat.le_of_ble_eq_true rfl) d_Mod_move_21 ⟨Nat.zero_le _, Nat.zero_le _⟩ (fun r5 σ4 H locs h hI => ?_)
  refine lv_if_eq (tgt := 51) hx hb d_Mod_move_24 (by decide) (fun c6 => ?_) (fun c6 => ?_)
  · have h := h.1 c6
    exact x_vret C hlocks hr hI h d_Mod_move_51
  · have h := h.2 c6
    refine lv_aload_n hx hb d_Mod_move_27 rfl (lv_at hl 0 rfl) ?_
    refine x_get C hI (d := 31) (by decide) (xE31 V _) fd_Mod_53 rfl d_Mod_move_28 ?_
    refine lv_iload_n hx hb d_Mod_move_31 rfl (lv_at hl 1 rfl) ?_
    refine lv_aload_n hx hb d_Mod_move_32 rfl (lv_at hl 0 rfl) ?_
    refine x_get C hI (d := 31) (by decide) (xE31 V _) fd_Mod_53 rfl d_Mod_move_33 ?_
    refine lv_iload_n hx hb d_Mod_move_36 rfl (lv_at hl 2 rfl) ?_
    obtain ⟨i7, h⟩ := h
    refine x_iald C hI (d := 54) (by decide) (xE54 V) i7 d_Mod_move_37 ?_
    obtain ⟨i8, h⟩ := h
    refine x_iast C hI (d := 54) (by decide) (xE54 V) i8 d_Mod_move_38 (fun H locs hI => ?_)
    refine lv_aload_n hx hb d_Mod_move_39 rfl (lv_at hl 0 rfl) ?_
    refine x_get C hI (d := 31) (by decide) (xE31 V _) fd_Mod_56 rfl d_Mod_move_40 ?_
    refine lv_iload_n hx hb d_Mod_move_43 rfl (lv_at hl 1 rfl) ?_
    refine lv_aload_n hx hb d_Mod_move_44 rfl (lv_at hl 0 rfl) ?_
    refine x_get C hI (d := 31) (by decide) (xE31 V _) fd_Mod_56 rfl d_Mod_move_45 ?_
    refine lv_iload_n hx hb d_Mod_move_48 rfl (lv_at hl 2 rfl) ?_
    obtain ⟨i9, h⟩ := h
    refine x_iald C hI (d := 55) (by decide) (xE55 V) i9 d_Mod_move_49 ?_
    obtain ⟨i10, h⟩ := h
    refine x_iast C hI (d := 55) (by decide) (xE55 V) i10 d_Mod_move_50 (fun H locs hI => ?_)
    exact x_vret C hlocks hr hI h d_Mod_move_51
set_option maxRecDepth 100000 in
set_option maxHeartbeats 4000000 in
theorem t_Mod_move_J19 {p : Program} {l : Launch} {e : Env} {s : State} {m : MethodId} {args : Array Value} {below : List Frame} {meth : Method} {c : Code} {V : xV} (C : xC p s m args c cd_Mod_move 3 R_Mod V) (hlocks : meth.locks = false) (hr : meth.sig.returnType = none) {Q : xS → Prop} {x1 x2 : Int32} {σ : xS} {H : Heap} {locs : List Loc} {ls : Array Slot} (h : p_Mod_move_J19 Q x1 x2 σ) (hI : xI V s.heap σ H locs) (hl : lv_has ls 3 [(0, .ref (V.2.2 31)), (1, .int x1), (2, .int x2)]) : W p l e rm_Mod_move s m args below meth c H locs 0 0 (xZv below V args s Q) (F0 m 19 ls [.ref (V.2.2 31)]) := by
  have hx := C.1
  have hb := C.2.1
  unfold p_Mod_move_J19 at h
  refine lv_iconst (v := 0) hx hb d_Mod_move_19 (by decide) ?_
  exact t_Mod_move_J20 C hlocks hr h hI (lv_sub hl [0, 1, 2] rfl)
set_option maxRecDepth 100000 in
set_option maxHeartbeats 4000000 in
theorem c_Mod_move {l : Launch} {V : xV} {σ : xS} {x1 x2 : Int32} {Q : xS → Prop} (h : p_Mod_move x1 x2 σ Q) : xMv l y_Mod_move (.code y_Mod_move cd_Mod_move 3 none :: xG) rm_Mod_move V [.ref (V.2.2 31), .int x1, .int x2] σ Q := by
  refine x_beginv (by decide) (Nat.le_of_ble_eq_true rfl) (fun p e s m below meth c ls C hlocks hr hI hl => ?_)
  have C : xC p s m _ c cd_Mod_move 3 R_Mod V := C
  have hx := C.1
  have hb := C.2.1
  have hl : lv_has ls 3 [(0, .ref (V.2.2 31)), (1, .int x1), (2, .int x2)] := hl
  unfold p_Mod_move at h
  refine lv_aload_n hx hb d_Mod_move_0 rfl (lv_at hl 0 rfl) ?_
  refine lv_iload_n hx hb d_Mod_move_1 rfl (lv_at hl 1 rfl) ?_
  refine x_calliS C hI hl.1 (As := [.int x1]) (rest := [.ref (V.2.2 31)]) (c_Mod_isRoot h) yw_Mod_isRoot ml_Mod_151 rfl rfl ⟨Nat.le_of_ble_eq_true rfl, Nat.le_of_ble_eq_true rfl⟩ rfl rfl (Nat.le_of_ble_eq_true rfl) d_Mod_move_2 ⟨Nat.zero_le _, Nat.zero_le _⟩ (fun r2 σ1 H locs h hI => ?_)
  refine lv_if_eq (tgt := 19) hx hb d_Mod_move_5 (by decide) (fun c3 => ?_) (fun c3 => ?_)
  · have h := h.1 c3
    exact t_Mod_move_J19 C hlocks hr h hI (lv_sub hl [0, 1, 2] rfl)
  · have h := h.2 c3
    refine lv_iload_n hx hb d_Mod_move_8 rfl (lv_at hl 2 rfl) ?_
    refine x_calliS C hI hl.1 (As := [.int x2]) (rest := [.ref (V.2.2 31)]) (c_Mod_isRoot h) yw_Mod_isRoot ml_Mod_151 rfl rfl ⟨Nat.le_of_ble_eq_true rfl, Nat.le_of_ble_eq_true rfl⟩ rfl rfl (Nat.le_of_ble_eq_true rfl) d_Mod_move_9 ⟨Nat.zero_le _, Nat.zero_le _⟩ (fun r12 σ11 H locs h hI => ?_)
    refine lv_if_eq (tgt := 19) hx hb d_Mod_move_12 (by decide) (fun c13 => ?_) (fun c13 => ?_)
    · have h := h.1 c13
      exact t_Mod_move_J19 C hlocks hr h hI (lv_sub hl [0, 1, 2] rfl)
    · have h := h.2 c13
      refine lv_iconst (v := 1) hx hb d_Mod_move_15 (by decide) ?_
      refine lv_goto (tgt := 20) hx hb d_Mod_move_16 (by decide) ?_
      exact t_Mod_move_J20 C hlocks hr h hI (lv_sub hl [0, 1, 2] rfl)
def y_Mod_make : MethodName := ⟨"RegionPoolModel", "make", "(IIIII)I"⟩
abbrev cd_Mod_make : ByteArray := prog_12_method_27_code
def y_Mod_find : MethodName := ⟨"RegionPoolModel", "find", "(II)I"⟩
abbrev cd_Mod_find : ByteArray := prog_12_method_7_code
def y_Mod_freePage : MethodName := ⟨"RegionPoolModel", "freePage", "()I"⟩
abbrev cd_Mod_freePage : ByteArray := prog_12_method_6_code
def b_Mod_freePage_L2 (K2 : Int32 → xS → Prop) (Q : Int32 → xS → Prop) (x1 : Int32) (σ : xS) : Prop :=
  ((40 ≤ x1 → Q (-1) σ) ∧ (¬ 40 ≤ x1 → (vp_in x1 40 ∧ ((¬ (σ 50 x1.toNatClampNeg) = 0 → (∀ z4 : Int32, z4 = x1 + 1 → K2 z4 σ)) ∧ ((σ 50 x1.toNatClampNeg) = 0 → Q x1 σ)))))
def p_Mod_freePage_L2 (Q : Int32 → xS → Prop) (n : Nat) : Int32 → xS → Prop := Nat.rec (motive := fun _ => Int32 → xS → Prop) (fun _ _ => False) (fun _ K x1 σ => b_Mod_freePage_L2 K Q x1 σ) n
def p_Mod_freePage (σ : xS) (Q : Int32 → xS → Prop) : Prop :=
  (∃ n, p_Mod_freePage_L2 Q n 0 σ)
abbrev rm_Mod_freePage : Room := { frames := 0, cells := 0, slots := 0, locals := 0 }
theorem d_Mod_freePage_0 : decode cd_Mod_freePage 0 = .ok (.iconst 0, 1) := by decide +kernel
theorem d_Mod_freePage_1 : decode cd_Mod_freePage 1 = .ok (.istore_n 1, 1) := by decide +kernel
theorem d_Mod_freePage_2 : decode cd_Mod_freePage 2 = .ok (.iload_n 1, 1) := by decide +kernel
theorem d_Mod_freePage_3 : decode cd_Mod_freePage 3 = .ok (.bipush 40, 2) := by decide +kernel
theorem d_Mod_freePage_5 : decode cd_Mod_freePage 5 = .ok (.if_icmp .ge 20, 3) := by decide +kernel
theorem d_Mod_freePage_8 : decode cd_Mod_freePage 8 = .ok (.aload_n 0, 1) := by decide +kernel
theorem d_Mod_freePage_9 : decode cd_Mod_freePage 9 = .ok (.getfield 41, 3) := by decide +kernel
theorem d_Mod_freePage_12 : decode cd_Mod_freePage 12 = .ok (.iload_n 1, 1) := by decide +kernel
theorem d_Mod_freePage_13 : decode cd_Mod_freePage 13 = .ok (.baload, 1) := by decide +kernel
theorem d_Mod_freePage_14 : decode cd_Mod_freePage 14 = .ok (.ifCond .ne 5, 3) := by decide +kernel
theorem d_Mod_freePage_17 : decode cd_Mod_freePage 17 = .ok (.iload_n 1, 1) := by decide +kernel
theorem d_Mod_freePage_18 : decode cd_Mod_freePage 18 = .ok (.ireturn, 1) := by decide +kernel
theorem d_Mod_freePage_19 : decode cd_Mod_freePage 19 = .ok (.iinc 1 1, 3) := by decide +kernel
theorem d_Mod_freePage_22 : decode cd_Mod_freePage 22 = .ok (.goto (-20), 3) := by decide +kernel
theorem d_Mod_freePage_25 : decode cd_Mod_freePage 25 = .ok (.iconst (-1), 1) := by decide +kernel
theorem d_Mod_freePage_26 : decode cd_Mod_freePage 26 = .ok (.ireturn, 1) := by decide +kernel
set_option maxRecDepth 100000 in
set_option maxHeartbeats 4000000 in
theorem s_Mod_freePage_L2 {p : Program} {l : Launch} {e : Env} {s : State} {m : MethodId} {args : Array Value} {below : List Frame} {meth : Method} {c : Code} {V : xV} (C : xC p s m args c cd_Mod_freePage 2 R_Mod V) (hlocks : meth.locks = false) (hr : meth.sig.returnType = (some .int)) {Q : Int32 → xS → Prop} {K2 : Int32 → xS → Prop} (hK2 : ∀ (x1 : Int32) (σ : xS) (H : Heap) (locs : List Loc) (ls : Array Slot), K2 x1 σ → xI V s.heap σ H locs → lv_has ls 2 [(0, .ref (V.2.2 31)), (1, .int x1)] → W p l e rm_Mod_freePage s m args below meth c H locs 0 0 (xZi below V args s Q) (F0 m 2 ls [])) {x1 : Int32} {σ : xS} {H : Heap} {locs : List Loc} {ls : Array Slot} (h : b_Mod_freePage_L2 K2 Q x1 σ) (hI : xI V s.heap σ H locs) (hl : lv_has ls 2 [(0, .ref (V.2.2 31)), (1, .int x1)]) : W p l e rm_Mod_freePage s m args below meth c H locs 0 0 (xZi below V args s Q) (F0 m 2 ls []) := by
  have hx := C.1
  have hb := C.2.1
  unfold b_Mod_freePage_L2 at h
  refine lv_iload_n hx hb d_Mod_freePage_2 rfl (lv_at hl 1 rfl) ?_
  refine lv_bipush (v := 40) hx hb d_Mod_freePage_3 (by decide) ?_
  refine lv_icmp_ge (tgt := 25) hx hb d_Mod_freePage_5 (by decide) (fun c1 => ?_) (fun c1 => ?_)
  · have h := h.1 c1
    refine lv_iconst (v := (-1)) hx hb d_Mod_freePage_25 (by decide) ?_
    exact x_iret C hlocks hr hI h d_Mod_freePage_26
  · have h := h.2 c1
    refine lv_aload_n hx hb d_Mod_freePage_8 rfl (lv_at hl 0 rfl) ?_
    refine x_get C hI (d := 31) (by decide) (xE31 V _) fd_Mod_41 rfl d_Mod_freePage_9 ?_
    refine lv_iload_n hx hb d_Mod_freePage_12 rfl (lv_at hl 1 rfl) ?_
    obtain ⟨i2, h⟩ := h
    refine x_zald C hI (d := 50) (by decide) (xE50 V) i2 d_Mod_freePage_13 ?_
    refine lv_if_ne (tgt := 19) hx hb d_Mod_freePage_14 (by decide) (fun c3 => ?_) (fun c3 => ?_)
    · have h := h.1 c3
      obtain ⟨z4, ez4⟩ : ∃ y : Int32, y = x1 + 1 := ⟨_, rfl⟩
      have h := h z4 ez4
      refine lv_iinc (v := z4) (lv' := [(1, .int z4), (0, .ref (V.2.2 31))]) hx hb d_Mod_freePage_19 hl (k := 1) rfl (by rw [ez4]; rfl) (by decide) rfl (fun ls hl => ?_)
      refine lv_goto (tgt := 2) hx hb d_Mod_freePage_22 (by decide) ?_
      exact hK2 _ _ _ _ _ h hI (lv_sub hl [1, 0] rfl)
    · have h := h.2 c3
      refine lv_iload_n hx hb d_Mod_freePage_17 rfl (lv_at hl 1 rfl) ?_
      exact x_iret C hlocks hr hI h d_Mod_freePage_18
theorem w_Mod_freePage_L2 {p : Program} {l : Launch} {e : Env} {s : State} {m : MethodId} {args : Array Value} {below : List Frame} {meth : Method} {c : Code} {V : xV} (C : xC p s m args c cd_Mod_freePage 2 R_Mod V) (hlocks : meth.locks = false) (hr : meth.sig.returnType = (some .int)) {Q : Int32 → xS → Prop} : ∀ (n : Nat) (x1 : Int32) (σ : xS) (H : Heap) (locs : List Loc) (ls : Array Slot), p_Mod_freePage_L2 Q n x1 σ → xI V s.heap σ H locs → lv_has ls 2 [(0, .ref (V.2.2 31)), (1, .int x1)] → W p l e rm_Mod_freePage s m args below meth c H locs 0 0 (xZi below V args s Q) (F0 m 2 ls []) := by
  intro n
  induction n with
  | zero =>
    intro x1 σ H locs ls h
    exact False.elim h
  | succ n ih =>
    intro x1 σ H locs ls h hI hl
    exact s_Mod_freePage_L2 C hlocks hr (K2 := p_Mod_freePage_L2 Q n) (fun x1 σ H locs ls h hI hl => ih x1 σ H locs ls h hI hl) h hI hl
set_option maxRecDepth 100000 in
set_option maxHeartbeats 4000000 in
theorem c_Mod_freePage {l : Launch} {V : xV} {σ : xS} {Q : Int32 → xS → Prop} (h : p_Mod_freePage σ Q) : xMi l y_Mod_freePage (.code y_Mod_freePage cd_Mod_freePage 2 (some .int) :: xG) rm_Mod_freePage V [.ref (V.2.2 31)] σ Q := by
  refine x_begini (by decide) (Nat.le_of_ble_eq_true rfl) (fun p e s m below meth c ls C hlocks hr hI hl => ?_)
  have C : xC p s m _ c cd_Mod_freePage 2 R_Mod V := C
  have hx := C.1
  have hb := C.2.1
  have hl : lv_has ls 2 [(0, .ref (V.2.2 31))] := hl
  unfold p_Mod_freePage at h
  refine lv_iconst (v := 0) hx hb d_Mod_freePage_0 (by decide) ?_
  refine lv_istore_n (lv' := [(1, .int 0), (0, .ref (V.2.2 31))]) hx hb d_Mod_freePage_1 rfl hl (by decide) rfl (fun ls hl => ?_)
  obtain ⟨n, h⟩ := h
  exact w_Mod_freePage_L2 C hlocks hr n _ _ _ _ _ h hI (lv_sub hl [1, 0] rfl)
theorem yw_Mod_freePage : xY y_Mod_freePage cd_Mod_freePage 2 (some .int) 0 := ⟨xG_mem 1171 (by decide +kernel) (by decide +kernel), xG_mem 44 (by decide +kernel) (by decide +kernel), xG_mem 65 (by decide +kernel) (by decide +kernel), xG_mem 1172 (by decide +kernel) (by decide +kernel), by decide, by decide, by decide +kernel⟩
theorem ml_Mod_83 : Cond.methodLink R_Mod 83 y_Mod_freePage ∈ xG := xG_mem 1169 (by decide +kernel) (by decide +kernel)
def p_Mod_find_J48 (Q : Int32 → xS → Prop) (σ : xS) : Prop :=
  p_Mod_freePage σ (fun r5 σ4 => ((¬ r5 = (-1) → Q (16 * r5) σ4) ∧ (r5 = (-1) → Q (-1) σ4)))
def p_Mod_find (x1 x2 : Int32) (σ : xS) (Q : Int32 → xS → Prop) : Prop :=
  (vp_in x1 8 ∧ (∀ z2 : Int32, z2 = (σ 51 x1.toNatClampNeg) → ((z2 ≤ 0 → p_Mod_find_J48 Q σ) ∧ (¬ z2 ≤ 0 → (vp_in x1 8 ∧ ((16 < ((σ 53 x1.toNatClampNeg) + x2) → p_Mod_find_J48 Q σ) ∧ (¬ 16 < ((σ 53 x1.toNatClampNeg) + x2) → (vp_in (((40 * x1) + z2) - 1) 320 ∧ (vp_in x1 8 ∧ Q ((16 * (σ 52 (((40 * x1) + z2) - 1).toNatClampNeg)) + (σ 53 x1.toNatClampNeg)) σ)))))))))
abbrev rm_Mod_find : Room := { frames := 1, cells := 0, slots := 0, locals := 21 }
theorem d_Mod_find_0 : decode cd_Mod_find 0 = .ok (.aload_n 0, 1) := by decide +kernel
theorem d_Mod_find_1 : decode cd_Mod_find 1 = .ok (.getfield 44, 3) := by decide +kernel
theorem d_Mod_find_4 : decode cd_Mod_find 4 = .ok (.iload_n 1, 1) := by decide +kernel
theorem d_Mod_find_5 : decode cd_Mod_find 5 = .ok (.iaload, 1) := by decide +kernel
theorem d_Mod_find_6 : decode cd_Mod_find 6 = .ok (.istore_n 3, 1) := by decide +kernel
theorem d_Mod_find_7 : decode cd_Mod_find 7 = .ok (.iload_n 3, 1) := by decide +kernel
theorem d_Mod_find_8 : decode cd_Mod_find 8 = .ok (.ifCond .le 40, 3) := by decide +kernel
theorem d_Mod_find_11 : decode cd_Mod_find 11 = .ok (.aload_n 0, 1) := by decide +kernel
theorem d_Mod_find_12 : decode cd_Mod_find 12 = .ok (.getfield 50, 3) := by decide +kernel
theorem d_Mod_find_15 : decode cd_Mod_find 15 = .ok (.iload_n 1, 1) := by decide +kernel
theorem d_Mod_find_16 : decode cd_Mod_find 16 = .ok (.iaload, 1) := by decide +kernel
theorem d_Mod_find_17 : decode cd_Mod_find 17 = .ok (.iload_n 2, 1) := by decide +kernel
theorem d_Mod_find_18 : decode cd_Mod_find 18 = .ok (.iadd, 1) := by decide +kernel
theorem d_Mod_find_19 : decode cd_Mod_find 19 = .ok (.bipush 16, 2) := by decide +kernel
theorem d_Mod_find_21 : decode cd_Mod_find 21 = .ok (.if_icmp .gt 27, 3) := by decide +kernel
theorem d_Mod_find_24 : decode cd_Mod_find 24 = .ok (.bipush 16, 2) := by decide +kernel
theorem d_Mod_find_26 : decode cd_Mod_find 26 = .ok (.aload_n 0, 1) := by decide +kernel
theorem d_Mod_find_27 : decode cd_Mod_find 27 = .ok (.getfield 47, 3) := by decide +kernel
theorem d_Mod_find_30 : decode cd_Mod_find 30 = .ok (.bipush 40, 2) := by decide +kernel
theorem d_Mod_find_32 : decode cd_Mod_find 32 = .ok (.iload_n 1, 1) := by decide +kernel
theorem d_Mod_find_33 : decode cd_Mod_find 33 = .ok (.imul, 1) := by decide +kernel
theorem d_Mod_find_34 : decode cd_Mod_find 34 = .ok (.iload_n 3, 1) := by decide +kernel
theorem d_Mod_find_35 : decode cd_Mod_find 35 = .ok (.iadd, 1) := by decide +kernel
theorem d_Mod_find_36 : decode cd_Mod_find 36 = .ok (.iconst 1, 1) := by decide +kernel
theorem d_Mod_find_37 : decode cd_Mod_find 37 = .ok (.isub, 1) := by decide +kernel
theorem d_Mod_find_38 : decode cd_Mod_find 38 = .ok (.iaload, 1) := by decide +kernel
theorem d_Mod_find_39 : decode cd_Mod_find 39 = .ok (.imul, 1) := by decide +kernel
theorem d_Mod_find_40 : decode cd_Mod_find 40 = .ok (.aload_n 0, 1) := by decide +kernel
theorem d_Mod_find_41 : decode cd_Mod_find 41 = .ok (.getfield 50, 3) := by decide +kernel
theorem d_Mod_find_44 : decode cd_Mod_find 44 = .ok (.iload_n 1, 1) := by decide +kernel
theorem d_Mod_find_45 : decode cd_Mod_find 45 = .ok (.iaload, 1) := by decide +kernel
theorem d_Mod_find_46 : decode cd_Mod_find 46 = .ok (.iadd, 1) := by decide +kernel
theorem d_Mod_find_47 : decode cd_Mod_find 47 = .ok (.ireturn, 1) := by decide +kernel
theorem d_Mod_find_48 : decode cd_Mod_find 48 = .ok (.aload_n 0, 1) := by decide +kernel
theorem d_Mod_find_49 : decode cd_Mod_find 49 = .ok (.invokevirtual 83, 3) := by decide +kernel
theorem d_Mod_find_52 : decode cd_Mod_find 52 = .ok (.istore 4, 2) := by decide +kernel
theorem d_Mod_find_54 : decode cd_Mod_find 54 = .ok (.iload 4, 2) := by decide +kernel
theorem d_Mod_find_56 : decode cd_Mod_find 56 = .ok (.iconst (-1), 1) := by decide +kernel
theorem d_Mod_find_57 : decode cd_Mod_find 57 = .ok (.if_icmp .ne 7, 3) := by decide +kernel
theorem d_Mod_find_60 : decode cd_Mod_find 60 = .ok (.iconst (-1), 1) := by decide +kernel
theorem d_Mod_find_61 : decode cd_Mod_find 61 = .ok (.goto 8, 3) := by decide +kernel
theorem d_Mod_find_64 : decode cd_Mod_find 64 = .ok (.bipush 16, 2) := by decide +kernel
theorem d_Mod_find_66 : decode cd_Mod_find 66 = .ok (.iload 4, 2) := by decide +kernel
theorem d_Mod_find_68 : decode cd_Mod_find 68 = .ok (.imul, 1) := by decide +kernel
theorem d_Mod_find_69 : decode cd_Mod_find 69 = .ok (.ireturn, 1) := by decide +kernel
set_option maxRecDepth 100000 in
set_option maxHeartbeats 4000000 in
theorem t_Mod_find_J48 {p : Program} {l : Launch} {e : Env} {s : State} {m : MethodId} {args : Array Value} {below : List Frame} {meth : Method} {c : Code} {V : xV} (C : xC p s m args c cd_Mod_find 5 R_Mod V) (hlocks : meth.locks = false) (hr : meth.sig.returnType = (some .int)) {Q : Int32 → xS → Prop} {σ : xS} {H : Heap} {locs : List Loc} {ls : Array Slot} (h : p_Mod_find_J48 Q σ) (hI : xI V s.heap σ H locs) (hl : lv_has ls 5 [(0, .ref (V.2.2 31))]) : W p l e rm_Mod_find s m args below meth c H locs 0 0 (xZi below V args s Q) (F0 m 48 ls []) := by
  have hx := C.1
  have hb := C.2.1
  unfold p_Mod_find_J48 at h
  refine lv_aload_n hx hb d_Mod_find_48 rfl (lv_at hl 0 rfl) ?_
  refine x_calli C hI hl.1 (d := 31) (As := []) (rest := []) (by decide) (c_Mod_freePage h) (xE31 V _) rfl yw_Mod_freePage ml_Mod_83 rfl rfl ⟨Nat.le_of_ble_eq_true rfl, Nat.le_of_ble_eq_true rfl⟩ rfl rfl (Nat.le_of_ble_eq_true rfl) d_Mod_find_49 ⟨Nat.zero_le _, Nat.zero_le _⟩ (fun r5 σ4 H locs h hI => ?_)
  refine lv_istore (lv' := [(4, .int r5), (0, .ref (V.2.2 31))]) hx hb d_Mod_find_52 hl (by decide) rfl (fun ls hl => ?_)
  refine lv_iload hx hb d_Mod_find_54 (lv_at hl 0 rfl) ?_
  refine lv_iconst (v := (-1)) hx hb d_Mod_find_56 (by decide) ?_
  refine lv_icmp_ne (tgt := 64) hx hb d_Mod_find_57 (by decide) (fun c6 => ?_) (fun c6 => ?_)
  · have h := h.1 c6
    refine lv_bipush (v := 16) hx hb d_Mod_find_64 (by decide) ?_
    refine lv_iload hx hb d_Mod_find_66 (lv_at hl 0 rfl) ?_
    refine lv_imul hx hb d_Mod_find_68 ?_
    exact x_iret C hlocks hr hI h d_Mod_find_69
  · have h := h.2 c6
    refine lv_iconst (v := (-1)) hx hb d_Mod_find_60 (by decide) ?_
    refine lv_goto (tgt := 69) hx hb d_Mod_find_61 (by decide) ?_
    exact x_iret C hlocks hr hI h d_Mod_find_69
set_option maxRecDepth 100000 in
set_option maxHeartbeats 4000000 in
theorem c_Mod_find {l : Launch} {V : xV} {σ : xS} {x1 x2 : Int32} {Q : Int32 → xS → Prop} (h : p_Mod_find x1 x2 σ Q) : xMi l y_Mod_find (.code y_Mod_find cd_Mod_find 5 (some .int) :: xG) rm_Mod_find V [.ref (V.2.2 31), .int x1, .int x2] σ Q := by
  refine x_begini (by decide) (Nat.le_of_ble_eq_true rfl) (fun p e s m below meth c ls C hlocks hr hI hl => ?_)
  have C : xC p s m _ c cd_Mod_find 5 R_Mod V := C
  have hx := C.1
  have hb := C.2.1
  have hl : lv_has ls 5 [(0, .ref (V.2.2 31)), (1, .int x1), (2, .int x2)] := hl
  unfold p_Mod_find at h
  refine lv_aload_n hx hb d_Mod_find_0 rfl (lv_at hl 0 rfl) ?_
  refine x_get C hI (d := 31) (by decide) (xE31 V _) fd_Mod_44 rfl d_Mod_find_1 ?_
  refine lv_iload_n hx hb d_Mod_find_4 rfl (lv_at hl 1 rfl) ?_
  obtain ⟨i1, h⟩ := h
  refine x_iald C hI (d := 51) (by decide) (xE51 V) i1 d_Mod_find_5 ?_
  refine lv_topi (fun z2 ez2 => ?_)
  have h := h z2 ez2
  refine lv_istore_n (lv' := [(3, .int z2), (0, .ref (V.2.2 31)), (1, .int x1), (2, .int x2)]) hx hb d_Mod_find_6 rfl hl (by decide) rfl (fun ls hl => ?_)
  refine lv_iload_n hx hb d_Mod_find_7 rfl (lv_at hl 0 rfl) ?_
  refine lv_if_le (tgt := 48) hx hb d_Mod_find_8 (by decide) (fun c3 => ?_) (fun c3 => ?_)
  · have h := h.1 c3
    exact t_Mod_find_J48 C hlocks hr h hI (lv_sub hl [1] rfl)
  · have h := h.2 c3
    refine lv_aload_n hx hb d_Mod_find_11 rfl (lv_at hl 1 rfl) ?_
    refine x_get C hI (d := 31) (by decide) (xE31 V _) fd_Mod_50 rfl d_Mod_find_12 ?_
    refine lv_iload_n hx hb d_Mod_find_15 rfl (lv_at hl 2 rfl) ?_
    obtain ⟨i7, h⟩ := h
    refine x_iald C hI (d := 53) (by decide) (xE53 V) i7 d_Mod_find_16 ?_
    refine lv_iload_n hx hb d_Mod_find_17 rfl (lv_at hl 3 rfl) ?_
    refine lv_iadd hx hb d_Mod_find_18 ?_
    refine lv_bipush (v := 16) hx hb d_Mod_find_19 (by decide) ?_
    refine lv_icmp_gt (tgt := 48) hx hb d_Mod_find_21 (by decide) (fun c8 => ?_) (fun c8 => ?_)
    · have h := h.1 c8
      exact t_Mod_find_J48 C hlocks hr h hI (lv_sub hl [1] rfl)
    · have h := h.2 c8
      refine lv_bipush (v := 16) hx hb d_Mod_find_24 (by decide) ?_
      refine lv_aload_n hx hb d_Mod_find_26 rfl (lv_at hl 1 rfl) ?_
      refine x_get C hI (d := 31) (by decide) (xE31 V _) fd_Mod_47 rfl d_Mod_find_27 ?_
      refine lv_bipush (v := 40) hx hb d_Mod_find_30 (by decide) ?_
      refine lv_iload_n hx hb d_Mod_find_32 rfl (lv_at hl 2 rfl) ?_
      refine lv_imul hx hb d_Mod_find_33 ?_
      refine lv_iload_n hx hb d_Mod_find_34 rfl (lv_at hl 0 rfl) ?_
      refine lv_iadd hx hb d_Mod_find_35 ?_
      refine lv_iconst (v := 1) hx hb d_Mod_find_36 (by decide) ?_
      refine lv_isub hx hb d_Mod_find_37 ?_
      obtain ⟨i9, h⟩ := h
      refine x_iald C hI (d := 52) (by decide) (xE52 V) i9 d_Mod_find_38 ?_
      refine lv_imul hx hb d_Mod_find_39 ?_
      refine lv_aload_n hx hb d_Mod_find_40 rfl (lv_at hl 1 rfl) ?_
      refine x_get C hI (d := 31) (by decide) (xE31 V _) fd_Mod_50 rfl d_Mod_find_41 ?_
      refine lv_iload_n hx hb d_Mod_find_44 rfl (lv_at hl 2 rfl) ?_
      obtain ⟨i10, h⟩ := h
      refine x_iald C hI (d := 53) (by decide) (xE53 V) i10 d_Mod_find_45 ?_
      refine lv_iadd hx hb d_Mod_find_46 ?_
      exact x_iret C hlocks hr hI h d_Mod_find_47
theorem yw_Mod_find : xY y_Mod_find cd_Mod_find 5 (some .int) 2 := ⟨xG_mem 1167 (by decide +kernel) (by decide +kernel), xG_mem 43 (by decide +kernel) (by decide +kernel), xG_mem 65 (by decide +kernel) (by decide +kernel), xG_mem 1168 (by decide +kernel) (by decide +kernel), by decide, by decide, by decide +kernel⟩
theorem ml_Mod_87 : Cond.methodLink R_Mod 87 y_Mod_find ∈ xG := xG_mem 1165 (by decide +kernel) (by decide +kernel)
def y_Mod_create : MethodName := ⟨"RegionPoolModel", "create", "(IIII)I"⟩
abbrev cd_Mod_create : ByteArray := prog_12_method_10_code
def y_Mod_freeObject : MethodName := ⟨"RegionPoolModel", "freeObject", "()I"⟩
abbrev cd_Mod_freeObject : ByteArray := prog_12_method_9_code
def b_Mod_freeObject_L2 (K2 : Int32 → xS → Prop) (Q : Int32 → xS → Prop) (x1 : Int32) (σ : xS) : Prop :=
  (vp_in x1 640 ∧ (((σ 40 x1.toNatClampNeg) = (-1) → Q x1 σ) ∧ (¬ (σ 40 x1.toNatClampNeg) = (-1) → (∀ z3 : Int32, z3 = x1 + 1 → K2 z3 σ))))
def p_Mod_freeObject_L2 (Q : Int32 → xS → Prop) (n : Nat) : Int32 → xS → Prop := Nat.rec (motive := fun _ => Int32 → xS → Prop) (fun _ _ => False) (fun _ K x1 σ => b_Mod_freeObject_L2 K Q x1 σ) n
def p_Mod_freeObject (σ : xS) (Q : Int32 → xS → Prop) : Prop :=
  (∃ n, p_Mod_freeObject_L2 Q n 0 σ)
abbrev rm_Mod_freeObject : Room := { frames := 0, cells := 0, slots := 0, locals := 0 }
theorem d_Mod_freeObject_0 : decode cd_Mod_freeObject 0 = .ok (.iconst 0, 1) := by decide +kernel
theorem d_Mod_freeObject_1 : decode cd_Mod_freeObject 1 = .ok (.istore_n 1, 1) := by decide +kernel
theorem d_Mod_freeObject_2 : decode cd_Mod_freeObject 2 = .ok (.aload_n 0, 1) := by decide +kernel
theorem d_Mod_freeObject_3 : decode cd_Mod_freeObject 3 = .ok (.getfield 7, 3) := by decide +kernel
theorem d_Mod_freeObject_6 : decode cd_Mod_freeObject 6 = .ok (.iload_n 1, 1) := by decide +kernel
theorem d_Mod_freeObject_7 : decode cd_Mod_freeObject 7 = .ok (.iaload, 1) := by decide +kernel
theorem d_Mod_freeObject_8 : decode cd_Mod_freeObject 8 = .ok (.iconst (-1), 1) := by decide +kernel
theorem d_Mod_freeObject_9 : decode cd_Mod_freeObject 9 = .ok (.if_icmp .eq 9, 3) := by decide +kernel
theorem d_Mod_freeObject_12 : decode cd_Mod_freeObject 12 = .ok (.iinc 1 1, 3) := by decide +kernel
theorem d_Mod_freeObject_15 : decode cd_Mod_freeObject 15 = .ok (.goto (-13), 3) := by decide +kernel
theorem d_Mod_freeObject_18 : decode cd_Mod_freeObject 18 = .ok (.iload_n 1, 1) := by decide +kernel
theorem d_Mod_freeObject_19 : decode cd_Mod_freeObject 19 = .ok (.ireturn, 1) := by decide +kernel
set_option maxRecDepth 100000 in
set_option maxHeartbeats 4000000 in
theorem s_Mod_freeObject_L2 {p : Program} {l : Launch} {e : Env} {s : State} {m : MethodId} {args : Array Value} {below : List Frame} {meth : Method} {c : Code} {V : xV} (C : xC p s m args c cd_Mod_freeObject 2 R_Mod V) (hlocks : meth.locks = false) (hr : meth.sig.returnType = (some .int)) {Q : Int32 → xS → Prop} {K2 : Int32 → xS → Prop} (hK2 : ∀ (x1 : Int32) (σ : xS) (H : Heap) (locs : List Loc) (ls : Array Slot), K2 x1 σ → xI V s.heap σ H locs → lv_has ls 2 [(0, .ref (V.2.2 31)), (1, .int x1)] → W p l e rm_Mod_freeObject s m args below meth c H locs 0 0 (xZi below V args s Q) (F0 m 2 ls [])) {x1 : Int32} {σ : xS} {H : Heap} {locs : List Loc} {ls : Array Slot} (h : b_Mod_freeObject_L2 K2 Q x1 σ) (hI : xI V s.heap σ H locs) (hl : lv_has ls 2 [(0, .ref (V.2.2 31)), (1, .int x1)]) : W p l e rm_Mod_freeObject s m args below meth c H locs 0 0 (xZi below V args s Q) (F0 m 2 ls []) := by
  have hx := C.1
  have hb := C.2.1
  unfold b_Mod_freeObject_L2 at h
  refine lv_aload_n hx hb d_Mod_freeObject_2 rfl (lv_at hl 0 rfl) ?_
  refine x_get C hI (d := 31) (by decide) (xE31 V _) fd_Mod_7 rfl d_Mod_freeObject_3 ?_
  refine lv_iload_n hx hb d_Mod_freeObject_6 rfl (lv_at hl 1 rfl) ?_
  obtain ⟨i1, h⟩ := h
  refine x_iald C hI (d := 40) (by decide) (xE40 V) i1 d_Mod_freeObject_7 ?_
  refine lv_iconst (v := (-1)) hx hb d_Mod_freeObject_8 (by decide) ?_
  refine lv_icmp_eq (tgt := 18) hx hb d_Mod_freeObject_9 (by decide) (fun c2 => ?_) (fun c2 => ?_)
  · have h := h.1 c2
    refine lv_iload_n hx hb d_Mod_freeObject_18 rfl (lv_at hl 1 rfl) ?_
    exact x_iret C hlocks hr hI h d_Mod_freeObject_19
  · have h := h.2 c2
    obtain ⟨z3, ez3⟩ : ∃ y : Int32, y = x1 + 1 := ⟨_, rfl⟩
    have h := h z3 ez3
    refine lv_iinc (v := z3) (lv' := [(1, .int z3), (0, .ref (V.2.2 31))]) hx hb d_Mod_freeObject_12 hl (k := 1) rfl (by rw [ez3]; rfl) (by decide) rfl (fun ls hl => ?_)
    refine lv_goto (tgt := 2) hx hb d_Mod_freeObject_15 (by decide) ?_
    exact hK2 _ _ _ _ _ h hI (lv_sub hl [1, 0] rfl)
theorem w_Mod_freeObject_L2 {p : Program} {l : Launch} {e : Env} {s : State} {m : MethodId} {args : Array Value} {below : List Frame} {meth : Method} {c : Code} {V : xV} (C : xC p s m args c cd_Mod_freeObject 2 R_Mod V) (hlocks : meth.locks = false) (hr : meth.sig.returnType = (some .int)) {Q : Int32 → xS → Prop} : ∀ (n : Nat) (x1 : Int32) (σ : xS) (H : Heap) (locs : List Loc) (ls : Array Slot), p_Mod_freeObject_L2 Q n x1 σ → xI V s.heap σ H locs → lv_has ls 2 [(0, .ref (V.2.2 31)), (1, .int x1)] → W p l e rm_Mod_freeObject s m args below meth c H locs 0 0 (xZi below V args s Q) (F0 m 2 ls []) := by
  intro n
  induction n with
  | zero =>
    intro x1 σ H locs ls h
    exact False.elim h
  | succ n ih =>
    intro x1 σ H locs ls h hI hl
    exact s_Mod_freeObject_L2 C hlocks hr (K2 := p_Mod_freeObject_L2 Q n) (fun x1 σ H locs ls h hI hl => ih x1 σ H locs ls h hI hl) h hI hl
set_option maxRecDepth 100000 in
set_option maxHeartbeats 4000000 in
theorem c_Mod_freeObject {l : Launch} {V : xV} {σ : xS} {Q : Int32 → xS → Prop} (h : p_Mod_freeObject σ Q) : xMi l y_Mod_freeObject (.code y_Mod_freeObject cd_Mod_freeObject 2 (some .int) :: xG) rm_Mod_freeObject V [.ref (V.2.2 31)] σ Q := by
  refine x_begini (by decide) (Nat.le_of_ble_eq_true rfl) (fun p e s m below meth c ls C hlocks hr hI hl => ?_)
  have C : xC p s m _ c cd_Mod_freeObject 2 R_Mod V := C
  have hx := C.1
  have hb := C.2.1
  have hl : lv_has ls 2 [(0, .ref (V.2.2 31))] := hl
  unfold p_Mod_freeObject at h
  refine lv_iconst (v := 0) hx hb d_Mod_freeObject_0 (by decide) ?_
  refine lv_istore_n (lv' := [(1, .int 0), (0, .ref (V.2.2 31))]) hx hb d_Mod_freeObject_1 rfl hl (by decide) rfl (fun ls hl => ?_)
  obtain ⟨n, h⟩ := h
  exact w_Mod_freeObject_L2 C hlocks hr n _ _ _ _ _ h hI (lv_sub hl [1, 0] rfl)
theorem yw_Mod_freeObject : xY y_Mod_freeObject cd_Mod_freeObject 2 (some .int) 0 := ⟨xG_mem 1179 (by decide +kernel) (by decide +kernel), xG_mem 46 (by decide +kernel) (by decide +kernel), xG_mem 65 (by decide +kernel) (by decide +kernel), xG_mem 1180 (by decide +kernel) (by decide +kernel), by decide, by decide, by decide +kernel⟩
theorem ml_Mod_91 : Cond.methodLink R_Mod 91 y_Mod_freeObject ∈ xG := xG_mem 1177 (by decide +kernel) (by decide +kernel)
theorem fd_Mod_13 : xFd R_Mod 13 10 2 := ⟨R_Mod, T_Mod, 32, rfl, in_Mod, by decide, xG_mem 986 (by decide +kernel) (by decide +kernel)⟩
def y_Mod_take : MethodName := ⟨"RegionPoolModel", "take", "(II)I"⟩
abbrev cd_Mod_take : ByteArray := prog_12_method_8_code
def p_Mod_take_J88 (Q : Int32 → xS → Prop) (x1 x2 x3 : Int32) (σ : xS) : Prop :=
  (vp_in x1 8 ∧ (vp_in x1 8 ∧ Q x3 (xu σ 53 x1.toNatClampNeg ((σ 53 x1.toNatClampNeg) + x2))))
def p_Mod_take_J38 (Q : Int32 → xS → Prop) (x1 x2 x3 x4 : Int32) (y0 : Int32) (σ : xS) : Prop :=
  ((¬ y0 = 0 → p_Mod_take_J88 Q x1 x2 x3 σ) ∧ (y0 = 0 → (vp_in ((40 * x1) + x4) 320 ∧ (vp_in x1 8 ∧ (vp_in x1 8 ∧ (vp_in (x3 / 16) 40 ∧ (vp_in x1 8 ∧ p_Mod_take_J88 Q x1 x2 x3 (xu (xu (xu (xu σ 52 ((40 * x1) + x4).toNatClampNeg (x3 / 16)) 51 x1.toNatClampNeg (((xu σ 52 ((40 * x1) + x4).toNatClampNeg (x3 / 16)) 51 x1.toNatClampNeg) + 1)) 50 (x3 / 16).toNatClampNeg (vp_nar .boolean 1)) 53 x1.toNatClampNeg 0))))))))
def p_Mod_take_J37 (Q : Int32 → xS → Prop) (x1 x2 x3 x4 : Int32) (σ : xS) : Prop :=
  p_Mod_take_J38 Q x1 x2 x3 x4 0 σ
def p_Mod_take (x1 x2 : Int32) (σ : xS) (Q : Int32 → xS → Prop) : Prop :=
  p_Mod_find x1 x2 σ (fun r2 σ1 => (vp_in x1 8 ∧ (∀ z4 : Int32, z4 = (σ1 51 x1.toNatClampNeg) → ((z4 ≤ 0 → p_Mod_take_J37 Q x1 x2 r2 z4 σ1) ∧ (¬ z4 ≤ 0 → (vp_in x1 8 ∧ ((16 < ((σ1 53 x1.toNatClampNeg) + x2) → p_Mod_take_J37 Q x1 x2 r2 z4 σ1) ∧ (¬ 16 < ((σ1 53 x1.toNatClampNeg) + x2) → p_Mod_take_J38 Q x1 x2 r2 z4 1 σ1))))))))
abbrev rm_Mod_take : Room := { frames := 2, cells := 0, slots := 0, locals := 45 }
theorem d_Mod_take_0 : decode cd_Mod_take 0 = .ok (.aload_n 0, 1) := by decide +kernel
theorem d_Mod_take_1 : decode cd_Mod_take 1 = .ok (.iload_n 1, 1) := by decide +kernel
theorem d_Mod_take_2 : decode cd_Mod_take 2 = .ok (.iload_n 2, 1) := by decide +kernel
theorem d_Mod_take_3 : decode cd_Mod_take 3 = .ok (.invokevirtual 87, 3) := by decide +kernel
theorem d_Mod_take_6 : decode cd_Mod_take 6 = .ok (.istore_n 3, 1) := by decide +kernel
theorem d_Mod_take_7 : decode cd_Mod_take 7 = .ok (.aload_n 0, 1) := by decide +kernel
theorem d_Mod_take_8 : decode cd_Mod_take 8 = .ok (.getfield 44, 3) := by decide +kernel
theorem d_Mod_take_11 : decode cd_Mod_take 11 = .ok (.iload_n 1, 1) := by decide +kernel
theorem d_Mod_take_12 : decode cd_Mod_take 12 = .ok (.iaload, 1) := by decide +kernel
theorem d_Mod_take_13 : decode cd_Mod_take 13 = .ok (.istore 4, 2) := by decide +kernel
theorem d_Mod_take_15 : decode cd_Mod_take 15 = .ok (.iload 4, 2) := by decide +kernel
theorem d_Mod_take_17 : decode cd_Mod_take 17 = .ok (.ifCond .le 20, 3) := by decide +kernel
theorem d_Mod_take_20 : decode cd_Mod_take 20 = .ok (.aload_n 0, 1) := by decide +kernel
theorem d_Mod_take_21 : decode cd_Mod_take 21 = .ok (.getfield 50, 3) := by decide +kernel
theorem d_Mod_take_24 : decode cd_Mod_take 24 = .ok (.iload_n 1, 1) := by decide +kernel
theorem d_Mod_take_25 : decode cd_Mod_take 25 = .ok (.iaload, 1) := by decide +kernel
theorem d_Mod_take_26 : decode cd_Mod_take 26 = .ok (.iload_n 2, 1) := by decide +kernel
theorem d_Mod_take_27 : decode cd_Mod_take 27 = .ok (.iadd, 1) := by decide +kernel
theorem d_Mod_take_28 : decode cd_Mod_take 28 = .ok (.bipush 16, 2) := by decide +kernel
theorem d_Mod_take_30 : decode cd_Mod_take 30 = .ok (.if_icmp .gt 7, 3) := by decide +kernel
theorem d_Mod_take_33 : decode cd_Mod_take 33 = .ok (.iconst 1, 1) := by decide +kernel
theorem d_Mod_take_34 : decode cd_Mod_take 34 = .ok (.goto 4, 3) := by decide +kernel
theorem d_Mod_take_37 : decode cd_Mod_take 37 = .ok (.iconst 0, 1) := by decide +kernel
theorem d_Mod_take_38 : decode cd_Mod_take 38 = .ok (.istore 5, 2) := by decide +kernel
theorem d_Mod_take_40 : decode cd_Mod_take 40 = .ok (.iload 5, 2) := by decide +kernel
theorem d_Mod_take_42 : decode cd_Mod_take 42 = .ok (.ifCond .ne 46, 3) := by decide +kernel
theorem d_Mod_take_45 : decode cd_Mod_take 45 = .ok (.aload_n 0, 1) := by decide +kernel
theorem d_Mod_take_46 : decode cd_Mod_take 46 = .ok (.getfield 47, 3) := by decide +kernel
theorem d_Mod_take_49 : decode cd_Mod_take 49 = .ok (.bipush 40, 2) := by decide +kernel
theorem d_Mod_take_51 : decode cd_Mod_take 51 = .ok (.iload_n 1, 1) := by decide +kernel
theorem d_Mod_take_52 : decode cd_Mod_take 52 = .ok (.imul, 1) := by decide +kernel
theorem d_Mod_take_53 : decode cd_Mod_take 53 = .ok (.iload 4, 2) := by decide +kernel
theorem d_Mod_take_55 : decode cd_Mod_take 55 = .ok (.iadd, 1) := by decide +kernel
theorem d_Mod_take_56 : decode cd_Mod_take 56 = .ok (.iload_n 3, 1) := by decide +kernel
theorem d_Mod_take_57 : decode cd_Mod_take 57 = .ok (.bipush 16, 2) := by decide +kernel
theorem d_Mod_take_59 : decode cd_Mod_take 59 = .ok (.idiv, 1) := by decide +kernel
theorem d_Mod_take_60 : decode cd_Mod_take 60 = .ok (.iastore, 1) := by decide +kernel
theorem d_Mod_take_61 : decode cd_Mod_take 61 = .ok (.aload_n 0, 1) := by decide +kernel
theorem d_Mod_take_62 : decode cd_Mod_take 62 = .ok (.getfield 44, 3) := by decide +kernel
theorem d_Mod_take_65 : decode cd_Mod_take 65 = .ok (.iload_n 1, 1) := by decide +kernel
theorem d_Mod_take_66 : decode cd_Mod_take 66 = .ok (.dup2, 1) := by decide +kernel
theorem d_Mod_take_67 : decode cd_Mod_take 67 = .ok (.iaload, 1) := by decide +kernel
theorem d_Mod_take_68 : decode cd_Mod_take 68 = .ok (.iconst 1, 1) := by decide +kernel
theorem d_Mod_take_69 : decode cd_Mod_take 69 = .ok (.iadd, 1) := by decide +kernel
theorem d_Mod_take_70 : decode cd_Mod_take 70 = .ok (.iastore, 1) := by decide +kernel
theorem d_Mod_take_71 : decode cd_Mod_take 71 = .ok (.aload_n 0, 1) := by decide +kernel
theorem d_Mod_take_72 : decode cd_Mod_take 72 = .ok (.getfield 41, 3) := by decide +kernel
theorem d_Mod_take_75 : decode cd_Mod_take 75 = .ok (.iload_n 3, 1) := by decide +kernel
theorem d_Mod_take_76 : decode cd_Mod_take 76 = .ok (.bipush 16, 2) := by decide +kernel
theorem d_Mod_take_78 : decode cd_Mod_take 78 = .ok (.idiv, 1) := by decide +kernel
theorem d_Mod_take_79 : decode cd_Mod_take 79 = .ok (.iconst 1, 1) := by decide +kernel
theorem d_Mod_take_80 : decode cd_Mod_take 80 = .ok (.bastore, 1) := by decide +kernel
theorem d_Mod_take_81 : decode cd_Mod_take 81 = .ok (.aload_n 0, 1) := by decide +kernel
theorem d_Mod_take_82 : decode cd_Mod_take 82 = .ok (.getfield 50, 3) := by decide +kernel
theorem d_Mod_take_85 : decode cd_Mod_take 85 = .ok (.iload_n 1, 1) := by decide +kernel
theorem d_Mod_take_86 : decode cd_Mod_take 86 = .ok (.iconst 0, 1) := by decide +kernel
theorem d_Mod_take_87 : decode cd_Mod_take 87 = .ok (.iastore, 1) := by decide +kernel
theorem d_Mod_take_88 : decode cd_Mod_take 88 = .ok (.aload_n 0, 1) := by decide +kernel
theorem d_Mod_take_89 : decode cd_Mod_take 89 = .ok (.getfield 50, 3) := by decide +kernel
theorem d_Mod_take_92 : decode cd_Mod_take 92 = .ok (.iload_n 1, 1) := by decide +kernel
theorem d_Mod_take_93 : decode cd_Mod_take 93 = .ok (.dup2, 1) := by decide +kernel
theorem d_Mod_take_94 : decode cd_Mod_take 94 = .ok (.iaload, 1) := by decide +kernel
theorem d_Mod_take_95 : decode cd_Mod_take 95 = .ok (.iload_n 2, 1) := by decide +kernel
theorem d_Mod_take_96 : decode cd_Mod_take 96 = .ok (.iadd, 1) := by decide +kernel
theorem d_Mod_take_97 : decode cd_Mod_take 97 = .ok (.iastore, 1) := by decide +kernel
theorem d_Mod_take_98 : decode cd_Mod_take 98 = .ok (.iload_n 3, 1) := by decide +kernel
theorem d_Mod_take_99 : decode cd_Mod_take 99 = .ok (.ireturn, 1) := by decide +kernel
set_option maxRecDepth 100000 in
set_option maxHeartbeats 4000000 in
theorem t_Mod_take_J88 {p : Program} {l : Launch} {e : Env} {s : State} {m : MethodId} {args : Array Value} {below : List Frame} {meth : Method} {c : Code} {V : xV} (C : xC p s m args c cd_Mod_take 6 R_Mod V) (hlocks : meth.locks = false) (hr : meth.sig.returnType = (some .int)) {Q : Int32 → xS → Prop} {x1 x2 x3 : Int32} {σ : xS} {H : Heap} {locs : List Loc} {ls : Array Slot} (h : p_Mod_take_J88 Q x1 x2 x3 σ) (hI : xI V s.heap σ H locs) (hl : lv_has ls 6 [(0, .ref (V.2.2 31)), (1, .int x1), (2, .int x2), (3, .int x3)]) : W p l e rm_Mod_take s m args below meth c H locs 0 0 (xZi below V args s Q) (F0 m 88 ls []) := by
  have hx := C.1
  have hb := C.2.1
  unfold p_Mod_take_J88 at h
  refine lv_aload_n hx hb d_Mod_take_88 rfl (lv_at hl 0 rfl) ?_
  refine x_get C hI (d := 31) (by decide) (xE31 V _) fd_Mod_50 rfl d_Mod_take_89 ?_
  refine lv_iload_n hx hb d_Mod_take_92 rfl (lv_at hl 1 rfl) ?_
  refine lv_dup2_11 hx hb d_Mod_take_93 rfl rfl ?_
  obtain ⟨i7, h⟩ := h
  refine x_iald C hI (d := 53) (by decide) (xE53 V) i7 d_Mod_take_94 ?_
  refine lv_iload_n hx hb d_Mod_take_95 rfl (lv_at hl 2 rfl) ?_
  refine lv_iadd hx hb d_Mod_take_96 ?_
  obtain ⟨i8, h⟩ := h
  refine x_iast C hI (d := 53) (by decide) (xE53 V) i8 d_Mod_take_97 (fun H locs hI => ?_)
  refine lv_iload_n hx hb d_Mod_take_98 rfl (lv_at hl 3 rfl) ?_
  exact x_iret C hlocks hr hI h d_Mod_take_99
set_option maxRecDepth 100000 in
set_option maxHeartbeats 4000000 in
theorem t_Mod_take_J38 {p : Program} {l : Launch} {e : Env} {s : State} {m : MethodId} {args : Array Value} {below : List Frame} {meth : Method} {c : Code} {V : xV} (C : xC p s m args c cd_Mod_take 6 R_Mod V) (hlocks : meth.locks = false) (hr : meth.sig.returnType = (some .int)) {Q : Int32 → xS → Prop} {x1 x2 x3 x4 : Int32} {y0 : Int32} {σ : xS} {H : Heap} {locs : List Loc} {ls : Array Slot} (h : p_Mod_take_J38 Q x1 x2 x3 x4 y0 σ) (hI : xI V s.heap σ H locs) (hl : lv_has ls 6 [(0, .ref (V.2.2 31)), (1, .int x1), (2, .int x2), (3, .int x3), (4, .int x4)]) : W p l e rm_Mod_take s m args below meth c H locs 0 0 (xZi below V args s Q) (F0 m 38 ls [.int y0]) := by
  have hx := C.1
  have hb := C.2.1
  unfold p_Mod_take_J38 at h
  refine lv_istore (lv' := [(5, .int y0), (0, .ref (V.2.2 31)), (1, .int x1), (2, .int x2), (3, .int x3), (4, .int x4)]) hx hb d_Mod_take_38 hl (by decide) rfl (fun ls hl => ?_)
  refine lv_iload hx hb d_Mod_take_40 (lv_at hl 0 rfl) ?_
  refine lv_if_ne (tgt := 88) hx hb d_Mod_take_42 (by decide) (fun c6 => ?_) (fun c6 => ?_)
  · have h := h.1 c6
    exact t_Mod_take_J88 C hlocks hr h hI (lv_sub hl [1, 2, 3, 4] rfl)
  · have h := h.2 c6
    refine lv_aload_n hx hb d_Mod_take_45 rfl (lv_at hl 1 rfl) ?_
    refine x_get C hI (d := 31) (by decide) (xE31 V _) fd_Mod_47 rfl d_Mod_take_46 ?_
    refine lv_bipush (v := 40) hx hb d_Mod_take_49 (by decide) ?_
    refine lv_iload_n hx hb d_Mod_take_51 rfl (lv_at hl 2 rfl) ?_
    refine lv_imul hx hb d_Mod_take_52 ?_
    refine lv_iload hx hb d_Mod_take_53 (lv_at hl 5 rfl) ?_
    refine lv_iadd hx hb d_Mod_take_55 ?_
    refine lv_iload_n hx hb d_Mod_take_56 rfl (lv_at hl 4 rfl) ?_
    refine lv_bipush (v := 16) hx hb d_Mod_take_57 (by decide) ?_
    refine lv_idiv hx hb d_Mod_take_59 (by decide) ?_
    obtain ⟨i9, h⟩ := h
    refine x_iast C hI (d := 52) (by decide) (xE52 V) i9 d_Mod_take_60 (fun H locs hI => ?_)
    refine lv_aload_n hx hb d_Mod_take_61 rfl (lv_at hl 1 rfl) ?_
    refine x_get C hI (d := 31) (by decide) (xE31 V _) fd_Mod_44 rfl d_Mod_take_62 ?_
    refine lv_iload_n hx hb d_Mod_take_65 rfl (lv_at hl 2 rfl) ?_
    refine lv_dup2_11 hx hb d_Mod_take_66 rfl rfl ?_
    obtain ⟨i10, h⟩ := h
    refine x_iald C hI (d := 51) (by decide) (xE51 V) i10 d_Mod_take_67 ?_
    refine lv_iconst (v := 1) hx hb d_Mod_take_68 (by decide) ?_
    refine lv_iadd hx hb d_Mod_take_69 ?_
    obtain ⟨i11, h⟩ := h
    refine x_iast C hI (d := 51) (by decide) (xE51 V) i11 d_Mod_take_70 (fun H locs hI => ?_)
    refine lv_aload_n hx hb d_Mod_take_71 rfl (lv_at hl 1 rfl) ?_
    refine x_get C hI (d := 31) (by decide) (xE31 V _) fd_Mod_41 rfl d_Mod_take_72 ?_
    refine lv_iload_n hx hb d_Mod_take_75 rfl (lv_at hl 4 rfl) ?_
    refine lv_bipush (v := 16) hx hb d_Mod_take_76 (by decide) ?_
    refine lv_idiv hx hb d_Mod_take_78 (by decide) ?_
    refine lv_iconst (v := 1) hx hb d_Mod_take_79 (by decide) ?_
    obtain ⟨i12, h⟩ := h
    refine x_zast C hI (d := 50) (by decide) (xE50 V) i12 d_Mod_take_80 (fun H locs hI => ?_)
    refine lv_aload_n hx hb d_Mod_take_81 rfl (lv_at hl 1 rfl) ?_
    refine x_get C hI (d := 31) (by decide) (xE31 V _) fd_Mod_50 rfl d_Mod_take_82 ?_
    refine lv_iload_n hx hb d_Mod_take_85 rfl (lv_at hl 2 rfl) ?_
    refine lv_iconst (v := 0) hx hb d_Mod_take_86 (by decide) ?_
    obtain ⟨i13, h⟩ := h
    refine x_iast C hI (d := 53) (by decide) (xE53 V) i13 d_Mod_take_87 (fun H locs hI => ?_)
    exact t_Mod_take_J88 C hlocks hr h hI (lv_sub hl [1, 2, 3, 4] rfl)
set_option maxRecDepth 100000 in
set_option maxHeartbeats 4000000 in
theorem t_Mod_take_J37 {p : Program} {l : Launch} {e : Env} {s : State} {m : MethodId} {args : Array Value} {below : List Frame} {meth : Method} {c : Code} {V : xV} (C : xC p s m args c cd_Mod_take 6 R_Mod V) (hlocks : meth.locks = false) (hr : meth.sig.returnType = (some .int)) {Q : Int32 → xS → Prop} {x1 x2 x3 x4 : Int32} {σ : xS} {H : Heap} {locs : List Loc} {ls : Array Slot} (h : p_Mod_take_J37 Q x1 x2 x3 x4 σ) (hI : xI V s.heap σ H locs) (hl : lv_has ls 6 [(0, .ref (V.2.2 31)), (1, .int x1), (2, .int x2), (3, .int x3), (4, .int x4)]) : W p l e rm_Mod_take s m args below meth c H locs 0 0 (xZi below V args s Q) (F0 m 37 ls []) := by
  have hx := C.1
  have hb := C.2.1
  unfold p_Mod_take_J37 at h
  refine lv_iconst (v := 0) hx hb d_Mod_take_37 (by decide) ?_
  exact t_Mod_take_J38 C hlocks hr h hI (lv_sub hl [0, 1, 2, 3, 4] rfl)
set_option maxRecDepth 100000 in
set_option maxHeartbeats 4000000 in
theorem c_Mod_take {l : Launch} {V : xV} {σ : xS} {x1 x2 : Int32} {Q : Int32 → xS → Prop} (h : p_Mod_take x1 x2 σ Q) : xMi l y_Mod_take (.code y_Mod_take cd_Mod_take 6 (some .int) :: xG) rm_Mod_take V [.ref (V.2.2 31), .int x1, .int x2] σ Q := by
  refine x_begini (by decide) (Nat.le_of_ble_eq_true rfl) (fun p e s m below meth c ls C hlocks hr hI hl => ?_)
  have C : xC p s m _ c cd_Mod_take 6 R_Mod V := C
  have hx := C.1
  have hb := C.2.1
  have hl : lv_has ls 6 [(0, .ref (V.2.2 31)), (1, .int x1), (2, .int x2)] := hl
  unfold p_Mod_take at h
  refine lv_aload_n hx hb d_Mod_take_0 rfl (lv_at hl 0 rfl) ?_
  refine lv_iload_n hx hb d_Mod_take_1 rfl (lv_at hl 1 rfl) ?_
  refine lv_iload_n hx hb d_Mod_take_2 rfl (lv_at hl 2 rfl) ?_
  refine x_calli C hI hl.1 (d := 31) (As := [.int x1, .int x2]) (rest := []) (by decide) (c_Mod_find h) (xE31 V _) rfl yw_Mod_find ml_Mod_87 rfl rfl ⟨Nat.le_of_ble_eq_true rfl, Nat.le_of_ble_eq_true rfl⟩ rfl rfl (Nat.le_of_ble_eq_true rfl) d_Mod_take_3 ⟨Nat.zero_le _, Nat.zero_le _⟩ (fun r2 σ1 H locs h hI => ?_)
  refine lv_istore_n (lv' := [(3, .int r2), (0, .ref (V.2.2 31)), (1, .int x1), (2, .int x2)]) hx hb d_Mod_take_6 rfl hl (by decide) rfl (fun ls hl => ?_)
  refine lv_aload_n hx hb d_Mod_take_7 rfl (lv_at hl 1 rfl) ?_
  refine x_get C hI (d := 31) (by decide) (xE31 V _) fd_Mod_44 rfl d_Mod_take_8 ?_
  refine lv_iload_n hx hb d_Mod_take_11 rfl (lv_at hl 2 rfl) ?_
  obtain ⟨i3, h⟩ := h
  refine x_iald C hI (d := 51) (by decide) (xE51 V) i3 d_Mod_take_12 ?_
  refine lv_topi (fun z4 ez4 => ?_)
  have h := h z4 ez4
  refine lv_istore (lv' := [(4, .int z4), (3, .int r2), (0, .ref (V.2.2 31)), (1, .int x1), (2, .int x2)]) hx hb d_Mod_take_13 hl (by decide) rfl (fun ls hl => ?_)
  refine lv_iload hx hb d_Mod_take_15 (lv_at hl 0 rfl) ?_
  refine lv_if_le (tgt := 37) hx hb d_Mod_take_17 (by decide) (fun c5 => ?_) (fun c5 => ?_)
  · have h := h.1 c5
    exact t_Mod_take_J37 C hlocks hr h hI (lv_sub hl [2, 3, 4, 1, 0] rfl)
  · have h := h.2 c5
    refine lv_aload_n hx hb d_Mod_take_20 rfl (lv_at hl 2 rfl) ?_
    refine x_get C hI (d := 31) (by decide) (xE31 V _) fd_Mod_50 rfl d_Mod_take_21 ?_
    refine lv_iload_n hx hb d_Mod_take_24 rfl (lv_at hl 3 rfl) ?_
    obtain ⟨i14, h⟩ := h
    refine x_iald C hI (d := 53) (by decide) (xE53 V) i14 d_Mod_take_25 ?_
    refine lv_iload_n hx hb d_Mod_take_26 rfl (lv_at hl 4 rfl) ?_
    refine lv_iadd hx hb d_Mod_take_27 ?_
    refine lv_bipush (v := 16) hx hb d_Mod_take_28 (by decide) ?_
    refine lv_icmp_gt (tgt := 37) hx hb d_Mod_take_30 (by decide) (fun c15 => ?_) (fun c15 => ?_)
    · have h := h.1 c15
      exact t_Mod_take_J37 C hlocks hr h hI (lv_sub hl [2, 3, 4, 1, 0] rfl)
    · have h := h.2 c15
      refine lv_iconst (v := 1) hx hb d_Mod_take_33 (by decide) ?_
      refine lv_goto (tgt := 38) hx hb d_Mod_take_34 (by decide) ?_
      exact t_Mod_take_J38 C hlocks hr h hI (lv_sub hl [2, 3, 4, 1, 0] rfl)
theorem yw_Mod_take : xY y_Mod_take cd_Mod_take 6 (some .int) 2 := ⟨xG_mem 1183 (by decide +kernel) (by decide +kernel), xG_mem 47 (by decide +kernel) (by decide +kernel), xG_mem 65 (by decide +kernel) (by decide +kernel), xG_mem 1184 (by decide +kernel) (by decide +kernel), by decide, by decide, by decide +kernel⟩
theorem ml_Mod_94 : Cond.methodLink R_Mod 94 y_Mod_take ∈ xG := xG_mem 1181 (by decide +kernel) (by decide +kernel)
def b_Mod_create_L80 (K80 : Int32 → Int32 → Int32 → xS → Prop) (Q : Int32 → xS → Prop) (x4 x5 x6 : Int32) (σ : xS) : Prop :=
  ((x4 ≤ x6 → Q x5 σ) ∧ (¬ x4 ≤ x6 → (vp_in ((15 * x5) + x6) 9600 ∧ (vp_in ((15 * x5) + x6) 9600 ∧ (∀ z16 : Int32, z16 = x6 + 1 → K80 x4 x5 z16 (xu (xu σ 46 ((15 * x5) + x6).toNatClampNeg 0) 47 ((15 * x5) + x6).toNatClampNeg 0))))))
def p_Mod_create_L80 (Q : Int32 → xS → Prop) (n : Nat) : Int32 → Int32 → Int32 → xS → Prop := Nat.rec (motive := fun _ => Int32 → Int32 → Int32 → xS → Prop) (fun _ _ _ _ => False) (fun _ K x4 x5 x6 σ => b_Mod_create_L80 K Q x4 x5 x6 σ) n
def p_Mod_create (x1 x2 x3 x4 : Int32) (σ : xS) (Q : Int32 → xS → Prop) : Prop :=
  p_Mod_freeObject σ (fun r2 σ1 => (vp_in r2 640 ∧ (vp_in r2 640 ∧ (vp_in r2 640 ∧ (vp_in r2 640 ∧ (vp_in r2 640 ∧ p_Mod_take x1 (x4 + 1) (xu (xu (xu (xu (xu σ1 40 r2.toNatClampNeg x2) 41 r2.toNatClampNeg x3) 42 r2.toNatClampNeg x4) 43 r2.toNatClampNeg x1) 45 r2.toNatClampNeg 0) (fun r9 σ8 => (vp_in r2 640 ∧ (vp_in r2 640 ∧ (vp_in ((xu σ8 44 r2.toNatClampNeg r9) 44 r2.toNatClampNeg) 640 ∧ (∃ n, p_Mod_create_L80 Q n x4 r2 0 (xu (xu σ8 44 r2.toNatClampNeg r9) 49 ((xu σ8 44 r2.toNatClampNeg r9) 44 r2.toNatClampNeg).toNatClampNeg r2))))))))))))
abbrev rm_Mod_create : Room := { frames := 3, cells := 0, slots := 0, locals := 70 }
theorem d_Mod_create_0 : decode cd_Mod_create 0 = .ok (.aload_n 0, 1) := by decide +kernel
theorem d_Mod_create_1 : decode cd_Mod_create 1 = .ok (.invokevirtual 91, 3) := by decide +kernel
theorem d_Mod_create_4 : decode cd_Mod_create 4 = .ok (.istore 5, 2) := by decide +kernel
theorem d_Mod_create_6 : decode cd_Mod_create 6 = .ok (.aload_n 0, 1) := by decide +kernel
theorem d_Mod_create_7 : decode cd_Mod_create 7 = .ok (.getfield 7, 3) := by decide +kernel
theorem d_Mod_create_10 : decode cd_Mod_create 10 = .ok (.iload 5, 2) := by decide +kernel
theorem d_Mod_create_12 : decode cd_Mod_create 12 = .ok (.iload_n 2, 1) := by decide +kernel
theorem d_Mod_create_13 : decode cd_Mod_create 13 = .ok (.iastore, 1) := by decide +kernel
theorem d_Mod_create_14 : decode cd_Mod_create 14 = .ok (.aload_n 0, 1) := by decide +kernel
theorem d_Mod_create_15 : decode cd_Mod_create 15 = .ok (.getfield 13, 3) := by decide +kernel
theorem d_Mod_create_18 : decode cd_Mod_create 18 = .ok (.iload 5, 2) := by decide +kernel
theorem d_Mod_create_20 : decode cd_Mod_create 20 = .ok (.iload_n 3, 1) := by decide +kernel
theorem d_Mod_create_21 : decode cd_Mod_create 21 = .ok (.iastore, 1) := by decide +kernel
theorem d_Mod_create_22 : decode cd_Mod_create 22 = .ok (.aload_n 0, 1) := by decide +kernel
theorem d_Mod_create_23 : decode cd_Mod_create 23 = .ok (.getfield 16, 3) := by decide +kernel
theorem d_Mod_create_26 : decode cd_Mod_create 26 = .ok (.iload 5, 2) := by decide +kernel
theorem d_Mod_create_28 : decode cd_Mod_create 28 = .ok (.iload 4, 2) := by decide +kernel
theorem d_Mod_create_30 : decode cd_Mod_create 30 = .ok (.iastore, 1) := by decide +kernel
theorem d_Mod_create_31 : decode cd_Mod_create 31 = .ok (.aload_n 0, 1) := by decide +kernel
theorem d_Mod_create_32 : decode cd_Mod_create 32 = .ok (.getfield 19, 3) := by decide +kernel
theorem d_Mod_create_35 : decode cd_Mod_create 35 = .ok (.iload 5, 2) := by decide +kernel
theorem d_Mod_create_37 : decode cd_Mod_create 37 = .ok (.iload_n 1, 1) := by decide +kernel
theorem d_Mod_create_38 : decode cd_Mod_create 38 = .ok (.iastore, 1) := by decide +kernel
theorem d_Mod_create_39 : decode cd_Mod_create 39 = .ok (.aload_n 0, 1) := by decide +kernel
theorem d_Mod_create_40 : decode cd_Mod_create 40 = .ok (.getfield 25, 3) := by decide +kernel
theorem d_Mod_create_43 : decode cd_Mod_create 43 = .ok (.iload 5, 2) := by decide +kernel
theorem d_Mod_create_45 : decode cd_Mod_create 45 = .ok (.iconst 0, 1) := by decide +kernel
theorem d_Mod_create_46 : decode cd_Mod_create 46 = .ok (.iastore, 1) := by decide +kernel
theorem d_Mod_create_47 : decode cd_Mod_create 47 = .ok (.aload_n 0, 1) := by decide +kernel
theorem d_Mod_create_48 : decode cd_Mod_create 48 = .ok (.getfield 22, 3) := by decide +kernel
theorem d_Mod_create_51 : decode cd_Mod_create 51 = .ok (.iload 5, 2) := by decide +kernel
theorem d_Mod_create_53 : decode cd_Mod_create 53 = .ok (.aload_n 0, 1) := by decide +kernel
theorem d_Mod_create_54 : decode cd_Mod_create 54 = .ok (.iload_n 1, 1) := by decide +kernel
theorem d_Mod_create_55 : decode cd_Mod_create 55 = .ok (.iload 4, 2) := by decide +kernel
theorem d_Mod_create_57 : decode cd_Mod_create 57 = .ok (.iconst 1, 1) := by decide +kernel
theorem d_Mod_create_58 : decode cd_Mod_create 58 = .ok (.iadd, 1) := by decide +kernel
theorem d_Mod_create_59 : decode cd_Mod_create 59 = .ok (.invokevirtual 94, 3) := by decide +kernel
theorem d_Mod_create_62 : decode cd_Mod_create 62 = .ok (.iastore, 1) := by decide +kernel
theorem d_Mod_create_63 : decode cd_Mod_create 63 = .ok (.aload_n 0, 1) := by decide +kernel
theorem d_Mod_create_64 : decode cd_Mod_create 64 = .ok (.getfield 38, 3) := by decide +kernel
theorem d_Mod_create_67 : decode cd_Mod_create 67 = .ok (.aload_n 0, 1) := by decide +kernel
theorem d_Mod_create_68 : decode cd_Mod_create 68 = .ok (.getfield 22, 3) := by decide +kernel
theorem d_Mod_create_71 : decode cd_Mod_create 71 = .ok (.iload 5, 2) := by decide +kernel
theorem d_Mod_create_73 : decode cd_Mod_create 73 = .ok (.iaload, 1) := by decide +kernel
theorem d_Mod_create_74 : decode cd_Mod_create 74 = .ok (.iload 5, 2) := by decide +kernel
theorem d_Mod_create_76 : decode cd_Mod_create 76 = .ok (.iastore, 1) := by decide +kernel
theorem d_Mod_create_77 : decode cd_Mod_create 77 = .ok (.iconst 0, 1) := by decide +kernel
theorem d_Mod_create_78 : decode cd_Mod_create 78 = .ok (.istore 6, 2) := by decide +kernel
theorem d_Mod_create_80 : decode cd_Mod_create 80 = .ok (.iload 6, 2) := by decide +kernel
theorem d_Mod_create_82 : decode cd_Mod_create 82 = .ok (.iload 4, 2) := by decide +kernel
theorem d_Mod_create_84 : decode cd_Mod_create 84 = .ok (.if_icmp .ge 37, 3) := by decide +kernel
theorem d_Mod_create_87 : decode cd_Mod_create 87 = .ok (.aload_n 0, 1) := by decide +kernel
theorem d_Mod_create_88 : decode cd_Mod_create 88 = .ok (.getfield 28, 3) := by decide +kernel
theorem d_Mod_create_91 : decode cd_Mod_create 91 = .ok (.bipush 15, 2) := by decide +kernel
theorem d_Mod_create_93 : decode cd_Mod_create 93 = .ok (.iload 5, 2) := by decide +kernel
theorem d_Mod_create_95 : decode cd_Mod_create 95 = .ok (.imul, 1) := by decide +kernel
theorem d_Mod_create_96 : decode cd_Mod_create 96 = .ok (.iload 6, 2) := by decide +kernel
theorem d_Mod_create_98 : decode cd_Mod_create 98 = .ok (.iadd, 1) := by decide +kernel
theorem d_Mod_create_99 : decode cd_Mod_create 99 = .ok (.iconst 0, 1) := by decide +kernel
theorem d_Mod_create_100 : decode cd_Mod_create 100 = .ok (.iastore, 1) := by decide +kernel
theorem d_Mod_create_101 : decode cd_Mod_create 101 = .ok (.aload_n 0, 1) := by decide +kernel
theorem d_Mod_create_102 : decode cd_Mod_create 102 = .ok (.getfield 31, 3) := by decide +kernel
theorem d_Mod_create_105 : decode cd_Mod_create 105 = .ok (.bipush 15, 2) := by decide +kernel
theorem d_Mod_create_107 : decode cd_Mod_create 107 = .ok (.iload 5, 2) := by decide +kernel
theorem d_Mod_create_109 : decode cd_Mod_create 109 = .ok (.imul, 1) := by decide +kernel
theorem d_Mod_create_110 : decode cd_Mod_create 110 = .ok (.iload 6, 2) := by decide +kernel
theorem d_Mod_create_112 : decode cd_Mod_create 112 = .ok (.iadd, 1) := by decide +kernel
theorem d_Mod_create_113 : decode cd_Mod_create 113 = .ok (.iconst 0, 1) := by decide +kernel
theorem d_Mod_create_114 : decode cd_Mod_create 114 = .ok (.iastore, 1) := by decide +kernel
theorem d_Mod_create_115 : decode cd_Mod_create 115 = .ok (.iinc 6 1, 3) := by decide +kernel
theorem d_Mod_create_118 : decode cd_Mod_create 118 = .ok (.goto (-38), 3) := by decide +kernel
theorem d_Mod_create_121 : decode cd_Mod_create 121 = .ok (.iload 5, 2) := by decide +kernel
theorem d_Mod_create_123 : decode cd_Mod_create 123 = .ok (.ireturn, 1) := by decide +kernel
set_option maxRecDepth 100000 in
set_option maxHeartbeats 4000000 in
theorem s_Mod_create_L80 {p : Program} {l : Launch} {e : Env} {s : State} {m : MethodId} {args : Array Value} {below : List Frame} {meth : Method} {c : Code} {V : xV} (C : xC p s m args c cd_Mod_create 7 R_Mod V) (hlocks : meth.locks = false) (hr : meth.sig.returnType = (some .int)) {Q : Int32 → xS → Prop} {K80 : Int32 → Int32 → Int32 → xS → Prop} (hK80 : ∀ (x4 : Int32) (x5 : Int32) (x6 : Int32) (σ : xS) (H : Heap) (locs : List Loc) (ls : Array Slot), K80 x4 x5 x6 σ → xI V s.heap σ H locs → lv_has ls 7 [(0, .ref (V.2.2 31)), (4, .int x4), (5, .int x5), (6, .int x6)] → W p l e rm_Mod_create s m args below meth c H locs 0 0 (xZi below V args s Q) (F0 m 80 ls [])) {x4 x5 x6 : Int32} {σ : xS} {H : Heap} {locs : List Loc} {ls : Array Slot} (h : b_Mod_create_L80 K80 Q x4 x5 x6 σ) (hI : xI V s.heap σ H locs) (hl : lv_has ls 7 [(0, .ref (V.2.2 31)), (4, .int x4), (5, .int x5), (6, .int x6)]) : W p l e rm_Mod_create s m args below meth c H locs 0 0 (xZi below V args s Q) (F0 m 80 ls []) := by
  have hx := C.1
  have hb := C.2.1
  unfold b_Mod_create_L80 at h
  refine lv_iload hx hb d_Mod_create_80 (lv_at hl 3 rfl) ?_
  refine lv_iload hx hb d_Mod_create_82 (lv_at hl 1 rfl) ?_
  refine lv_icmp_ge (tgt := 121) hx hb d_Mod_create_84 (by decide) (fun c13 => ?_) (fun c13 => ?_)
  · have h := h.1 c13
    refine lv_iload hx hb d_Mod_create_121 (lv_at hl 2 rfl) ?_
    exact x_iret C hlocks hr hI h d_Mod_create_123
  · have h := h.2 c13
    refine lv_aload_n hx hb d_Mod_create_87 rfl (lv_at hl 0 rfl) ?_
    refine x_get C hI (d := 31) (by decide) (xE31 V _) fd_Mod_28 rfl d_Mod_create_88 ?_
    refine lv_bipush (v := 15) hx hb d_Mod_create_91 (by decide) ?_
    refine lv_iload hx hb d_Mod_create_93 (lv_at hl 2 rfl) ?_
    refine lv_imul hx hb d_Mod_create_95 ?_
    refine lv_iload hx hb d_Mod_create_96 (lv_at hl 3 rfl) ?_
    refine lv_iadd hx hb d_Mod_create_98 ?_
    refine lv_iconst (v := 0) hx hb d_Mod_create_99 (by decide) ?_
    obtain ⟨i14, h⟩ := h
    refine x_iast C hI (d := 46) (by decide) (xE46 V) i14 d_Mod_create_100 (fun H locs hI => ?_)
    refine lv_aload_n hx hb d_Mod_create_101 rfl (lv_at hl 0 rfl) ?_
    refine x_get C hI (d := 31) (by decide) (xE31 V _) fd_Mod_31 rfl d_Mod_create_102 ?_
    refine lv_bipush (v := 15) hx hb d_Mod_create_105 (by decide) ?_
    refine lv_iload hx hb d_Mod_create_107 (lv_at hl 2 rfl) ?_
    refine lv_imul hx hb d_Mod_create_109 ?_
    refine lv_iload hx hb d_Mod_create_110 (lv_at hl 3 rfl) ?_
    refine lv_iadd hx hb d_Mod_create_112 ?_
    refine lv_iconst (v := 0) hx hb d_Mod_create_113 (by decide) ?_
    obtain ⟨i15, h⟩ := h
    refine x_iast C hI (d := 47) (by decide) (xE47 V) i15 d_Mod_create_114 (fun H locs hI => ?_)
    obtain ⟨z16, ez16⟩ : ∃ y : Int32, y = x6 + 1 := ⟨_, rfl⟩
    have h := h z16 ez16
    refine lv_iinc (v := z16) (lv' := [(6, .int z16), (0, .ref (V.2.2 31)), (4, .int x4), (5, .int x5)]) hx hb d_Mod_create_115 hl (k := 3) rfl (by rw [ez16]; rfl) (by decide) rfl (fun ls hl => ?_)
    refine lv_goto (tgt := 80) hx hb d_Mod_create_118 (by decide) ?_
    exact hK80 _ _ _ _ _ _ _ h hI (lv_sub hl [1, 2, 3, 0] rfl)
theorem w_Mod_create_L80 {p : Program} {l : Launch} {e : Env} {s : State} {m : MethodId} {args : Array Value} {below : List Frame} {meth : Method} {c : Code} {V : xV} (C : xC p s m args c cd_Mod_create 7 R_Mod V) (hlocks : meth.locks = false) (hr : meth.sig.returnType = (some .int)) {Q : Int32 → xS → Prop} : ∀ (n : Nat) (x4 : Int32) (x5 : Int32) (x6 : Int32) (σ : xS) (H : Heap) (locs : List Loc) (ls : Array Slot), p_Mod_create_L80 Q n x4 x5 x6 σ → xI V s.heap σ H locs → lv_has ls 7 [(0, .ref (V.2.2 31)), (4, .int x4), (5, .int x5), (6, .int x6)] → W p l e rm_Mod_create s m args below meth c H locs 0 0 (xZi below V args s Q) (F0 m 80 ls []) := by
  intro n
  induction n with
  | zero =>
    intro x4 x5 x6 σ H locs ls h
    exact False.elim h
  | succ n ih =>
    intro x4 x5 x6 σ H locs ls h hI hl
    exact s_Mod_create_L80 C hlocks hr (K80 := p_Mod_create_L80 Q n) (fun x4 x5 x6 σ H locs ls h hI hl => ih x4 x5 x6 σ H locs ls h hI hl) h hI hl
set_option maxRecDepth 100000 in
set_option maxHeartbeats 4000000 in
theorem c_Mod_create {l : Launch} {V : xV} {σ : xS} {x1 x2 x3 x4 : Int32} {Q : Int32 → xS → Prop} (h : p_Mod_create x1 x2 x3 x4 σ Q) : xMi l y_Mod_create (.code y_Mod_create cd_Mod_create 7 (some .int) :: xG) rm_Mod_create V [.ref (V.2.2 31), .int x1, .int x2, .int x3, .int x4] σ Q := by
  refine x_begini (by decide) (Nat.le_of_ble_eq_true rfl) (fun p e s m below meth c ls C hlocks hr hI hl => ?_)
  have C : xC p s m _ c cd_Mod_create 7 R_Mod V := C
  have hx := C.1
  have hb := C.2.1
  have hl : lv_has ls 7 [(0, .ref (V.2.2 31)), (1, .int x1), (2, .int x2), (3, .int x3), (4, .int x4)] := hl
  unfold p_Mod_create at h
  refine lv_aload_n hx hb d_Mod_create_0 rfl (lv_at hl 0 rfl) ?_
  refine x_calli C hI hl.1 (d := 31) (As := []) (rest := []) (by decide) (c_Mod_freeObject h) (xE31 V _) rfl yw_Mod_freeObject ml_Mod_91 rfl rfl ⟨Nat.le_of_ble_eq_true rfl, Nat.le_of_ble_eq_true rfl⟩ rfl rfl (Nat.le_of_ble_eq_true rfl) d_Mod_create_1 ⟨Nat.zero_le _, Nat.zero_le _⟩ (fun r2 σ1 H locs h hI => ?_)
  refine lv_istore (lv' := [(5, .int r2), (0, .ref (V.2.2 31)), (1, .int x1), (2, .int x2), (3, .int x3), (4, .int x4)]) hx hb d_Mod_create_4 hl (by decide) rfl (fun ls hl => ?_)
  refine lv_aload_n hx hb d_Mod_create_6 rfl (lv_at hl 1 rfl) ?_
  refine x_get C hI (d := 31) (by decide) (xE31 V _) fd_Mod_7 rfl d_Mod_create_7 ?_
  refine lv_iload hx hb d_Mod_create_10 (lv_at hl 0 rfl) ?_
  refine lv_iload_n hx hb d_Mod_create_12 rfl (lv_at hl 3 rfl) ?_
  obtain ⟨i3, h⟩ := h
  refine x_iast C hI (d := 40) (by decide) (xE40 V) i3 d_Mod_create_13 (fun H locs hI => ?_)
  refine lv_aload_n hx hb d_Mod_create_14 rfl (lv_at hl 1 rfl) ?_
  refine x_get C hI (d := 31) (by decide) (xE31 V _) fd_Mod_13 rfl d_Mod_create_15 ?_
  refine lv_iload hx hb d_Mod_create_18 (lv_at hl 0 rfl) ?_
  refine lv_iload_n hx hb d_Mod_create_20 rfl (lv_at hl 4 rfl) ?_
  obtain ⟨i4, h⟩ := h
  refine x_iast C hI (d := 41) (by decide) (xE41 V) i4 d_Mod_create_21 (fun H locs hI => ?_)
  refine lv_aload_n hx hb d_Mod_create_22 rfl (lv_at hl 1 rfl) ?_
  refine x_get C hI (d := 31) (by decide) (xE31 V _) fd_Mod_16 rfl d_Mod_create_23 ?_
  refine lv_iload hx hb d_Mod_create_26 (lv_at hl 0 rfl) ?_
  refine lv_iload hx hb d_Mod_create_28 (lv_at hl 5 rfl) ?_
  obtain ⟨i5, h⟩ := h
  refine x_iast C hI (d := 42) (by decide) (xE42 V) i5 d_Mod_create_30 (fun H locs hI => ?_)
  refine lv_aload_n hx hb d_Mod_create_31 rfl (lv_at hl 1 rfl) ?_
  refine x_get C hI (d := 31) (by decide) (xE31 V _) fd_Mod_19 rfl d_Mod_create_32 ?_
  refine lv_iload hx hb d_Mod_create_35 (lv_at hl 0 rfl) ?_
  refine lv_iload_n hx hb d_Mod_create_37 rfl (lv_at hl 2 rfl) ?_
  obtain ⟨i6, h⟩ := h
  refine x_iast C hI (d := 43) (by decide) (xE43 V) i6 d_Mod_create_38 (fun H locs hI => ?_)
  refine lv_aload_n hx hb d_Mod_create_39 rfl (lv_at hl 1 rfl) ?_
  refine x_get C hI (d := 31) (by decide) (xE31 V _) fd_Mod_25 rfl d_Mod_create_40 ?_
  refine lv_iload hx hb d_Mod_create_43 (lv_at hl 0 rfl) ?_
  refine lv_iconst (v := 0) hx hb d_Mod_create_45 (by decide) ?_
  obtain ⟨i7, h⟩ := h
  refine x_iast C hI (d := 45) (by decide) (xE45 V) i7 d_Mod_create_46 (fun H locs hI => ?_)
  refine lv_aload_n hx hb d_Mod_create_47 rfl (lv_at hl 1 rfl) ?_
  refine x_get C hI (d := 31) (by decide) (xE31 V _) fd_Mod_22 rfl d_Mod_create_48 ?_
  refine lv_iload hx hb d_Mod_create_51 (lv_at hl 0 rfl) ?_
  refine lv_aload_n hx hb d_Mod_create_53 rfl (lv_at hl 1 rfl) ?_
  refine lv_iload_n hx hb d_Mod_create_54 rfl (lv_at hl 2 rfl) ?_
  refine lv_iload hx hb d_Mod_create_55 (lv_at hl 5 rfl) ?_
  refine lv_iconst (v := 1) hx hb d_Mod_create_57 (by decide) ?_
  refine lv_iadd hx hb d_Mod_create_58 ?_
  refine x_calli C hI hl.1 (d := 31) (As := [.int x1, .int (x4 + 1)]) (rest := [.int r2, .ref (V.2.2 44)]) (by decide) (c_Mod_take h) (xE31 V _) rfl yw_Mod_take ml_Mod_94 rfl rfl ⟨Nat.le_of_ble_eq_true rfl, Nat.le_of_ble_eq_true rfl⟩ rfl rfl (Nat.le_of_ble_eq_true rfl) d_Mod_create_59 ⟨Nat.zero_le _, Nat.zero_le _⟩ (fun r9 σ8 H locs h hI => ?_)
  obtain ⟨i10, h⟩ := h
  refine x_iast C hI (d := 44) (by decide) (xE44 V) i10 d_Mod_create_62 (fun H locs hI => ?_)
  refine lv_aload_n hx hb d_Mod_create_63 rfl (lv_at hl 1 rfl) ?_
  refine x_get C hI (d := 31) (by decide) (xE31 V _) fd_Mod_38 rfl d_Mod_create_64 ?_
  refine lv_aload_n hx hb d_Mod_create_67 rfl (lv_at hl 1 rfl) ?_
  refine x_get C hI (d := 31) (by decide) (xE31 V _) fd_Mod_22 rfl d_Mod_create_68 ?_
  refine lv_iload hx hb d_Mod_create_71 (lv_at hl 0 rfl) ?_
  obtain ⟨i11, h⟩ := h
  refine x_iald C hI (d := 44) (by decide) (xE44 V) i11 d_Mod_create_73 ?_
  refine lv_iload hx hb d_Mod_create_74 (lv_at hl 0 rfl) ?_
  obtain ⟨i12, h⟩ := h
  refine x_iast C hI (d := 49) (by decide) (xE49 V) i12 d_Mod_create_76 (fun H locs hI => ?_)
  refine lv_iconst (v := 0) hx hb d_Mod_create_77 (by decide) ?_
  refine lv_istore (lv' := [(6, .int 0), (5, .int r2), (0, .ref (V.2.2 31)), (1, .int x1), (2, .int x2), (3, .int x3), (4, .int x4)]) hx hb d_Mod_create_78 hl (by decide) rfl (fun ls hl => ?_)
  obtain ⟨n, h⟩ := h
  exact w_Mod_create_L80 C hlocks hr n _ _ _ _ _ _ _ h hI (lv_sub hl [2, 6, 1, 0] rfl)
theorem yw_Mod_create : xY y_Mod_create cd_Mod_create 7 (some .int) 4 := ⟨xG_mem 1175 (by decide +kernel) (by decide +kernel), xG_mem 45 (by decide +kernel) (by decide +kernel), xG_mem 65 (by decide +kernel) (by decide +kernel), xG_mem 1176 (by decide +kernel) (by decide +kernel), by decide, by decide, by decide +kernel⟩
theorem ml_Mod_154 : Cond.methodLink R_Mod 154 y_Mod_create ∈ xG := xG_mem 1173 (by decide +kernel) (by decide +kernel)
def p_Mod_make_J121 (Q : Int32 → xS → Prop) (x1 x2 x3 x4 x5 : Int32) (σ : xS) : Prop :=
  p_Mod_find x2 (x5 + 1) σ (fun r16 σ15 => ((¬ r16 = (-1) → p_Mod_create x2 x3 x4 x5 σ15 (fun r19 σ18 => (vp_in x1 16 ∧ (vp_in x1 16 ∧ (vp_in r19 640 ∧ Q ((xu (xu σ18 54 x1.toNatClampNeg 2) 55 x1.toNatClampNeg r19) 44 r19.toNatClampNeg) (xu (xu σ18 54 x1.toNatClampNeg 2) 55 x1.toNatClampNeg r19)))))) ∧ (r16 = (-1) → Q (-1) σ15)))
def p_Mod_make_J97 (Q : Int32 → xS → Prop) (x1 x2 x3 x4 x5 : Int32) (σ : xS) : Prop :=
  p_Mod_find x2 (x5 + 1) σ (fun r13 σ12 => ((¬ r13 = (-1) → p_Mod_make_J121 Q x1 x2 x3 x4 x5 σ12) ∧ (r13 = (-1) → ((x2 ≤ 0 → p_Mod_make_J121 Q x1 x2 x3 x4 x5 σ12) ∧ (¬ x2 ≤ 0 → p_Mod_collectFrom 0 σ12 (fun r25 σ24 => p_Mod_make_J121 Q x1 x2 x3 x4 x5 σ24))))))
def p_Mod_make_J57 (Q : Int32 → xS → Prop) (x1 x2 x3 x4 x5 : Int32) (y0 : Int32) (σ : xS) : Prop :=
  p_Mod_isRoot x1 σ (fun r5 σ4 => p_Mod_goes r5 y0 σ4 (fun r7 σ6 => ((¬ r7 = 0 → p_Mod_find x2 (x5 + 1) σ6 (fun r10 σ9 => ((¬ r10 = (-1) → p_Mod_make_J97 Q x1 x2 x3 x4 x5 σ9) ∧ (r10 = (-1) → p_Mod_collectFrom x2 σ9 (fun r27 σ26 => p_Mod_make_J97 Q x1 x2 x3 x4 x5 σ26))))) ∧ (r7 = 0 → Q 0 σ6))))
def p_Mod_make_J56 (Q : Int32 → xS → Prop) (x1 x2 x3 x4 x5 : Int32) (σ : xS) : Prop :=
  p_Mod_make_J57 Q x1 x2 x3 x4 x5 0 σ
def p_Mod_make_J42 (Q : Int32 → xS → Prop) (x1 x2 x3 x4 x5 : Int32) (y0 : Int32) (y1 : Int32) (σ : xS) : Prop :=
  ((y1 < y0 → p_Mod_make_J56 Q x1 x2 x3 x4 x5 σ) ∧ (¬ y1 < y0 → ((16 ≤ x5 → p_Mod_make_J56 Q x1 x2 x3 x4 x5 σ) ∧ (¬ 16 ≤ x5 → p_Mod_make_J57 Q x1 x2 x3 x4 x5 1 σ))))
def p_Mod_make (x1 x2 x3 x4 x5 : Int32) (σ : xS) (Q : Int32 → xS → Prop) : Prop :=
  p_Mod_isRegion x2 σ (fun r2 σ1 => ((r2 = 0 → p_Mod_make_J56 Q x1 x2 x3 x4 x5 σ1) ∧ (¬ r2 = 0 → ((x3 < 0 → p_Mod_make_J56 Q x1 x2 x3 x4 x5 σ1) ∧ (¬ x3 < 0 → ((3 ≤ x3 → p_Mod_make_J56 Q x1 x2 x3 x4 x5 σ1) ∧ (¬ 3 ≤ x3 → ((x4 < 0 → p_Mod_make_J56 Q x1 x2 x3 x4 x5 σ1) ∧ (¬ x4 < 0 → ((1000 ≤ x4 → p_Mod_make_J56 Q x1 x2 x3 x4 x5 σ1) ∧ (¬ 1000 ≤ x4 → ((¬ x3 = 2 → p_Mod_make_J42 Q x1 x2 x3 x4 x5 0 x5 σ1) ∧ (x3 = 2 → p_Mod_make_J42 Q x1 x2 x3 x4 x5 1 x5 σ1)))))))))))))
abbrev rm_Mod_make : Room := { frames := 4, cells := 0, slots := 0, locals := 96 }
theorem d_Mod_make_0 : decode cd_Mod_make 0 = .ok (.aload_n 0, 1) := by decide +kernel
theorem d_Mod_make_1 : decode cd_Mod_make 1 = .ok (.iload_n 2, 1) := by decide +kernel
theorem d_Mod_make_2 : decode cd_Mod_make 2 = .ok (.invokevirtual 140, 3) := by decide +kernel
theorem d_Mod_make_5 : decode cd_Mod_make 5 = .ok (.ifCond .eq 51, 3) := by decide +kernel
theorem d_Mod_make_8 : decode cd_Mod_make 8 = .ok (.iload_n 3, 1) := by decide +kernel
theorem d_Mod_make_9 : decode cd_Mod_make 9 = .ok (.ifCond .lt 47, 3) := by decide +kernel
theorem d_Mod_make_12 : decode cd_Mod_make 12 = .ok (.iload_n 3, 1) := by decide +kernel
theorem d_Mod_make_13 : decode cd_Mod_make 13 = .ok (.iconst 3, 1) := by decide +kernel
theorem d_Mod_make_14 : decode cd_Mod_make 14 = .ok (.if_icmp .ge 42, 3) := by decide +kernel
theorem d_Mod_make_17 : decode cd_Mod_make 17 = .ok (.iload 4, 2) := by decide +kernel
theorem d_Mod_make_19 : decode cd_Mod_make 19 = .ok (.ifCond .lt 37, 3) := by decide +kernel
theorem d_Mod_make_22 : decode cd_Mod_make 22 = .ok (.iload 4, 2) := by decide +kernel
theorem d_Mod_make_24 : decode cd_Mod_make 24 = .ok (.sipush 1000, 3) := by decide +kernel
theorem d_Mod_make_27 : decode cd_Mod_make 27 = .ok (.if_icmp .ge 29, 3) := by decide +kernel
theorem d_Mod_make_30 : decode cd_Mod_make 30 = .ok (.iload 5, 2) := by decide +kernel
theorem d_Mod_make_32 : decode cd_Mod_make 32 = .ok (.iload_n 3, 1) := by decide +kernel
theorem d_Mod_make_33 : decode cd_Mod_make 33 = .ok (.iconst 2, 1) := by decide +kernel
theorem d_Mod_make_34 : decode cd_Mod_make 34 = .ok (.if_icmp .ne 7, 3) := by decide +kernel
theorem d_Mod_make_37 : decode cd_Mod_make 37 = .ok (.iconst 1, 1) := by decide +kernel
theorem d_Mod_make_38 : decode cd_Mod_make 38 = .ok (.goto 4, 3) := by decide +kernel
theorem d_Mod_make_41 : decode cd_Mod_make 41 = .ok (.iconst 0, 1) := by decide +kernel
theorem d_Mod_make_42 : decode cd_Mod_make 42 = .ok (.if_icmp .lt 14, 3) := by decide +kernel
theorem d_Mod_make_45 : decode cd_Mod_make 45 = .ok (.iload 5, 2) := by decide +kernel
theorem d_Mod_make_47 : decode cd_Mod_make 47 = .ok (.bipush 16, 2) := by decide +kernel
theorem d_Mod_make_49 : decode cd_Mod_make 49 = .ok (.if_icmp .ge 7, 3) := by decide +kernel
theorem d_Mod_make_52 : decode cd_Mod_make 52 = .ok (.iconst 1, 1) := by decide +kernel
theorem d_Mod_make_53 : decode cd_Mod_make 53 = .ok (.goto 4, 3) := by decide +kernel
theorem d_Mod_make_56 : decode cd_Mod_make 56 = .ok (.iconst 0, 1) := by decide +kernel
theorem d_Mod_make_57 : decode cd_Mod_make 57 = .ok (.istore 6, 2) := by decide +kernel
theorem d_Mod_make_59 : decode cd_Mod_make 59 = .ok (.aload_n 0, 1) := by decide +kernel
theorem d_Mod_make_60 : decode cd_Mod_make 60 = .ok (.iload_n 1, 1) := by decide +kernel
theorem d_Mod_make_61 : decode cd_Mod_make 61 = .ok (.invokestatic 151, 3) := by decide +kernel
theorem d_Mod_make_64 : decode cd_Mod_make 64 = .ok (.iload 6, 2) := by decide +kernel
theorem d_Mod_make_66 : decode cd_Mod_make 66 = .ok (.invokevirtual 144, 3) := by decide +kernel
theorem d_Mod_make_69 : decode cd_Mod_make 69 = .ok (.ifCond .ne 5, 3) := by decide +kernel
theorem d_Mod_make_72 : decode cd_Mod_make 72 = .ok (.iconst 0, 1) := by decide +kernel
theorem d_Mod_make_73 : decode cd_Mod_make 73 = .ok (.ireturn, 1) := by decide +kernel
theorem d_Mod_make_74 : decode cd_Mod_make 74 = .ok (.iconst 0, 1) := by decide +kernel
theorem d_Mod_make_75 : decode cd_Mod_make 75 = .ok (.istore 7, 2) := by decide +kernel
theorem d_Mod_make_77 : decode cd_Mod_make 77 = .ok (.aload_n 0, 1) := by decide +kernel
theorem d_Mod_make_78 : decode cd_Mod_make 78 = .ok (.iload_n 2, 1) := by decide +kernel
theorem d_Mod_make_79 : decode cd_Mod_make 79 = .ok (.iload 5, 2) := by decide +kernel
theorem d_Mod_make_81 : decode cd_Mod_make 81 = .ok (.iconst 1, 1) := by decide +kernel
theorem d_Mod_make_82 : decode cd_Mod_make 82 = .ok (.iadd, 1) := by decide +kernel
theorem d_Mod_make_83 : decode cd_Mod_make 83 = .ok (.invokevirtual 87, 3) := by decide +kernel
theorem d_Mod_make_86 : decode cd_Mod_make 86 = .ok (.iconst (-1), 1) := by decide +kernel
theorem d_Mod_make_87 : decode cd_Mod_make 87 = .ok (.if_icmp .ne 10, 3) := by decide +kernel
theorem d_Mod_make_90 : decode cd_Mod_make 90 = .ok (.aload_n 0, 1) := by decide +kernel
theorem d_Mod_make_91 : decode cd_Mod_make 91 = .ok (.iload_n 2, 1) := by decide +kernel
theorem d_Mod_make_92 : decode cd_Mod_make 92 = .ok (.invokevirtual 148, 3) := by decide +kernel
theorem d_Mod_make_95 : decode cd_Mod_make 95 = .ok (.istore 7, 2) := by decide +kernel
theorem d_Mod_make_97 : decode cd_Mod_make 97 = .ok (.aload_n 0, 1) := by decide +kernel
theorem d_Mod_make_98 : decode cd_Mod_make 98 = .ok (.iload_n 2, 1) := by decide +kernel
theorem d_Mod_make_99 : decode cd_Mod_make 99 = .ok (.iload 5, 2) := by decide +kernel
theorem d_Mod_make_101 : decode cd_Mod_make 101 = .ok (.iconst 1, 1) := by decide +kernel
theorem d_Mod_make_102 : decode cd_Mod_make 102 = .ok (.iadd, 1) := by decide +kernel
theorem d_Mod_make_103 : decode cd_Mod_make 103 = .ok (.invokevirtual 87, 3) := by decide +kernel
theorem d_Mod_make_106 : decode cd_Mod_make 106 = .ok (.iconst (-1), 1) := by decide +kernel
theorem d_Mod_make_107 : decode cd_Mod_make 107 = .ok (.if_icmp .ne 14, 3) := by decide +kernel
theorem d_Mod_make_110 : decode cd_Mod_make 110 = .ok (.iload_n 2, 1) := by decide +kernel
theorem d_Mod_make_111 : decode cd_Mod_make 111 = .ok (.ifCond .le 10, 3) := by decide +kernel
theorem d_Mod_make_114 : decode cd_Mod_make 114 = .ok (.aload_n 0, 1) := by decide +kernel
theorem d_Mod_make_115 : decode cd_Mod_make 115 = .ok (.iconst 0, 1) := by decide +kernel
theorem d_Mod_make_116 : decode cd_Mod_make 116 = .ok (.invokevirtual 148, 3) := by decide +kernel
theorem d_Mod_make_119 : decode cd_Mod_make 119 = .ok (.istore 7, 2) := by decide +kernel
theorem d_Mod_make_121 : decode cd_Mod_make 121 = .ok (.aload_n 0, 1) := by decide +kernel
theorem d_Mod_make_122 : decode cd_Mod_make 122 = .ok (.iload_n 2, 1) := by decide +kernel
theorem d_Mod_make_123 : decode cd_Mod_make 123 = .ok (.iload 5, 2) := by decide +kernel
theorem d_Mod_make_125 : decode cd_Mod_make 125 = .ok (.iconst 1, 1) := by decide +kernel
theorem d_Mod_make_126 : decode cd_Mod_make 126 = .ok (.iadd, 1) := by decide +kernel
theorem d_Mod_make_127 : decode cd_Mod_make 127 = .ok (.invokevirtual 87, 3) := by decide +kernel
theorem d_Mod_make_130 : decode cd_Mod_make 130 = .ok (.iconst (-1), 1) := by decide +kernel
theorem d_Mod_make_131 : decode cd_Mod_make 131 = .ok (.if_icmp .ne 5, 3) := by decide +kernel
theorem d_Mod_make_134 : decode cd_Mod_make 134 = .ok (.iconst (-1), 1) := by decide +kernel
theorem d_Mod_make_135 : decode cd_Mod_make 135 = .ok (.ireturn, 1) := by decide +kernel
theorem d_Mod_make_136 : decode cd_Mod_make 136 = .ok (.aload_n 0, 1) := by decide +kernel
theorem d_Mod_make_137 : decode cd_Mod_make 137 = .ok (.iload_n 2, 1) := by decide +kernel
theorem d_Mod_make_138 : decode cd_Mod_make 138 = .ok (.iload_n 3, 1) := by decide +kernel
theorem d_Mod_make_139 : decode cd_Mod_make 139 = .ok (.iload 4, 2) := by decide +kernel
theorem d_Mod_make_141 : decode cd_Mod_make 141 = .ok (.iload 5, 2) := by decide +kernel
theorem d_Mod_make_143 : decode cd_Mod_make 143 = .ok (.invokevirtual 154, 3) := by decide +kernel
theorem d_Mod_make_146 : decode cd_Mod_make 146 = .ok (.istore 8, 2) := by decide +kernel
theorem d_Mod_make_148 : decode cd_Mod_make 148 = .ok (.aload_n 0, 1) := by decide +kernel
theorem d_Mod_make_149 : decode cd_Mod_make 149 = .ok (.getfield 53, 3) := by decide +kernel
theorem d_Mod_make_152 : decode cd_Mod_make 152 = .ok (.iload_n 1, 1) := by decide +kernel
theorem d_Mod_make_153 : decode cd_Mod_make 153 = .ok (.iconst 2, 1) := by decide +kernel
theorem d_Mod_make_154 : decode cd_Mod_make 154 = .ok (.iastore, 1) := by decide +kernel
theorem d_Mod_make_155 : decode cd_Mod_make 155 = .ok (.aload_n 0, 1) := by decide +kernel
theorem d_Mod_make_156 : decode cd_Mod_make 156 = .ok (.getfield 56, 3) := by decide +kernel
theorem d_Mod_make_159 : decode cd_Mod_make 159 = .ok (.iload_n 1, 1) := by decide +kernel
theorem d_Mod_make_160 : decode cd_Mod_make 160 = .ok (.iload 8, 2) := by decide +kernel
theorem d_Mod_make_162 : decode cd_Mod_make 162 = .ok (.iastore, 1) := by decide +kernel
theorem d_Mod_make_163 : decode cd_Mod_make 163 = .ok (.aload_n 0, 1) := by decide +kernel
theorem d_Mod_make_164 : decode cd_Mod_make 164 = .ok (.getfield 22, 3) := by decide +kernel
theorem d_Mod_make_167 : decode cd_Mod_make 167 = .ok (.iload 8, 2) := by decide +kernel
theorem d_Mod_make_169 : decode cd_Mod_make 169 = .ok (.iaload, 1) := by decide +kernel
theorem d_Mod_make_170 : decode cd_Mod_make 170 = .ok (.ireturn, 1) := by decide +kernel
set_option maxRecDepth 100000 in
set_option maxHeartbeats 4000000 in
theorem t_Mod_make_J121 {p : Program} {l : Launch} {e : Env} {s : State} {m : MethodId} {args : Array Value} {below : List Frame} {meth : Method} {c : Code} {V : xV} (C : xC p s m args c cd_Mod_make 9 R_Mod V) (hlocks : meth.locks = false) (hr : meth.sig.returnType = (some .int)) {Q : Int32 → xS → Prop} {x1 x2 x3 x4 x5 : Int32} {σ : xS} {H : Heap} {locs : List Loc} {ls : Array Slot} (h : p_Mod_make_J121 Q x1 x2 x3 x4 x5 σ) (hI : xI V s.heap σ H locs) (hl : lv_has ls 9 [(0, .ref (V.2.2 31)), (1, .int x1), (2, .int x2), (3, .int x3), (4, .int x4), (5, .int x5)]) : W p l e rm_Mod_make s m args below meth c H locs 0 0 (xZi below V args s Q) (F0 m 121 ls []) := by
  have hx := C.1
  have hb := C.2.1
  unfold p_Mod_make_J121 at h
  refine lv_aload_n hx hb d_Mod_make_121 rfl (lv_at hl 0 rfl) ?_
  refine lv_iload_n hx hb d_Mod_make_122 rfl (lv_at hl 2 rfl) ?_
  refine lv_iload hx hb d_Mod_make_123 (lv_at hl 5 rfl) ?_
  refine lv_iconst (v := 1) hx hb d_Mod_make_125 (by decide) ?_
  refine lv_iadd hx hb d_Mod_make_126 ?_
  refine x_calli C hI hl.1 (d := 31) (As := [.int x2, .int (x5 + 1)]) (rest := []) (by decide) (c_Mod_find h) (xE31 V _) rfl yw_Mod_find ml_Mod_87 rfl rfl ⟨Nat.le_of_ble_eq_true rfl, Nat.le_of_ble_eq_true rfl⟩ rfl rfl (Nat.le_of_ble_eq_true rfl) d_Mod_make_127 ⟨Nat.zero_le _, Nat.zero_le _⟩ (fun r16 σ15 H locs h hI => ?_)
  refine lv_iconst (v := (-1)) hx hb d_Mod_make_130 (by decide) ?_
  refine lv_icmp_ne (tgt := 136) hx hb d_Mod_make_131 (by decide) (fun c17 => ?_) (fun c17 => ?_)
  · have h := h.1 c17
    refine lv_aload_n hx hb d_Mod_make_136 rfl (lv_at hl 0 rfl) ?_
    refine lv_iload_n hx hb d_Mod_make_137 rfl (lv_at hl 2 rfl) ?_
    refine lv_iload_n hx hb d_Mod_make_138 rfl (lv_at hl 3 rfl) ?_
    refine lv_iload hx hb d_Mod_make_139 (lv_at hl 4 rfl) ?_
    refine lv_iload hx hb d_Mod_make_141 (lv_at hl 5 rfl) ?_
    refine x_calli C hI hl.1 (d := 31) (As := [.int x2, .int x3, .int x4, .int x5]) (rest := []) (by decide) (c_Mod_create h) (xE31 V _) rfl yw_Mod_create ml_Mod_154 rfl rfl ⟨Nat.le_of_ble_eq_true rfl, Nat.le_of_ble_eq_true rfl⟩ rfl rfl (Nat.le_of_ble_eq_true rfl) d_Mod_make_143 ⟨Nat.zero_le _, Nat.zero_le _⟩ (fun r19 σ18 H locs h hI => ?_)
    refine lv_istore (lv' := [(8, .int r19), (0, .ref (V.2.2 31)), (1, .int x1), (2, .int x2), (3, .int x3), (4, .int x4), (5, .int x5)]) hx hb d_Mod_make_146 hl (by decide) rfl (fun ls hl => ?_)
    refine lv_aload_n hx hb d_Mod_make_148 rfl (lv_at hl 1 rfl) ?_
    refine x_get C hI (d := 31) (by decide) (xE31 V _) fd_Mod_53 rfl d_Mod_make_149 ?_
    refine lv_iload_n hx hb d_Mod_make_152 rfl (lv_at hl 2 rfl) ?_
    refine lv_iconst (v := 2) hx hb d_Mod_make_153 (by decide) ?_
    obtain ⟨i20, h⟩ := h
    refine x_iast C hI (d := 54) (by decide) (xE54 V) i20 d_Mod_make_154 (fun H locs hI => ?_)
    refine lv_aload_n hx hb d_Mod_make_155 rfl (lv_at hl 1 rfl) ?_
    refine x_get C hI (d := 31) (by decide) (xE31 V _) fd_Mod_56 rfl d_Mod_make_156 ?_
    refine lv_iload_n hx hb d_Mod_make_159 rfl (lv_at hl 2 rfl) ?_
    refine lv_iload hx hb d_Mod_make_160 (lv_at hl 0 rfl) ?_
    obtain ⟨i21, h⟩ := h
    refine x_iast C hI (d := 55) (by decide) (xE55 V) i21 d_Mod_make_162 (fun H locs hI => ?_)
    refine lv_aload_n hx hb d_Mod_make_163 rfl (lv_at hl 1 rfl) ?_
    refine x_get C hI (d := 31) (by decide) (xE31 V _) fd_Mod_22 rfl d_Mod_make_164 ?_
    refine lv_iload hx hb d_Mod_make_167 (lv_at hl 0 rfl) ?_
    obtain ⟨i22, h⟩ := h
    refine x_iald C hI (d := 44) (by decide) (xE44 V) i22 d_Mod_make_169 ?_
    exact x_iret C hlocks hr hI h d_Mod_make_170
  · have h := h.2 c17
    refine lv_iconst (v := (-1)) hx hb d_Mod_make_134 (by decide) ?_
    exact x_iret C hlocks hr hI h d_Mod_make_135
set_option maxRecDepth 100000 in
set_option maxHeartbeats 4000000 in
theorem t_Mod_make_J97 {p : Program} {l : Launch} {e : Env} {s : State} {m : MethodId} {args : Array Value} {below : List Frame} {meth : Method} {c : Code} {V : xV} (C : xC p s m args c cd_Mod_make 9 R_Mod V) (hlocks : meth.locks = false) (hr : meth.sig.returnType = (some .int)) {Q : Int32 → xS → Prop} {x1 x2 x3 x4 x5 : Int32} {σ : xS} {H : Heap} {locs : List Loc} {ls : Array Slot} (h : p_Mod_make_J97 Q x1 x2 x3 x4 x5 σ) (hI : xI V s.heap σ H locs) (hl : lv_has ls 9 [(0, .ref (V.2.2 31)), (1, .int x1), (2, .int x2), (3, .int x3), (4, .int x4), (5, .int x5)]) : W p l e rm_Mod_make s m args below meth c H locs 0 0 (xZi below V args s Q) (F0 m 97 ls []) := by
  have hx := C.1
  have hb := C.2.1
  unfold p_Mod_make_J97 at h
  refine lv_aload_n hx hb d_Mod_make_97 rfl (lv_at hl 0 rfl) ?_
  refine lv_iload_n hx hb d_Mod_make_98 rfl (lv_at hl 2 rfl) ?_
  refine lv_iload hx hb d_Mod_make_99 (lv_at hl 5 rfl) ?_
  refine lv_iconst (v := 1) hx hb d_Mod_make_101 (by decide) ?_
  refine lv_iadd hx hb d_Mod_make_102 ?_
  refine x_calli C hI hl.1 (d := 31) (As := [.int x2, .int (x5 + 1)]) (rest := []) (by decide) (c_Mod_find h) (xE31 V _) rfl yw_Mod_find ml_Mod_87 rfl rfl ⟨Nat.le_of_ble_eq_true rfl, Nat.le_of_ble_eq_true rfl⟩ rfl rfl (Nat.le_of_ble_eq_true rfl) d_Mod_make_103 ⟨Nat.zero_le _, Nat.zero_le _⟩ (fun r13 σ12 H locs h hI => ?_)
  refine lv_iconst (v := (-1)) hx hb d_Mod_make_106 (by decide) ?_
  refine lv_icmp_ne (tgt := 121) hx hb d_Mod_make_107 (by decide) (fun c14 => ?_) (fun c14 => ?_)
  · have h := h.1 c14
    exact t_Mod_make_J121 C hlocks hr h hI (lv_sub hl [0, 1, 2, 3, 4, 5] rfl)
  · have h := h.2 c14
    refine lv_iload_n hx hb d_Mod_make_110 rfl (lv_at hl 2 rfl) ?_
    refine lv_if_le (tgt := 121) hx hb d_Mod_make_111 (by decide) (fun c23 => ?_) (fun c23 => ?_)
    · have h := h.1 c23
      exact t_Mod_make_J121 C hlocks hr h hI (lv_sub hl [0, 1, 2, 3, 4, 5] rfl)
    · have h := h.2 c23
      refine lv_aload_n hx hb d_Mod_make_114 rfl (lv_at hl 0 rfl) ?_
      refine lv_iconst (v := 0) hx hb d_Mod_make_115 (by decide) ?_
      refine x_calli C hI hl.1 (d := 31) (As := [.int 0]) (rest := []) (by decide) (c_Mod_collectFrom h) (xE31 V _) rfl yw_Mod_collectFrom ml_Mod_148 rfl rfl ⟨Nat.le_of_ble_eq_true rfl, Nat.le_of_ble_eq_true rfl⟩ rfl rfl (Nat.le_of_ble_eq_true rfl) d_Mod_make_116 ⟨Nat.zero_le _, Nat.zero_le _⟩ (fun r25 σ24 H locs h hI => ?_)
      refine lv_istore (lv' := [(7, .int r25), (0, .ref (V.2.2 31)), (1, .int x1), (2, .int x2), (3, .int x3), (4, .int x4), (5, .int x5)]) hx hb d_Mod_make_119 hl (by decide) rfl (fun ls hl => ?_)
      exact t_Mod_make_J121 C hlocks hr h hI (lv_sub hl [1, 2, 3, 4, 5, 6] rfl)
set_option maxRecDepth 100000 in
set_option maxHeartbeats 4000000 in
theorem t_Mod_make_J57 {p : Program} {l : Launch} {e : Env} {s : State} {m : MethodId} {args : Array Value} {below : List Frame} {meth : Method} {c : Code} {V : xV} (C : xC p s m args c cd_Mod_make 9 R_Mod V) (hlocks : meth.locks = false) (hr : meth.sig.returnType = (some .int)) {Q : Int32 → xS → Prop} {x1 x2 x3 x4 x5 : Int32} {y0 : Int32} {σ : xS} {H : Heap} {locs : List Loc} {ls : Array Slot} (h : p_Mod_make_J57 Q x1 x2 x3 x4 x5 y0 σ) (hI : xI V s.heap σ H locs) (hl : lv_has ls 9 [(0, .ref (V.2.2 31)), (1, .int x1), (2, .int x2), (3, .int x3), (4, .int x4), (5, .int x5)]) : W p l e rm_Mod_make s m args below meth c H locs 0 0 (xZi below V args s Q) (F0 m 57 ls [.int y0]) := by
  have hx := C.1
  have hb := C.2.1
  unfold p_Mod_make_J57 at h
  refine lv_istore (lv' := [(6, .int y0), (0, .ref (V.2.2 31)), (1, .int x1), (2, .int x2), (3, .int x3), (4, .int x4), (5, .int x5)]) hx hb d_Mod_make_57 hl (by decide) rfl (fun ls hl => ?_)
  refine lv_aload_n hx hb d_Mod_make_59 rfl (lv_at hl 1 rfl) ?_
  refine lv_iload_n hx hb d_Mod_make_60 rfl (lv_at hl 2 rfl) ?_
  refine x_calliS C hI hl.1 (As := [.int x1]) (rest := [.ref (V.2.2 31)]) (c_Mod_isRoot h) yw_Mod_isRoot ml_Mod_151 rfl rfl ⟨Nat.le_of_ble_eq_true rfl, Nat.le_of_ble_eq_true rfl⟩ rfl rfl (Nat.le_of_ble_eq_true rfl) d_Mod_make_61 ⟨Nat.zero_le _, Nat.zero_le _⟩ (fun r5 σ4 H locs h hI => ?_)
  refine lv_iload hx hb d_Mod_make_64 (lv_at hl 0 rfl) ?_
  refine x_calli C hI hl.1 (d := 31) (As := [.int r5, .int y0]) (rest := []) (by decide) (c_Mod_goes h) (xE31 V _) rfl yw_Mod_goes ml_Mod_144 rfl rfl ⟨Nat.le_of_ble_eq_true rfl, Nat.le_of_ble_eq_true rfl⟩ rfl rfl (Nat.le_of_ble_eq_true rfl) d_Mod_make_66 ⟨Nat.zero_le _, Nat.zero_le _⟩ (fun r7 σ6 H locs h hI => ?_)
  refine lv_if_ne (tgt := 74) hx hb d_Mod_make_69 (by decide) (fun c8 => ?_) (fun c8 => ?_)
  · have h := h.1 c8
    refine lv_iconst (v := 0) hx hb d_Mod_make_74 (by decide) ?_
    refine lv_istore (lv' := [(7, .int 0), (6, .int y0), (0, .ref (V.2.2 31)), (1, .int x1), (2, .int x2), (3, .int x3), (4, .int x4), (5, .int x5)]) hx hb d_Mod_make_75 hl (by decide) rfl (fun ls hl => ?_)
    refine lv_aload_n hx hb d_Mod_make_77 rfl (lv_at hl 2 rfl) ?_
    refine lv_iload_n hx hb d_Mod_make_78 rfl (lv_at hl 4 rfl) ?_
    refine lv_iload hx hb d_Mod_make_79 (lv_at hl 7 rfl) ?_
    refine lv_iconst (v := 1) hx hb d_Mod_make_81 (by decide) ?_
    refine lv_iadd hx hb d_Mod_make_82 ?_
    refine x_calli C hI hl.1 (d := 31) (As := [.int x2, .int (x5 + 1)]) (rest := []) (by decide) (c_Mod_find h) (xE31 V _) rfl yw_Mod_find ml_Mod_87 rfl rfl ⟨Nat.le_of_ble_eq_true rfl, Nat.le_of_ble_eq_true rfl⟩ rfl rfl (Nat.le_of_ble_eq_true rfl) d_Mod_make_83 ⟨Nat.zero_le _, Nat.zero_le _⟩ (fun r10 σ9 H locs h hI => ?_)
    refine lv_iconst (v := (-1)) hx hb d_Mod_make_86 (by decide) ?_
    refine lv_icmp_ne (tgt := 97) hx hb d_Mod_make_87 (by decide) (fun c11 => ?_) (fun c11 => ?_)
    · have h := h.1 c11
      exact t_Mod_make_J97 C hlocks hr h hI (lv_sub hl [2, 3, 4, 5, 6, 7] rfl)
    · have h := h.2 c11
      refine lv_aload_n hx hb d_Mod_make_90 rfl (lv_at hl 2 rfl) ?_
      refine lv_iload_n hx hb d_Mod_make_91 rfl (lv_at hl 4 rfl) ?_
      refine x_calli C hI hl.1 (d := 31) (As := [.int x2]) (rest := []) (by decide) (c_Mod_collectFrom h) (xE31 V _) rfl yw_Mod_collectFrom ml_Mod_148 rfl rfl ⟨Nat.le_of_ble_eq_true rfl, Nat.le_of_ble_eq_true rfl⟩ rfl rfl (Nat.le_of_ble_eq_true rfl) d_Mod_make_92 ⟨Nat.zero_le _, Nat.zero_le _⟩ (fun r27 σ26 H locs h hI => ?_)
      refine lv_istore (lv' := [(7, .int r27), (6, .int y0), (0, .ref (V.2.2 31)), (1, .int x1), (2, .int x2), (3, .int x3), (4, .int x4), (5, .int x5)]) hx hb d_Mod_make_95 hl (by decide) rfl (fun ls hl => ?_)
      exact t_Mod_make_J97 C hlocks hr h hI (lv_sub hl [2, 3, 4, 5, 6, 7] rfl)
  · have h := h.2 c8
    refine lv_iconst (v := 0) hx hb d_Mod_make_72 (by decide) ?_
    exact x_iret C hlocks hr hI h d_Mod_make_73
set_option maxRecDepth 100000 in
set_option maxHeartbeats 4000000 in
theorem t_Mod_make_J56 {p : Program} {l : Launch} {e : Env} {s : State} {m : MethodId} {args : Array Value} {below : List Frame} {meth : Method} {c : Code} {V : xV} (C : xC p s m args c cd_Mod_make 9 R_Mod V) (hlocks : meth.locks = false) (hr : meth.sig.returnType = (some .int)) {Q : Int32 → xS → Prop} {x1 x2 x3 x4 x5 : Int32} {σ : xS} {H : Heap} {locs : List Loc} {ls : Array Slot} (h : p_Mod_make_J56 Q x1 x2 x3 x4 x5 σ) (hI : xI V s.heap σ H locs) (hl : lv_has ls 9 [(0, .ref (V.2.2 31)), (1, .int x1), (2, .int x2), (3, .int x3), (4, .int x4), (5, .int x5)]) : W p l e rm_Mod_make s m args below meth c H locs 0 0 (xZi below V args s Q) (F0 m 56 ls []) := by
  have hx := C.1
  have hb := C.2.1
  unfold p_Mod_make_J56 at h
  refine lv_iconst (v := 0) hx hb d_Mod_make_56 (by decide) ?_
  exact t_Mod_make_J57 C hlocks hr h hI (lv_sub hl [0, 1, 2, 3, 4, 5] rfl)
set_option maxRecDepth 100000 in
set_option maxHeartbeats 4000000 in
theorem t_Mod_make_J42 {p : Program} {l : Launch} {e : Env} {s : State} {m : MethodId} {args : Array Value} {below : List Frame} {meth : Method} {c : Code} {V : xV} (C : xC p s m args c cd_Mod_make 9 R_Mod V) (hlocks : meth.locks = false) (hr : meth.sig.returnType = (some .int)) {Q : Int32 → xS → Prop} {x1 x2 x3 x4 x5 : Int32} {y0 : Int32} {y1 : Int32} {σ : xS} {H : Heap} {locs : List Loc} {ls : Array Slot} (h : p_Mod_make_J42 Q x1 x2 x3 x4 x5 y0 y1 σ) (hI : xI V s.heap σ H locs) (hl : lv_has ls 9 [(0, .ref (V.2.2 31)), (1, .int x1), (2, .int x2), (3, .int x3), (4, .int x4), (5, .int x5)]) : W p l e rm_Mod_make s m args below meth c H locs 0 0 (xZi below V args s Q) (F0 m 42 ls [.int y0, .int y1]) := by
  have hx := C.1
  have hb := C.2.1
  unfold p_Mod_make_J42 at h
  refine lv_icmp_lt (tgt := 56) hx hb d_Mod_make_42 (by decide) (fun c33 => ?_) (fun c33 => ?_)
  · have h := h.1 c33
    exact t_Mod_make_J56 C hlocks hr h hI (lv_sub hl [0, 1, 2, 3, 4, 5] rfl)
  · have h := h.2 c33
    refine lv_iload hx hb d_Mod_make_45 (lv_at hl 5 rfl) ?_
    refine lv_bipush (v := 16) hx hb d_Mod_make_47 (by decide) ?_
    refine lv_icmp_ge (tgt := 56) hx hb d_Mod_make_49 (by decide) (fun c34 => ?_) (fun c34 => ?_)
    · have h := h.1 c34
      exact t_Mod_make_J56 C hlocks hr h hI (lv_sub hl [0, 1, 2, 3, 4, 5] rfl)
    · have h := h.2 c34
      refine lv_iconst (v := 1) hx hb d_Mod_make_52 (by decide) ?_
      refine lv_goto (tgt := 57) hx hb d_Mod_make_53 (by decide) ?_
      exact t_Mod_make_J57 C hlocks hr h hI (lv_sub hl [0, 1, 2, 3, 4, 5] rfl)
set_option maxRecDepth 100000 in
set_option maxHeartbeats 4000000 in
theorem c_Mod_make {l : Launch} {V : xV} {σ : xS} {x1 x2 x3 x4 x5 : Int32} {Q : Int32 → xS → Prop} (h : p_Mod_make x1 x2 x3 x4 x5 σ Q) : xMi l y_Mod_make (.code y_Mod_make cd_Mod_make 9 (some .int) :: xG) rm_Mod_make V [.ref (V.2.2 31), .int x1, .int x2, .int x3, .int x4, .int x5] σ Q := by
  refine x_begini (by decide) (Nat.le_of_ble_eq_true rfl) (fun p e s m below meth c ls C hlocks hr hI hl => ?_)
  have C : xC p s m _ c cd_Mod_make 9 R_Mod V := C
  have hx := C.1
  have hb := C.2.1
  have hl : lv_has ls 9 [(0, .ref (V.2.2 31)), (1, .int x1), (2, .int x2), (3, .int x3), (4, .int x4), (5, .int x5)] := hl
  unfold p_Mod_make at h
  refine lv_aload_n hx hb d_Mod_make_0 rfl (lv_at hl 0 rfl) ?_
  refine lv_iload_n hx hb d_Mod_make_1 rfl (lv_at hl 2 rfl) ?_
  refine x_calli C hI hl.1 (d := 31) (As := [.int x2]) (rest := []) (by decide) (c_Mod_isRegion h) (xE31 V _) rfl yw_Mod_isRegion ml_Mod_140 rfl rfl ⟨Nat.le_of_ble_eq_true rfl, Nat.le_of_ble_eq_true rfl⟩ rfl rfl (Nat.le_of_ble_eq_true rfl) d_Mod_make_2 ⟨Nat.zero_le _, Nat.zero_le _⟩ (fun r2 σ1 H locs h hI => ?_)
  refine lv_if_eq (tgt := 56) hx hb d_Mod_make_5 (by decide) (fun c3 => ?_) (fun c3 => ?_)
  · have h := h.1 c3
    exact t_Mod_make_J56 C hlocks hr h hI (lv_sub hl [0, 1, 2, 3, 4, 5] rfl)
  · have h := h.2 c3
    refine lv_iload_n hx hb d_Mod_make_8 rfl (lv_at hl 3 rfl) ?_
    refine lv_if_lt (tgt := 56) hx hb d_Mod_make_9 (by decide) (fun c28 => ?_) (fun c28 => ?_)
    · have h := h.1 c28
      exact t_Mod_make_J56 C hlocks hr h hI (lv_sub hl [0, 1, 2, 3, 4, 5] rfl)
    · have h := h.2 c28
      refine lv_iload_n hx hb d_Mod_make_12 rfl (lv_at hl 3 rfl) ?_
      refine lv_iconst (v := 3) hx hb d_Mod_make_13 (by decide) ?_
      refine lv_icmp_ge (tgt := 56) hx hb d_Mod_make_14 (by decide) (fun c29 => ?_) (fun c29 => ?_)
      · have h := h.1 c29
        exact t_Mod_make_J56 C hlocks hr h hI (lv_sub hl [0, 1, 2, 3, 4, 5] rfl)
      · have h := h.2 c29
        refine lv_iload hx hb d_Mod_make_17 (lv_at hl 4 rfl) ?_
        refine lv_if_lt (tgt := 56) hx hb d_Mod_make_19 (by decide) (fun c30 => ?_) (fun c30 => ?_)
        · have h := h.1 c30
          exact t_Mod_make_J56 C hlocks hr h hI (lv_sub hl [0, 1, 2, 3, 4, 5] rfl)
        · have h := h.2 c30
          refine lv_iload hx hb d_Mod_make_22 (lv_at hl 4 rfl) ?_
          refine lv_sipush (v := 1000) hx hb d_Mod_make_24 (by decide) ?_
          refine lv_icmp_ge (tgt := 56) hx hb d_Mod_make_27 (by decide) (fun c31 => ?_) (fun c31 => ?_)
          · have h := h.1 c31
            exact t_Mod_make_J56 C hlocks hr h hI (lv_sub hl [0, 1, 2, 3, 4, 5] rfl)
          · have h := h.2 c31
            refine lv_iload hx hb d_Mod_make_30 (lv_at hl 5 rfl) ?_
            refine lv_iload_n hx hb d_Mod_make_32 rfl (lv_at hl 3 rfl) ?_
            refine lv_iconst (v := 2) hx hb d_Mod_make_33 (by decide) ?_
            refine lv_icmp_ne (tgt := 41) hx hb d_Mod_make_34 (by decide) (fun c32 => ?_) (fun c32 => ?_)
            · have h := h.1 c32
              refine lv_iconst (v := 0) hx hb d_Mod_make_41 (by decide) ?_
              exact t_Mod_make_J42 C hlocks hr h hI (lv_sub hl [0, 1, 2, 3, 4, 5] rfl)
            · have h := h.2 c32
              refine lv_iconst (v := 1) hx hb d_Mod_make_37 (by decide) ?_
              refine lv_goto (tgt := 42) hx hb d_Mod_make_38 (by decide) ?_
              exact t_Mod_make_J42 C hlocks hr h hI (lv_sub hl [0, 1, 2, 3, 4, 5] rfl)
