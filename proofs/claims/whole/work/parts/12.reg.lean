def y_Reg_amount : MethodName := ⟨"RegionPool$Regions", "amount", "()I"⟩
abbrev cd_Reg_amount : ByteArray := prog_9_method_2_code
theorem fd_Reg_26 : xFd R_Reg 26 7 4 := ⟨R_Reg, T_Reg, 5, rfl, in_Reg, by decide, xG_mem 135 (by decide +kernel) (by decide +kernel)⟩
def p_Reg_amount (σ : xS) (Q : Int32 → xS → Prop) : Prop :=
  Q (σ 7 4) σ
abbrev rm_Reg_amount : Room := { frames := 0, cells := 0, slots := 0, locals := 0 }
theorem d_Reg_amount_0 : decode cd_Reg_amount 0 = .ok (.aload_n 0, 1) := by decide +kernel
theorem d_Reg_amount_1 : decode cd_Reg_amount 1 = .ok (.getfield 26, 3) := by decide +kernel
theorem d_Reg_amount_4 : decode cd_Reg_amount 4 = .ok (.ireturn, 1) := by decide +kernel
set_option maxRecDepth 100000 in
set_option maxHeartbeats 4000000 in
theorem c_Reg_amount {l : Launch} {V : xV} {σ : xS} {Q : Int32 → xS → Prop} (h : p_Reg_amount σ Q) : xMi l y_Reg_amount (.code y_Reg_amount cd_Reg_amount 1 (some .int) :: xG) rm_Reg_amount V [.ref (V.2.2 7)] σ Q := by
  refine x_begini (by decide) (Nat.le_of_ble_eq_true rfl) (fun p e s m below meth c ls C hlocks hr hI hl => ?_)
  have C : xC p s m _ c cd_Reg_amount 1 R_Reg V := C
  have hx := C.1
  have hb := C.2.1
  have hl : lv_has ls 1 [(0, .ref (V.2.2 7))] := hl
  unfold p_Reg_amount at h
  refine lv_aload_n hx hb d_Reg_amount_0 rfl (lv_at hl 0 rfl) ?_
  refine x_get C hI (d := 7) (by decide) (xE7 V _) fd_Reg_26 rfl d_Reg_amount_1 ?_
  exact x_iret C hlocks hr hI h d_Reg_amount_4
def y_Reg_has : MethodName := ⟨"RegionPool$Regions", "has", "(I)Z"⟩
abbrev cd_Reg_has : ByteArray := prog_9_method_3_code
def p_Reg_has (x1 : Int32) (σ : xS) (Q : Int32 → xS → Prop) : Prop :=
  ((x1 < 0 → Q 0 σ) ∧ (¬ x1 < 0 → (((σ 7 4) ≤ x1 → Q 0 σ) ∧ (¬ (σ 7 4) ≤ x1 → Q 1 σ))))
abbrev rm_Reg_has : Room := { frames := 0, cells := 0, slots := 0, locals := 0 }
theorem d_Reg_has_0 : decode cd_Reg_has 0 = .ok (.iload_n 1, 1) := by decide +kernel
theorem d_Reg_has_1 : decode cd_Reg_has 1 = .ok (.ifCond .lt 15, 3) := by decide +kernel
theorem d_Reg_has_4 : decode cd_Reg_has 4 = .ok (.iload_n 1, 1) := by decide +kernel
theorem d_Reg_has_5 : decode cd_Reg_has 5 = .ok (.aload_n 0, 1) := by decide +kernel
theorem d_Reg_has_6 : decode cd_Reg_has 6 = .ok (.getfield 26, 3) := by decide +kernel
theorem d_Reg_has_9 : decode cd_Reg_has 9 = .ok (.if_icmp .ge 7, 3) := by decide +kernel
theorem d_Reg_has_12 : decode cd_Reg_has 12 = .ok (.iconst 1, 1) := by decide +kernel
theorem d_Reg_has_13 : decode cd_Reg_has 13 = .ok (.goto 4, 3) := by decide +kernel
theorem d_Reg_has_16 : decode cd_Reg_has 16 = .ok (.iconst 0, 1) := by decide +kernel
theorem d_Reg_has_17 : decode cd_Reg_has 17 = .ok (.ireturn, 1) := by decide +kernel
set_option maxRecDepth 100000 in
set_option maxHeartbeats 4000000 in
theorem c_Reg_has {l : Launch} {V : xV} {σ : xS} {x1 : Int32} {Q : Int32 → xS → Prop} (h : p_Reg_has x1 σ Q) : xMi l y_Reg_has (.code y_Reg_has cd_Reg_has 2 (some .boolean) :: xG) rm_Reg_has V [.ref (V.2.2 7), .int x1] σ Q := by
  refine x_begini (by decide) (Nat.le_of_ble_eq_true rfl) (fun p e s m below meth c ls C hlocks hr hI hl => ?_)
  have C : xC p s m _ c cd_Reg_has 2 R_Reg V := C
  have hx := C.1
  have hb := C.2.1
  have hl : lv_has ls 2 [(0, .ref (V.2.2 7)), (1, .int x1)] := hl
  unfold p_Reg_has at h
  refine lv_iload_n hx hb d_Reg_has_0 rfl (lv_at hl 1 rfl) ?_
  refine lv_if_lt (tgt := 16) hx hb d_Reg_has_1 (by decide) (fun c1 => ?_) (fun c1 => ?_)
  · have h := h.1 c1
    refine lv_iconst (v := 0) hx hb d_Reg_has_16 (by decide) ?_
    exact x_zret C hlocks hr hI ⟨rfl, h⟩ d_Reg_has_17
  · have h := h.2 c1
    refine lv_iload_n hx hb d_Reg_has_4 rfl (lv_at hl 1 rfl) ?_
    refine lv_aload_n hx hb d_Reg_has_5 rfl (lv_at hl 0 rfl) ?_
    refine x_get C hI (d := 7) (by decide) (xE7 V _) fd_Reg_26 rfl d_Reg_has_6 ?_
    refine lv_icmp_ge (tgt := 16) hx hb d_Reg_has_9 (by decide) (fun c2 => ?_) (fun c2 => ?_)
    · have h := h.1 c2
      refine lv_iconst (v := 0) hx hb d_Reg_has_16 (by decide) ?_
      exact x_zret C hlocks hr hI ⟨rfl, h⟩ d_Reg_has_17
    · have h := h.2 c2
      refine lv_iconst (v := 1) hx hb d_Reg_has_12 (by decide) ?_
      refine lv_goto (tgt := 17) hx hb d_Reg_has_13 (by decide) ?_
      exact x_zret C hlocks hr hI ⟨rfl, h⟩ d_Reg_has_17
def y_Reg_rowLength : MethodName := ⟨"RegionPool$Regions", "rowLength", "(I)I"⟩
abbrev cd_Reg_rowLength : ByteArray := prog_9_method_4_code
theorem fd_Reg_20 : xFd R_Reg 20 7 2 := ⟨R_Reg, T_Reg, 5, rfl, in_Reg, by decide, xG_mem 133 (by decide +kernel) (by decide +kernel)⟩
def p_Reg_rowLength (x1 : Int32) (σ : xS) (Q : Int32 → xS → Prop) : Prop :=
  (vp_in x1 8 ∧ Q (σ 22 x1.toNatClampNeg) σ)
abbrev rm_Reg_rowLength : Room := { frames := 0, cells := 0, slots := 0, locals := 0 }
theorem d_Reg_rowLength_0 : decode cd_Reg_rowLength 0 = .ok (.aload_n 0, 1) := by decide +kernel
theorem d_Reg_rowLength_1 : decode cd_Reg_rowLength 1 = .ok (.getfield 20, 3) := by decide +kernel
theorem d_Reg_rowLength_4 : decode cd_Reg_rowLength 4 = .ok (.iload_n 1, 1) := by decide +kernel
theorem d_Reg_rowLength_5 : decode cd_Reg_rowLength 5 = .ok (.iaload, 1) := by decide +kernel
theorem d_Reg_rowLength_6 : decode cd_Reg_rowLength 6 = .ok (.ireturn, 1) := by decide +kernel
set_option maxRecDepth 100000 in
set_option maxHeartbeats 4000000 in
theorem c_Reg_rowLength {l : Launch} {V : xV} {σ : xS} {x1 : Int32} {Q : Int32 → xS → Prop} (h : p_Reg_rowLength x1 σ Q) : xMi l y_Reg_rowLength (.code y_Reg_rowLength cd_Reg_rowLength 2 (some .int) :: xG) rm_Reg_rowLength V [.ref (V.2.2 7), .int x1] σ Q := by
  refine x_begini (by decide) (Nat.le_of_ble_eq_true rfl) (fun p e s m below meth c ls C hlocks hr hI hl => ?_)
  have C : xC p s m _ c cd_Reg_rowLength 2 R_Reg V := C
  have hx := C.1
  have hb := C.2.1
  have hl : lv_has ls 2 [(0, .ref (V.2.2 7)), (1, .int x1)] := hl
  unfold p_Reg_rowLength at h
  refine lv_aload_n hx hb d_Reg_rowLength_0 rfl (lv_at hl 0 rfl) ?_
  refine x_get C hI (d := 7) (by decide) (xE7 V _) fd_Reg_20 rfl d_Reg_rowLength_1 ?_
  refine lv_iload_n hx hb d_Reg_rowLength_4 rfl (lv_at hl 1 rfl) ?_
  obtain ⟨i1, h⟩ := h
  refine x_iald C hI (d := 22) (by decide) (xE22 V) i1 d_Reg_rowLength_5 ?_
  exact x_iret C hlocks hr hI h d_Reg_rowLength_6
def y_Reg_pageInRow : MethodName := ⟨"RegionPool$Regions", "pageInRow", "(II)I"⟩
abbrev cd_Reg_pageInRow : ByteArray := prog_9_method_5_code
theorem fd_Reg_17 : xFd R_Reg 17 7 1 := ⟨R_Reg, T_Reg, 5, rfl, in_Reg, by decide, xG_mem 132 (by decide +kernel) (by decide +kernel)⟩
def p_Reg_pageInRow (x1 x2 : Int32) (σ : xS) (Q : Int32 → xS → Prop) : Prop :=
  (vp_in x1 8 ∧ (vp_in x2 40 ∧ Q (σ (32 + x1.toNatClampNeg) x2.toNatClampNeg) σ))
abbrev rm_Reg_pageInRow : Room := { frames := 0, cells := 0, slots := 0, locals := 0 }
theorem d_Reg_pageInRow_0 : decode cd_Reg_pageInRow 0 = .ok (.aload_n 0, 1) := by decide +kernel
theorem d_Reg_pageInRow_1 : decode cd_Reg_pageInRow 1 = .ok (.getfield 17, 3) := by decide +kernel
theorem d_Reg_pageInRow_4 : decode cd_Reg_pageInRow 4 = .ok (.iload_n 1, 1) := by decide +kernel
theorem d_Reg_pageInRow_5 : decode cd_Reg_pageInRow 5 = .ok (.aaload, 1) := by decide +kernel
theorem d_Reg_pageInRow_6 : decode cd_Reg_pageInRow 6 = .ok (.iload_n 2, 1) := by decide +kernel
theorem d_Reg_pageInRow_7 : decode cd_Reg_pageInRow 7 = .ok (.iaload, 1) := by decide +kernel
theorem d_Reg_pageInRow_8 : decode cd_Reg_pageInRow 8 = .ok (.ireturn, 1) := by decide +kernel
set_option maxRecDepth 100000 in
set_option maxHeartbeats 4000000 in
theorem c_Reg_pageInRow {l : Launch} {V : xV} {σ : xS} {x1 x2 : Int32} {Q : Int32 → xS → Prop} (h : p_Reg_pageInRow x1 x2 σ Q) : xMi l y_Reg_pageInRow (.code y_Reg_pageInRow cd_Reg_pageInRow 3 (some .int) :: xG) rm_Reg_pageInRow V [.ref (V.2.2 7), .int x1, .int x2] σ Q := by
  refine x_begini (by decide) (Nat.le_of_ble_eq_true rfl) (fun p e s m below meth c ls C hlocks hr hI hl => ?_)
  have C : xC p s m _ c cd_Reg_pageInRow 3 R_Reg V := C
  have hx := C.1
  have hb := C.2.1
  have hl : lv_has ls 3 [(0, .ref (V.2.2 7)), (1, .int x1), (2, .int x2)] := hl
  unfold p_Reg_pageInRow at h
  refine lv_aload_n hx hb d_Reg_pageInRow_0 rfl (lv_at hl 0 rfl) ?_
  refine x_get C hI (d := 7) (by decide) (xE7 V _) fd_Reg_17 rfl d_Reg_pageInRow_1 ?_
  refine lv_iload_n hx hb d_Reg_pageInRow_4 rfl (lv_at hl 1 rfl) ?_
  obtain ⟨i1, h⟩ := h
  refine x_aald C hI i1 d_Reg_pageInRow_5 ?_
  refine lv_iload_n hx hb d_Reg_pageInRow_6 rfl (lv_at hl 2 rfl) ?_
  obtain ⟨i2, h⟩ := h
  refine x_iald C hI (d := (32 + x1.toNatClampNeg)) (x_rowlt i1) (xErow V (x_rown i1)) i2 d_Reg_pageInRow_7 ?_
  exact x_iret C hlocks hr hI h d_Reg_pageInRow_8
def y_Reg_ofPlace : MethodName := ⟨"RegionPool$Regions", "ofPlace", "(I)I"⟩
abbrev cd_Reg_ofPlace : ByteArray := prog_9_method_6_code
theorem fd_Reg_9 : xFd R_Reg 9 7 0 := ⟨R_Reg, T_Reg, 5, rfl, in_Reg, by decide, xG_mem 131 (by decide +kernel) (by decide +kernel)⟩
def p_Reg_ofPlace (x1 : Int32) (σ : xS) (Q : Int32 → xS → Prop) : Prop :=
  (vp_in (x1 / 16) 40 ∧ Q (σ 20 (x1 / 16).toNatClampNeg) σ)
abbrev rm_Reg_ofPlace : Room := { frames := 0, cells := 0, slots := 0, locals := 0 }
theorem d_Reg_ofPlace_0 : decode cd_Reg_ofPlace 0 = .ok (.aload_n 0, 1) := by decide +kernel
theorem d_Reg_ofPlace_1 : decode cd_Reg_ofPlace 1 = .ok (.getfield 9, 3) := by decide +kernel
theorem d_Reg_ofPlace_4 : decode cd_Reg_ofPlace 4 = .ok (.iload_n 1, 1) := by decide +kernel
theorem d_Reg_ofPlace_5 : decode cd_Reg_ofPlace 5 = .ok (.bipush 16, 2) := by decide +kernel
theorem d_Reg_ofPlace_7 : decode cd_Reg_ofPlace 7 = .ok (.idiv, 1) := by decide +kernel
theorem d_Reg_ofPlace_8 : decode cd_Reg_ofPlace 8 = .ok (.iaload, 1) := by decide +kernel
theorem d_Reg_ofPlace_9 : decode cd_Reg_ofPlace 9 = .ok (.ireturn, 1) := by decide +kernel
set_option maxRecDepth 100000 in
set_option maxHeartbeats 4000000 in
theorem c_Reg_ofPlace {l : Launch} {V : xV} {σ : xS} {x1 : Int32} {Q : Int32 → xS → Prop} (h : p_Reg_ofPlace x1 σ Q) : xMi l y_Reg_ofPlace (.code y_Reg_ofPlace cd_Reg_ofPlace 2 (some .int) :: xG) rm_Reg_ofPlace V [.ref (V.2.2 7), .int x1] σ Q := by
  refine x_begini (by decide) (Nat.le_of_ble_eq_true rfl) (fun p e s m below meth c ls C hlocks hr hI hl => ?_)
  have C : xC p s m _ c cd_Reg_ofPlace 2 R_Reg V := C
  have hx := C.1
  have hb := C.2.1
  have hl : lv_has ls 2 [(0, .ref (V.2.2 7)), (1, .int x1)] := hl
  unfold p_Reg_ofPlace at h
  refine lv_aload_n hx hb d_Reg_ofPlace_0 rfl (lv_at hl 0 rfl) ?_
  refine x_get C hI (d := 7) (by decide) (xE7 V _) fd_Reg_9 rfl d_Reg_ofPlace_1 ?_
  refine lv_iload_n hx hb d_Reg_ofPlace_4 rfl (lv_at hl 1 rfl) ?_
  refine lv_bipush (v := 16) hx hb d_Reg_ofPlace_5 (by decide) ?_
  refine lv_idiv hx hb d_Reg_ofPlace_7 (by decide) ?_
  obtain ⟨i1, h⟩ := h
  refine x_iald C hI (d := 20) (by decide) (xE20 V) i1 d_Reg_ofPlace_8 ?_
  exact x_iret C hlocks hr hI h d_Reg_ofPlace_9
def y_Reg_begin : MethodName := ⟨"RegionPool$Regions", "begin", "()I"⟩
abbrev cd_Reg_begin : ByteArray := prog_9_method_7_code
theorem fw_Reg_26 : xFw R_Reg 26 7 4 := ⟨R_Reg, T_Reg, 5, t_Reg, rfl, in_Reg, by decide, xG_mem 135 (by decide +kernel) (by decide +kernel), tk_Reg, nm_Reg, rfl, by decide +kernel⟩
theorem xP_7_4 (V : xV) (f : Nat → Int32) (x : Int32) : xE V 7 (upd f 4 x) = .inr (7, [.ref (V.2.2 20), .ref (V.2.2 21), .ref (V.2.2 22), .ref (V.2.2 23), .int (f 4)].set 4 (.int x)) := rfl
def y_Reg_emptyRow : MethodName := ⟨"RegionPool$Regions", "emptyRow", "(I)V"⟩
abbrev cd_Reg_emptyRow : ByteArray := prog_9_method_16_code
theorem fd_Reg_23 : xFd R_Reg 23 7 3 := ⟨R_Reg, T_Reg, 5, rfl, in_Reg, by decide, xG_mem 134 (by decide +kernel) (by decide +kernel)⟩
def p_Reg_emptyRow (x1 : Int32) (σ : xS) (Q : xS → Prop) : Prop :=
  (vp_in x1 8 ∧ (vp_in x1 8 ∧ Q (xu (xu σ 22 x1.toNatClampNeg 0) 23 x1.toNatClampNeg 16)))
abbrev rm_Reg_emptyRow : Room := { frames := 0, cells := 0, slots := 0, locals := 0 }
theorem d_Reg_emptyRow_0 : decode cd_Reg_emptyRow 0 = .ok (.aload_n 0, 1) := by decide +kernel
theorem d_Reg_emptyRow_1 : decode cd_Reg_emptyRow 1 = .ok (.getfield 20, 3) := by decide +kernel
theorem d_Reg_emptyRow_4 : decode cd_Reg_emptyRow 4 = .ok (.iload_n 1, 1) := by decide +kernel
theorem d_Reg_emptyRow_5 : decode cd_Reg_emptyRow 5 = .ok (.iconst 0, 1) := by decide +kernel
theorem d_Reg_emptyRow_6 : decode cd_Reg_emptyRow 6 = .ok (.iastore, 1) := by decide +kernel
theorem d_Reg_emptyRow_7 : decode cd_Reg_emptyRow 7 = .ok (.aload_n 0, 1) := by decide +kernel
theorem d_Reg_emptyRow_8 : decode cd_Reg_emptyRow 8 = .ok (.getfield 23, 3) := by decide +kernel
theorem d_Reg_emptyRow_11 : decode cd_Reg_emptyRow 11 = .ok (.iload_n 1, 1) := by decide +kernel
theorem d_Reg_emptyRow_12 : decode cd_Reg_emptyRow 12 = .ok (.bipush 16, 2) := by decide +kernel
theorem d_Reg_emptyRow_14 : decode cd_Reg_emptyRow 14 = .ok (.iastore, 1) := by decide +kernel
theorem d_Reg_emptyRow_15 : decode cd_Reg_emptyRow 15 = .ok (.return_, 1) := by decide +kernel
set_option maxRecDepth 100000 in
set_option maxHeartbeats 4000000 in
theorem c_Reg_emptyRow {l : Launch} {V : xV} {σ : xS} {x1 : Int32} {Q : xS → Prop} (h : p_Reg_emptyRow x1 σ Q) : xMv l y_Reg_emptyRow (.code y_Reg_emptyRow cd_Reg_emptyRow 2 none :: xG) rm_Reg_emptyRow V [.ref (V.2.2 7), .int x1] σ Q := by
  refine x_beginv (by decide) (Nat.le_of_ble_eq_true rfl) (fun p e s m below meth c ls C hlocks hr hI hl => ?_)
  have C : xC p s m _ c cd_Reg_emptyRow 2 R_Reg V := C
  have hx := C.1
  have hb := C.2.1
  have hl : lv_has ls 2 [(0, .ref (V.2.2 7)), (1, .int x1)] := hl
  unfold p_Reg_emptyRow at h
  refine lv_aload_n hx hb d_Reg_emptyRow_0 rfl (lv_at hl 0 rfl) ?_
  refine x_get C hI (d := 7) (by decide) (xE7 V _) fd_Reg_20 rfl d_Reg_emptyRow_1 ?_
  refine lv_iload_n hx hb d_Reg_emptyRow_4 rfl (lv_at hl 1 rfl) ?_
  refine lv_iconst (v := 0) hx hb d_Reg_emptyRow_5 (by decide) ?_
  obtain ⟨i1, h⟩ := h
  refine x_iast C hI (d := 22) (by decide) (xE22 V) i1 d_Reg_emptyRow_6 (fun H locs hI => ?_)
  refine lv_aload_n hx hb d_Reg_emptyRow_7 rfl (lv_at hl 0 rfl) ?_
  refine x_get C hI (d := 7) (by decide) (xE7 V _) fd_Reg_23 rfl d_Reg_emptyRow_8 ?_
  refine lv_iload_n hx hb d_Reg_emptyRow_11 rfl (lv_at hl 1 rfl) ?_
  refine lv_bipush (v := 16) hx hb d_Reg_emptyRow_12 (by decide) ?_
  obtain ⟨i2, h⟩ := h
  refine x_iast C hI (d := 23) (by decide) (xE23 V) i2 d_Reg_emptyRow_14 (fun H locs hI => ?_)
  exact x_vret C hlocks hr hI h d_Reg_emptyRow_15
theorem yw_Reg_emptyRow : xY y_Reg_emptyRow cd_Reg_emptyRow 2 none 1 := ⟨xG_mem 307 (by decide +kernel) (by decide +kernel), xG_mem 0 (by decide +kernel) (by decide +kernel), xG_mem 59 (by decide +kernel) (by decide +kernel), xG_mem 308 (by decide +kernel) (by decide +kernel), by decide, by decide, by decide +kernel⟩
theorem ml_Reg_36 : Cond.methodLink R_Reg 36 y_Reg_emptyRow ∈ xG := xG_mem 305 (by decide +kernel) (by decide +kernel)
def p_Reg_begin (σ : xS) (Q : Int32 → xS → Prop) : Prop :=
  (((σ 7 4) < 8 → (∀ z2 : Int32, z2 = (σ 7 4) → p_Reg_emptyRow z2 (xu σ 7 4 ((σ 7 4) + 1)) (fun σ3 => Q z2 σ3))) ∧ (¬ (σ 7 4) < 8 → Q (-1) σ))
abbrev rm_Reg_begin : Room := { frames := 1, cells := 0, slots := 0, locals := 21 }
theorem d_Reg_begin_0 : decode cd_Reg_begin 0 = .ok (.aload_n 0, 1) := by decide +kernel
theorem d_Reg_begin_1 : decode cd_Reg_begin 1 = .ok (.getfield 26, 3) := by decide +kernel
theorem d_Reg_begin_4 : decode cd_Reg_begin 4 = .ok (.bipush 8, 2) := by decide +kernel
theorem d_Reg_begin_6 : decode cd_Reg_begin 6 = .ok (.if_icmp .lt 5, 3) := by decide +kernel
theorem d_Reg_begin_9 : decode cd_Reg_begin 9 = .ok (.iconst (-1), 1) := by decide +kernel
theorem d_Reg_begin_10 : decode cd_Reg_begin 10 = .ok (.ireturn, 1) := by decide +kernel
theorem d_Reg_begin_11 : decode cd_Reg_begin 11 = .ok (.aload_n 0, 1) := by decide +kernel
theorem d_Reg_begin_12 : decode cd_Reg_begin 12 = .ok (.getfield 26, 3) := by decide +kernel
theorem d_Reg_begin_15 : decode cd_Reg_begin 15 = .ok (.istore_n 1, 1) := by decide +kernel
theorem d_Reg_begin_16 : decode cd_Reg_begin 16 = .ok (.aload_n 0, 1) := by decide +kernel
theorem d_Reg_begin_17 : decode cd_Reg_begin 17 = .ok (.dup, 1) := by decide +kernel
theorem d_Reg_begin_18 : decode cd_Reg_begin 18 = .ok (.getfield 26, 3) := by decide +kernel
theorem d_Reg_begin_21 : decode cd_Reg_begin 21 = .ok (.iconst 1, 1) := by decide +kernel
theorem d_Reg_begin_22 : decode cd_Reg_begin 22 = .ok (.iadd, 1) := by decide +kernel
theorem d_Reg_begin_23 : decode cd_Reg_begin 23 = .ok (.putfield 26, 3) := by decide +kernel
theorem d_Reg_begin_26 : decode cd_Reg_begin 26 = .ok (.aload_n 0, 1) := by decide +kernel
theorem d_Reg_begin_27 : decode cd_Reg_begin 27 = .ok (.iload_n 1, 1) := by decide +kernel
theorem d_Reg_begin_28 : decode cd_Reg_begin 28 = .ok (.invokevirtual 36, 3) := by decide +kernel
theorem d_Reg_begin_31 : decode cd_Reg_begin 31 = .ok (.iload_n 1, 1) := by decide +kernel
theorem d_Reg_begin_32 : decode cd_Reg_begin 32 = .ok (.ireturn, 1) := by decide +kernel
set_option maxRecDepth 100000 in
set_option maxHeartbeats 4000000 in
theorem c_Reg_begin {l : Launch} {V : xV} {σ : xS} {Q : Int32 → xS → Prop} (h : p_Reg_begin σ Q) : xMi l y_Reg_begin (.code y_Reg_begin cd_Reg_begin 2 (some .int) :: xG) rm_Reg_begin V [.ref (V.2.2 7)] σ Q := by
  refine x_begini (by decide) (Nat.le_of_ble_eq_true rfl) (fun p e s m below meth c ls C hlocks hr hI hl => ?_)
  have C : xC p s m _ c cd_Reg_begin 2 R_Reg V := C
  have hx := C.1
  have hb := C.2.1
  have hl : lv_has ls 2 [(0, .ref (V.2.2 7))] := hl
  unfold p_Reg_begin at h
  refine lv_aload_n hx hb d_Reg_begin_0 rfl (lv_at hl 0 rfl) ?_
  refine x_get C hI (d := 7) (by decide) (xE7 V _) fd_Reg_26 rfl d_Reg_begin_1 ?_
  refine lv_bipush (v := 8) hx hb d_Reg_begin_4 (by decide) ?_
  refine lv_icmp_lt (tgt := 11) hx hb d_Reg_begin_6 (by decide) (fun c1 => ?_) (fun c1 => ?_)
  · have h := h.1 c1
    refine lv_aload_n hx hb d_Reg_begin_11 rfl (lv_at hl 0 rfl) ?_
    refine x_get C hI (d := 7) (by decide) (xE7 V _) fd_Reg_26 rfl d_Reg_begin_12 ?_
    refine lv_topi (fun z2 ez2 => ?_)
    have h := h z2 ez2
    refine lv_istore_n (lv' := [(1, .int z2), (0, .ref (V.2.2 7))]) hx hb d_Reg_begin_15 rfl hl (by decide) rfl (fun ls hl => ?_)
    refine lv_aload_n hx hb d_Reg_begin_16 rfl (lv_at hl 1 rfl) ?_
    refine lv_dup hx hb d_Reg_begin_17 rfl ?_
    refine x_get C hI (d := 7) (by decide) (xE7 V _) fd_Reg_26 rfl d_Reg_begin_18 ?_
    refine lv_iconst (v := 1) hx hb d_Reg_begin_21 (by decide) ?_
    refine lv_iadd hx hb d_Reg_begin_22 ?_
    refine x_put C hI (d := 7) (by decide) (xE7 V _) (xP_7_4 V _ _) fw_Reg_26 (Nat.le_of_ble_eq_true rfl) d_Reg_begin_23 (fun H locs hI => ?_)
    refine lv_aload_n hx hb d_Reg_begin_26 rfl (lv_at hl 1 rfl) ?_
    refine lv_iload_n hx hb d_Reg_begin_27 rfl (lv_at hl 0 rfl) ?_
    refine x_callv C hI hl.1 (d := 7) (As := [.int z2]) (rest := []) (by decide) (c_Reg_emptyRow h) (xE7 V _) rfl yw_Reg_emptyRow ml_Reg_36 rfl rfl ⟨Nat.le_of_ble_eq_true rfl, Nat.le_of_ble_eq_true rfl⟩ rfl rfl (Nat.le_of_ble_eq_true rfl) d_Reg_begin_28 ⟨Nat.zero_le _, Nat.zero_le _⟩ (fun σ3 H locs h hI => ?_)
    refine lv_iload_n hx hb d_Reg_begin_31 rfl (lv_at hl 0 rfl) ?_
    exact x_iret C hlocks hr hI h d_Reg_begin_32
  · have h := h.2 c1
    refine lv_iconst (v := (-1)) hx hb d_Reg_begin_9 (by decide) ?_
    exact x_iret C hlocks hr hI h d_Reg_begin_10
def y_Reg_endNewest : MethodName := ⟨"RegionPool$Regions", "endNewest", "()I"⟩
abbrev cd_Reg_endNewest : ByteArray := prog_9_method_8_code
def y_Reg_freePagesBehind : MethodName := ⟨"RegionPool$Regions", "freePagesBehind", "(III)V"⟩
abbrev cd_Reg_freePagesBehind : ByteArray := prog_9_method_19_code
def b_Reg_freePagesBehind_L3 (K3 : Int32 → Int32 → Int32 → xS → Prop) (Q : xS → Prop) (x1 x3 x4 : Int32) (σ : xS) : Prop :=
  ((x3 ≤ x4 → Q σ) ∧ (¬ x3 ≤ x4 → (vp_in x1 8 ∧ (vp_in x4 40 ∧ (vp_in (σ (32 + x1.toNatClampNeg) x4.toNatClampNeg) 40 ∧ (∀ z5 : Int32, z5 = x4 + 1 → K3 x1 x3 z5 (xu σ 20 (σ (32 + x1.toNatClampNeg) x4.toNatClampNeg).toNatClampNeg (-1))))))))
def p_Reg_freePagesBehind_L3 (Q : xS → Prop) (n : Nat) : Int32 → Int32 → Int32 → xS → Prop := Nat.rec (motive := fun _ => Int32 → Int32 → Int32 → xS → Prop) (fun _ _ _ _ => False) (fun _ K x1 x3 x4 σ => b_Reg_freePagesBehind_L3 K Q x1 x3 x4 σ) n
def p_Reg_freePagesBehind (x1 x2 x3 : Int32) (σ : xS) (Q : xS → Prop) : Prop :=
  (∃ n, p_Reg_freePagesBehind_L3 Q n x1 x3 x2 σ)
abbrev rm_Reg_freePagesBehind : Room := { frames := 0, cells := 0, slots := 0, locals := 0 }
theorem d_Reg_freePagesBehind_0 : decode cd_Reg_freePagesBehind 0 = .ok (.iload_n 2, 1) := by decide +kernel
theorem d_Reg_freePagesBehind_1 : decode cd_Reg_freePagesBehind 1 = .ok (.istore 4, 2) := by decide +kernel
theorem d_Reg_freePagesBehind_3 : decode cd_Reg_freePagesBehind 3 = .ok (.iload 4, 2) := by decide +kernel
theorem d_Reg_freePagesBehind_5 : decode cd_Reg_freePagesBehind 5 = .ok (.iload_n 3, 1) := by decide +kernel
theorem d_Reg_freePagesBehind_6 : decode cd_Reg_freePagesBehind 6 = .ok (.if_icmp .ge 24, 3) := by decide +kernel
theorem d_Reg_freePagesBehind_9 : decode cd_Reg_freePagesBehind 9 = .ok (.aload_n 0, 1) := by decide +kernel
theorem d_Reg_freePagesBehind_10 : decode cd_Reg_freePagesBehind 10 = .ok (.getfield 9, 3) := by decide +kernel
theorem d_Reg_freePagesBehind_13 : decode cd_Reg_freePagesBehind 13 = .ok (.aload_n 0, 1) := by decide +kernel
theorem d_Reg_freePagesBehind_14 : decode cd_Reg_freePagesBehind 14 = .ok (.getfield 17, 3) := by decide +kernel
theorem d_Reg_freePagesBehind_17 : decode cd_Reg_freePagesBehind 17 = .ok (.iload_n 1, 1) := by decide +kernel
theorem d_Reg_freePagesBehind_18 : decode cd_Reg_freePagesBehind 18 = .ok (.aaload, 1) := by decide +kernel
theorem d_Reg_freePagesBehind_19 : decode cd_Reg_freePagesBehind 19 = .ok (.iload 4, 2) := by decide +kernel
theorem d_Reg_freePagesBehind_21 : decode cd_Reg_freePagesBehind 21 = .ok (.iaload, 1) := by decide +kernel
theorem d_Reg_freePagesBehind_22 : decode cd_Reg_freePagesBehind 22 = .ok (.iconst (-1), 1) := by decide +kernel
theorem d_Reg_freePagesBehind_23 : decode cd_Reg_freePagesBehind 23 = .ok (.iastore, 1) := by decide +kernel
theorem d_Reg_freePagesBehind_24 : decode cd_Reg_freePagesBehind 24 = .ok (.iinc 4 1, 3) := by decide +kernel
theorem d_Reg_freePagesBehind_27 : decode cd_Reg_freePagesBehind 27 = .ok (.goto (-24), 3) := by decide +kernel
theorem d_Reg_freePagesBehind_30 : decode cd_Reg_freePagesBehind 30 = .ok (.return_, 1) := by decide +kernel
set_option maxRecDepth 100000 in
set_option maxHeartbeats 4000000 in
theorem s_Reg_freePagesBehind_L3 {p : Program} {l : Launch} {e : Env} {s : State} {m : MethodId} {args : Array Value} {below : List Frame} {meth : Method} {c : Code} {V : xV} (C : xC p s m args c cd_Reg_freePagesBehind 5 R_Reg V) (hlocks : meth.locks = false) (hr : meth.sig.returnType = none) {Q : xS → Prop} {K3 : Int32 → Int32 → Int32 → xS → Prop} (hK3 : ∀ (x1 : Int32) (x3 : Int32) (x4 : Int32) (σ : xS) (H : Heap) (locs : List Loc) (ls : Array Slot), K3 x1 x3 x4 σ → xI V s.heap σ H locs → lv_has ls 5 [(0, .ref (V.2.2 7)), (1, .int x1), (3, .int x3), (4, .int x4)] → W p l e rm_Reg_freePagesBehind s m args below meth c H locs 0 0 (xZv below V args s Q) (F0 m 3 ls [])) {x1 x3 x4 : Int32} {σ : xS} {H : Heap} {locs : List Loc} {ls : Array Slot} (h : b_Reg_freePagesBehind_L3 K3 Q x1 x3 x4 σ) (hI : xI V s.heap σ H locs) (hl : lv_has ls 5 [(0, .ref (V.2.2 7)), (1, .int x1), (3, .int x3), (4, .int x4)]) : W p l e rm_Reg_freePagesBehind s m args below meth c H locs 0 0 (xZv below V args s Q) (F0 m 3 ls []) := by
  have hx := C.1
  have hb := C.2.1
  unfold b_Reg_freePagesBehind_L3 at h
  refine lv_iload hx hb d_Reg_freePagesBehind_3 (lv_at hl 3 rfl) ?_
  refine lv_iload_n hx hb d_Reg_freePagesBehind_5 rfl (lv_at hl 2 rfl) ?_
  refine lv_icmp_ge (tgt := 30) hx hb d_Reg_freePagesBehind_6 (by decide) (fun c1 => ?_) (fun c1 => ?_)
  · have h := h.1 c1
    exact x_vret C hlocks hr hI h d_Reg_freePagesBehind_30
  · have h := h.2 c1
    refine lv_aload_n hx hb d_Reg_freePagesBehind_9 rfl (lv_at hl 0 rfl) ?_
    refine x_get C hI (d := 7) (by decide) (xE7 V _) fd_Reg_9 rfl d_Reg_freePagesBehind_10 ?_
    refine lv_aload_n hx hb d_Reg_freePagesBehind_13 rfl (lv_at hl 0 rfl) ?_
    refine x_get C hI (d := 7) (by decide) (xE7 V _) fd_Reg_17 rfl d_Reg_freePagesBehind_14 ?_
    refine lv_iload_n hx hb d_Reg_freePagesBehind_17 rfl (lv_at hl 1 rfl) ?_
    obtain ⟨i2, h⟩ := h
    refine x_aald C hI i2 d_Reg_freePagesBehind_18 ?_
    refine lv_iload hx hb d_Reg_freePagesBehind_19 (lv_at hl 3 rfl) ?_
    obtain ⟨i3, h⟩ := h
    refine x_iald C hI (d := (32 + x1.toNatClampNeg)) (x_rowlt i2) (xErow V (x_rown i2)) i3 d_Reg_freePagesBehind_21 ?_
    refine lv_iconst (v := (-1)) hx hb d_Reg_freePagesBehind_22 (by decide) ?_
    obtain ⟨i4, h⟩ := h
    refine x_iast C hI (d := 20) (by decide) (xE20 V) i4 d_Reg_freePagesBehind_23 (fun H locs hI => ?_)
    obtain ⟨z5, ez5⟩ : ∃ y : Int32, y = x4 + 1 := ⟨_, rfl⟩
    have h := h z5 ez5
    refine lv_iinc (v := z5) (lv' := [(4, .int z5), (0, .ref (V.2.2 7)), (1, .int x1), (3, .int x3)]) hx hb d_Reg_freePagesBehind_24 hl (k := 3) rfl (by rw [ez5]; rfl) (by decide) rfl (fun ls hl => ?_)
    refine lv_goto (tgt := 3) hx hb d_Reg_freePagesBehind_27 (by decide) ?_
    exact hK3 _ _ _ _ _ _ _ h hI (lv_sub hl [1, 2, 3, 0] rfl)
theorem w_Reg_freePagesBehind_L3 {p : Program} {l : Launch} {e : Env} {s : State} {m : MethodId} {args : Array Value} {below : List Frame} {meth : Method} {c : Code} {V : xV} (C : xC p s m args c cd_Reg_freePagesBehind 5 R_Reg V) (hlocks : meth.locks = false) (hr : meth.sig.returnType = none) {Q : xS → Prop} : ∀ (n : Nat) (x1 : Int32) (x3 : Int32) (x4 : Int32) (σ : xS) (H : Heap) (locs : List Loc) (ls : Array Slot), p_Reg_freePagesBehind_L3 Q n x1 x3 x4 σ → xI V s.heap σ H locs → lv_has ls 5 [(0, .ref (V.2.2 7)), (1, .int x1), (3, .int x3), (4, .int x4)] → W p l e rm_Reg_freePagesBehind s m args below meth c H locs 0 0 (xZv below V args s Q) (F0 m 3 ls []) := by
  intro n
  induction n with
  | zero =>
    intro x1 x3 x4 σ H locs ls h
    exact False.elim h
  | succ n ih =>
    intro x1 x3 x4 σ H locs ls h hI hl
    exact s_Reg_freePagesBehind_L3 C hlocks hr (K3 := p_Reg_freePagesBehind_L3 Q n) (fun x1 x3 x4 σ H locs ls h hI hl => ih x1 x3 x4 σ H locs ls h hI hl) h hI hl
set_option maxRecDepth 100000 in
set_option maxHeartbeats 4000000 in
theorem c_Reg_freePagesBehind {l : Launch} {V : xV} {σ : xS} {x1 x2 x3 : Int32} {Q : xS → Prop} (h : p_Reg_freePagesBehind x1 x2 x3 σ Q) : xMv l y_Reg_freePagesBehind (.code y_Reg_freePagesBehind cd_Reg_freePagesBehind 5 none :: xG) rm_Reg_freePagesBehind V [.ref (V.2.2 7), .int x1, .int x2, .int x3] σ Q := by
  refine x_beginv (by decide) (Nat.le_of_ble_eq_true rfl) (fun p e s m below meth c ls C hlocks hr hI hl => ?_)
  have C : xC p s m _ c cd_Reg_freePagesBehind 5 R_Reg V := C
  have hx := C.1
  have hb := C.2.1
  have hl : lv_has ls 5 [(0, .ref (V.2.2 7)), (1, .int x1), (2, .int x2), (3, .int x3)] := hl
  unfold p_Reg_freePagesBehind at h
  refine lv_iload_n hx hb d_Reg_freePagesBehind_0 rfl (lv_at hl 2 rfl) ?_
  refine lv_istore (lv' := [(4, .int x2), (0, .ref (V.2.2 7)), (1, .int x1), (2, .int x2), (3, .int x3)]) hx hb d_Reg_freePagesBehind_1 hl (by decide) rfl (fun ls hl => ?_)
  obtain ⟨n, h⟩ := h
  exact w_Reg_freePagesBehind_L3 C hlocks hr n _ _ _ _ _ _ _ h hI (lv_sub hl [1, 2, 4, 0] rfl)
theorem yw_Reg_freePagesBehind : xY y_Reg_freePagesBehind cd_Reg_freePagesBehind 5 none 3 := ⟨xG_mem 377 (by decide +kernel) (by decide +kernel), xG_mem 1 (by decide +kernel) (by decide +kernel), xG_mem 59 (by decide +kernel) (by decide +kernel), xG_mem 378 (by decide +kernel) (by decide +kernel), by decide, by decide, by decide +kernel⟩
theorem ml_Reg_40 : Cond.methodLink R_Reg 40 y_Reg_freePagesBehind ∈ xG := xG_mem 375 (by decide +kernel) (by decide +kernel)
def p_Reg_endNewest (σ : xS) (Q : Int32 → xS → Prop) : Prop :=
  (vp_in ((xu σ 7 4 ((σ 7 4) - 1)) 7 4) 8 ∧ (∀ z2 : Int32, z2 = ((xu σ 7 4 ((σ 7 4) - 1)) 22 ((xu σ 7 4 ((σ 7 4) - 1)) 7 4).toNatClampNeg) → p_Reg_freePagesBehind ((xu σ 7 4 ((σ 7 4) - 1)) 7 4) 0 z2 (xu σ 7 4 ((σ 7 4) - 1)) (fun σ3 => Q z2 σ3)))
abbrev rm_Reg_endNewest : Room := { frames := 1, cells := 0, slots := 0, locals := 24 }
theorem d_Reg_endNewest_0 : decode cd_Reg_endNewest 0 = .ok (.aload_n 0, 1) := by decide +kernel
theorem d_Reg_endNewest_1 : decode cd_Reg_endNewest 1 = .ok (.dup, 1) := by decide +kernel
theorem d_Reg_endNewest_2 : decode cd_Reg_endNewest 2 = .ok (.getfield 26, 3) := by decide +kernel
theorem d_Reg_endNewest_5 : decode cd_Reg_endNewest 5 = .ok (.iconst 1, 1) := by decide +kernel
theorem d_Reg_endNewest_6 : decode cd_Reg_endNewest 6 = .ok (.isub, 1) := by decide +kernel
theorem d_Reg_endNewest_7 : decode cd_Reg_endNewest 7 = .ok (.putfield 26, 3) := by decide +kernel
theorem d_Reg_endNewest_10 : decode cd_Reg_endNewest 10 = .ok (.aload_n 0, 1) := by decide +kernel
theorem d_Reg_endNewest_11 : decode cd_Reg_endNewest 11 = .ok (.getfield 20, 3) := by decide +kernel
theorem d_Reg_endNewest_14 : decode cd_Reg_endNewest 14 = .ok (.aload_n 0, 1) := by decide +kernel
theorem d_Reg_endNewest_15 : decode cd_Reg_endNewest 15 = .ok (.getfield 26, 3) := by decide +kernel
theorem d_Reg_endNewest_18 : decode cd_Reg_endNewest 18 = .ok (.iaload, 1) := by decide +kernel
theorem d_Reg_endNewest_19 : decode cd_Reg_endNewest 19 = .ok (.istore_n 1, 1) := by decide +kernel
theorem d_Reg_endNewest_20 : decode cd_Reg_endNewest 20 = .ok (.aload_n 0, 1) := by decide +kernel
theorem d_Reg_endNewest_21 : decode cd_Reg_endNewest 21 = .ok (.aload_n 0, 1) := by decide +kernel
theorem d_Reg_endNewest_22 : decode cd_Reg_endNewest 22 = .ok (.getfield 26, 3) := by decide +kernel
theorem d_Reg_endNewest_25 : decode cd_Reg_endNewest 25 = .ok (.iconst 0, 1) := by decide +kernel
theorem d_Reg_endNewest_26 : decode cd_Reg_endNewest 26 = .ok (.iload_n 1, 1) := by decide +kernel
theorem d_Reg_endNewest_27 : decode cd_Reg_endNewest 27 = .ok (.invokevirtual 40, 3) := by decide +kernel
theorem d_Reg_endNewest_30 : decode cd_Reg_endNewest 30 = .ok (.iload_n 1, 1) := by decide +kernel
theorem d_Reg_endNewest_31 : decode cd_Reg_endNewest 31 = .ok (.ireturn, 1) := by decide +kernel
set_option maxRecDepth 100000 in
set_option maxHeartbeats 4000000 in
theorem c_Reg_endNewest {l : Launch} {V : xV} {σ : xS} {Q : Int32 → xS → Prop} (h : p_Reg_endNewest σ Q) : xMi l y_Reg_endNewest (.code y_Reg_endNewest cd_Reg_endNewest 2 (some .int) :: xG) rm_Reg_endNewest V [.ref (V.2.2 7)] σ Q := by
  refine x_begini (by decide) (Nat.le_of_ble_eq_true rfl) (fun p e s m below meth c ls C hlocks hr hI hl => ?_)
  have C : xC p s m _ c cd_Reg_endNewest 2 R_Reg V := C
  have hx := C.1
  have hb := C.2.1
  have hl : lv_has ls 2 [(0, .ref (V.2.2 7))] := hl
  unfold p_Reg_endNewest at h
  refine lv_aload_n hx hb d_Reg_endNewest_0 rfl (lv_at hl 0 rfl) ?_
  refine lv_dup hx hb d_Reg_endNewest_1 rfl ?_
  refine x_get C hI (d := 7) (by decide) (xE7 V _) fd_Reg_26 rfl d_Reg_endNewest_2 ?_
  refine lv_iconst (v := 1) hx hb d_Reg_endNewest_5 (by decide) ?_
  refine lv_isub hx hb d_Reg_endNewest_6 ?_
  refine x_put C hI (d := 7) (by decide) (xE7 V _) (xP_7_4 V _ _) fw_Reg_26 (Nat.le_of_ble_eq_true rfl) d_Reg_endNewest_7 (fun H locs hI => ?_)
  refine lv_aload_n hx hb d_Reg_endNewest_10 rfl (lv_at hl 0 rfl) ?_
  refine x_get C hI (d := 7) (by decide) (xE7 V _) fd_Reg_20 rfl d_Reg_endNewest_11 ?_
  refine lv_aload_n hx hb d_Reg_endNewest_14 rfl (lv_at hl 0 rfl) ?_
  refine x_get C hI (d := 7) (by decide) (xE7 V _) fd_Reg_26 rfl d_Reg_endNewest_15 ?_
  obtain ⟨i1, h⟩ := h
  refine x_iald C hI (d := 22) (by decide) (xE22 V) i1 d_Reg_endNewest_18 ?_
  refine lv_topi (fun z2 ez2 => ?_)
  have h := h z2 ez2
  refine lv_istore_n (lv' := [(1, .int z2), (0, .ref (V.2.2 7))]) hx hb d_Reg_endNewest_19 rfl hl (by decide) rfl (fun ls hl => ?_)
  refine lv_aload_n hx hb d_Reg_endNewest_20 rfl (lv_at hl 1 rfl) ?_
  refine lv_aload_n hx hb d_Reg_endNewest_21 rfl (lv_at hl 1 rfl) ?_
  refine x_get C hI (d := 7) (by decide) (xE7 V _) fd_Reg_26 rfl d_Reg_endNewest_22 ?_
  refine lv_iconst (v := 0) hx hb d_Reg_endNewest_25 (by decide) ?_
  refine lv_iload_n hx hb d_Reg_endNewest_26 rfl (lv_at hl 0 rfl) ?_
  refine x_callv C hI hl.1 (d := 7) (As := [.int ((xu σ 7 4 ((σ 7 4) - 1)) 7 4), .int 0, .int z2]) (rest := []) (by decide) (c_Reg_freePagesBehind h) (xE7 V _) rfl yw_Reg_freePagesBehind ml_Reg_40 rfl rfl ⟨Nat.le_of_ble_eq_true rfl, Nat.le_of_ble_eq_true rfl⟩ rfl rfl (Nat.le_of_ble_eq_true rfl) d_Reg_endNewest_27 ⟨Nat.zero_le _, Nat.zero_le _⟩ (fun σ3 H locs h hI => ?_)
  refine lv_iload_n hx hb d_Reg_endNewest_30 rfl (lv_at hl 0 rfl) ?_
  exact x_iret C hlocks hr hI h d_Reg_endNewest_31
def y_Reg_freePages : MethodName := ⟨"RegionPool$Regions", "freePages", "()I"⟩
abbrev cd_Reg_freePages : ByteArray := prog_9_method_9_code
def b_Reg_freePages_L4 (K4 : Int32 → Int32 → xS → Prop) (Q : Int32 → xS → Prop) (x1 x2 : Int32) (σ : xS) : Prop :=
  ((40 ≤ x2 → Q x1 σ) ∧ (¬ 40 ≤ x2 → (vp_in x2 40 ∧ ((¬ (σ 20 x2.toNatClampNeg) = (-1) → (∀ z4 : Int32, z4 = (x1 + 0) → (∀ z5 : Int32, z5 = x2 + 1 → K4 z4 z5 σ))) ∧ ((σ 20 x2.toNatClampNeg) = (-1) → (∀ z6 : Int32, z6 = (x1 + 1) → (∀ z7 : Int32, z7 = x2 + 1 → K4 z6 z7 σ)))))))
def p_Reg_freePages_L4 (Q : Int32 → xS → Prop) (n : Nat) : Int32 → Int32 → xS → Prop := Nat.rec (motive := fun _ => Int32 → Int32 → xS → Prop) (fun _ _ _ => False) (fun _ K x1 x2 σ => b_Reg_freePages_L4 K Q x1 x2 σ) n
def p_Reg_freePages (σ : xS) (Q : Int32 → xS → Prop) : Prop :=
  (∃ n, p_Reg_freePages_L4 Q n 0 0 σ)
abbrev rm_Reg_freePages : Room := { frames := 0, cells := 0, slots := 0, locals := 0 }
theorem d_Reg_freePages_0 : decode cd_Reg_freePages 0 = .ok (.iconst 0, 1) := by decide +kernel
theorem d_Reg_freePages_1 : decode cd_Reg_freePages 1 = .ok (.istore_n 1, 1) := by decide +kernel
theorem d_Reg_freePages_2 : decode cd_Reg_freePages 2 = .ok (.iconst 0, 1) := by decide +kernel
theorem d_Reg_freePages_3 : decode cd_Reg_freePages 3 = .ok (.istore_n 2, 1) := by decide +kernel
theorem d_Reg_freePages_4 : decode cd_Reg_freePages 4 = .ok (.iload_n 2, 1) := by decide +kernel
theorem d_Reg_freePages_5 : decode cd_Reg_freePages 5 = .ok (.bipush 40, 2) := by decide +kernel
theorem d_Reg_freePages_7 : decode cd_Reg_freePages 7 = .ok (.if_icmp .ge 27, 3) := by decide +kernel
theorem d_Reg_freePages_10 : decode cd_Reg_freePages 10 = .ok (.iload_n 1, 1) := by decide +kernel
theorem d_Reg_freePages_11 : decode cd_Reg_freePages 11 = .ok (.aload_n 0, 1) := by decide +kernel
theorem d_Reg_freePages_12 : decode cd_Reg_freePages 12 = .ok (.getfield 9, 3) := by decide +kernel
theorem d_Reg_freePages_15 : decode cd_Reg_freePages 15 = .ok (.iload_n 2, 1) := by decide +kernel
theorem d_Reg_freePages_16 : decode cd_Reg_freePages 16 = .ok (.iaload, 1) := by decide +kernel
theorem d_Reg_freePages_17 : decode cd_Reg_freePages 17 = .ok (.iconst (-1), 1) := by decide +kernel
theorem d_Reg_freePages_18 : decode cd_Reg_freePages 18 = .ok (.if_icmp .ne 7, 3) := by decide +kernel
theorem d_Reg_freePages_21 : decode cd_Reg_freePages 21 = .ok (.iconst 1, 1) := by decide +kernel
theorem d_Reg_freePages_22 : decode cd_Reg_freePages 22 = .ok (.goto 4, 3) := by decide +kernel
theorem d_Reg_freePages_25 : decode cd_Reg_freePages 25 = .ok (.iconst 0, 1) := by decide +kernel
theorem d_Reg_freePages_26 : decode cd_Reg_freePages 26 = .ok (.iadd, 1) := by decide +kernel
theorem d_Reg_freePages_27 : decode cd_Reg_freePages 27 = .ok (.istore_n 1, 1) := by decide +kernel
theorem d_Reg_freePages_28 : decode cd_Reg_freePages 28 = .ok (.iinc 2 1, 3) := by decide +kernel
theorem d_Reg_freePages_31 : decode cd_Reg_freePages 31 = .ok (.goto (-27), 3) := by decide +kernel
theorem d_Reg_freePages_34 : decode cd_Reg_freePages 34 = .ok (.iload_n 1, 1) := by decide +kernel
theorem d_Reg_freePages_35 : decode cd_Reg_freePages 35 = .ok (.ireturn, 1) := by decide +kernel
set_option maxRecDepth 100000 in
set_option maxHeartbeats 4000000 in
theorem s_Reg_freePages_L4 {p : Program} {l : Launch} {e : Env} {s : State} {m : MethodId} {args : Array Value} {below : List Frame} {meth : Method} {c : Code} {V : xV} (C : xC p s m args c cd_Reg_freePages 3 R_Reg V) (hlocks : meth.locks = false) (hr : meth.sig.returnType = (some .int)) {Q : Int32 → xS → Prop} {K4 : Int32 → Int32 → xS → Prop} (hK4 : ∀ (x1 : Int32) (x2 : Int32) (σ : xS) (H : Heap) (locs : List Loc) (ls : Array Slot), K4 x1 x2 σ → xI V s.heap σ H locs → lv_has ls 3 [(0, .ref (V.2.2 7)), (1, .int x1), (2, .int x2)] → W p l e rm_Reg_freePages s m args below meth c H locs 0 0 (xZi below V args s Q) (F0 m 4 ls [])) {x1 x2 : Int32} {σ : xS} {H : Heap} {locs : List Loc} {ls : Array Slot} (h : b_Reg_freePages_L4 K4 Q x1 x2 σ) (hI : xI V s.heap σ H locs) (hl : lv_has ls 3 [(0, .ref (V.2.2 7)), (1, .int x1), (2, .int x2)]) : W p l e rm_Reg_freePages s m args below meth c H locs 0 0 (xZi below V args s Q) (F0 m 4 ls []) := by
  have hx := C.1
  have hb := C.2.1
  unfold b_Reg_freePages_L4 at h
  refine lv_iload_n hx hb d_Reg_freePages_4 rfl (lv_at hl 2 rfl) ?_
  refine lv_bipush (v := 40) hx hb d_Reg_freePages_5 (by decide) ?_
  refine lv_icmp_ge (tgt := 34) hx hb d_Reg_freePages_7 (by decide) (fun c1 => ?_) (fun c1 => ?_)
  · have h := h.1 c1
    refine lv_iload_n hx hb d_Reg_freePages_34 rfl (lv_at hl 1 rfl) ?_
    exact x_iret C hlocks hr hI h d_Reg_freePages_35
  · have h := h.2 c1
    refine lv_iload_n hx hb d_Reg_freePages_10 rfl (lv_at hl 1 rfl) ?_
    refine lv_aload_n hx hb d_Reg_freePages_11 rfl (lv_at hl 0 rfl) ?_
    refine x_get C hI (d := 7) (by decide) (xE7 V _) fd_Reg_9 rfl d_Reg_freePages_12 ?_
    refine lv_iload_n hx hb d_Reg_freePages_15 rfl (lv_at hl 2 rfl) ?_
    obtain ⟨i2, h⟩ := h
    refine x_iald C hI (d := 20) (by decide) (xE20 V) i2 d_Reg_freePages_16 ?_
    refine lv_iconst (v := (-1)) hx hb d_Reg_freePages_17 (by decide) ?_
    refine lv_icmp_ne (tgt := 25) hx hb d_Reg_freePages_18 (by decide) (fun c3 => ?_) (fun c3 => ?_)
    · have h := h.1 c3
      refine lv_iconst (v := 0) hx hb d_Reg_freePages_25 (by decide) ?_
      refine lv_iadd hx hb d_Reg_freePages_26 ?_
      refine lv_topi (fun z4 ez4 => ?_)
      have h := h z4 ez4
      refine lv_istore_n (lv' := [(1, .int z4), (0, .ref (V.2.2 7)), (2, .int x2)]) hx hb d_Reg_freePages_27 rfl hl (by decide) rfl (fun ls hl => ?_)
      obtain ⟨z5, ez5⟩ : ∃ y : Int32, y = x2 + 1 := ⟨_, rfl⟩
      have h := h z5 ez5
      refine lv_iinc (v := z5) (lv' := [(2, .int z5), (1, .int z4), (0, .ref (V.2.2 7))]) hx hb d_Reg_freePages_28 hl (k := 2) rfl (by rw [ez5]; rfl) (by decide) rfl (fun ls hl => ?_)
      refine lv_goto (tgt := 4) hx hb d_Reg_freePages_31 (by decide) ?_
      exact hK4 _ _ _ _ _ _ h hI (lv_sub hl [2, 1, 0] rfl)
    · have h := h.2 c3
      refine lv_iconst (v := 1) hx hb d_Reg_freePages_21 (by decide) ?_
      refine lv_goto (tgt := 26) hx hb d_Reg_freePages_22 (by decide) ?_
      refine lv_iadd hx hb d_Reg_freePages_26 ?_
      refine lv_topi (fun z6 ez6 => ?_)
      have h := h z6 ez6
      refine lv_istore_n (lv' := [(1, .int z6), (0, .ref (V.2.2 7)), (2, .int x2)]) hx hb d_Reg_freePages_27 rfl hl (by decide) rfl (fun ls hl => ?_)
      obtain ⟨z7, ez7⟩ : ∃ y : Int32, y = x2 + 1 := ⟨_, rfl⟩
      have h := h z7 ez7
      refine lv_iinc (v := z7) (lv' := [(2, .int z7), (1, .int z6), (0, .ref (V.2.2 7))]) hx hb d_Reg_freePages_28 hl (k := 2) rfl (by rw [ez7]; rfl) (by decide) rfl (fun ls hl => ?_)
      refine lv_goto (tgt := 4) hx hb d_Reg_freePages_31 (by decide) ?_
      exact hK4 _ _ _ _ _ _ h hI (lv_sub hl [2, 1, 0] rfl)
theorem w_Reg_freePages_L4 {p : Program} {l : Launch} {e : Env} {s : State} {m : MethodId} {args : Array Value} {below : List Frame} {meth : Method} {c : Code} {V : xV} (C : xC p s m args c cd_Reg_freePages 3 R_Reg V) (hlocks : meth.locks = false) (hr : meth.sig.returnType = (some .int)) {Q : Int32 → xS → Prop} : ∀ (n : Nat) (x1 : Int32) (x2 : Int32) (σ : xS) (H : Heap) (locs : List Loc) (ls : Array Slot), p_Reg_freePages_L4 Q n x1 x2 σ → xI V s.heap σ H locs → lv_has ls 3 [(0, .ref (V.2.2 7)), (1, .int x1), (2, .int x2)] → W p l e rm_Reg_freePages s m args below meth c H locs 0 0 (xZi below V args s Q) (F0 m 4 ls []) := by
  intro n
  induction n with
  | zero =>
    intro x1 x2 σ H locs ls h
    exact False.elim h
  | succ n ih =>
    intro x1 x2 σ H locs ls h hI hl
    exact s_Reg_freePages_L4 C hlocks hr (K4 := p_Reg_freePages_L4 Q n) (fun x1 x2 σ H locs ls h hI hl => ih x1 x2 σ H locs ls h hI hl) h hI hl
set_option maxRecDepth 100000 in
set_option maxHeartbeats 4000000 in
theorem c_Reg_freePages {l : Launch} {V : xV} {σ : xS} {Q : Int32 → xS → Prop} (h : p_Reg_freePages σ Q) : xMi l y_Reg_freePages (.code y_Reg_freePages cd_Reg_freePages 3 (some .int) :: xG) rm_Reg_freePages V [.ref (V.2.2 7)] σ Q := by
  refine x_begini (by decide) (Nat.le_of_ble_eq_true rfl) (fun p e s m below meth c ls C hlocks hr hI hl => ?_)
  have C : xC p s m _ c cd_Reg_freePages 3 R_Reg V := C
  have hx := C.1
  have hb := C.2.1
  have hl : lv_has ls 3 [(0, .ref (V.2.2 7))] := hl
  unfold p_Reg_freePages at h
  refine lv_iconst (v := 0) hx hb d_Reg_freePages_0 (by decide) ?_
  refine lv_istore_n (lv' := [(1, .int 0), (0, .ref (V.2.2 7))]) hx hb d_Reg_freePages_1 rfl hl (by decide) rfl (fun ls hl => ?_)
  refine lv_iconst (v := 0) hx hb d_Reg_freePages_2 (by decide) ?_
  refine lv_istore_n (lv' := [(2, .int 0), (1, .int 0), (0, .ref (V.2.2 7))]) hx hb d_Reg_freePages_3 rfl hl (by decide) rfl (fun ls hl => ?_)
  obtain ⟨n, h⟩ := h
  exact w_Reg_freePages_L4 C hlocks hr n _ _ _ _ _ _ h hI (lv_sub hl [2, 1, 0] rfl)
def y_Reg_takePlaces : MethodName := ⟨"RegionPool$Regions", "takePlaces", "(II)I"⟩
abbrev cd_Reg_takePlaces : ByteArray := prog_9_method_10_code
def y_Reg_nextPlaces : MethodName := ⟨"RegionPool$Regions", "nextPlaces", "(II)I"⟩
abbrev cd_Reg_nextPlaces : ByteArray := prog_9_method_15_code
def p_Reg_nextPlaces (x1 x2 : Int32) (σ : xS) (Q : Int32 → xS → Prop) : Prop :=
  (vp_in x1 8 ∧ (vp_in x1 8 ∧ (vp_in ((σ 22 x1.toNatClampNeg) - 1) 40 ∧ (vp_in x1 8 ∧ (∀ z5 : Int32, z5 = (((σ (32 + x1.toNatClampNeg) ((σ 22 x1.toNatClampNeg) - 1).toNatClampNeg) * 16) + (σ 23 x1.toNatClampNeg)) → (vp_in x1 8 ∧ (vp_in x1 8 ∧ Q z5 (xu σ 23 x1.toNatClampNeg ((σ 23 x1.toNatClampNeg) + x2)))))))))
abbrev rm_Reg_nextPlaces : Room := { frames := 0, cells := 0, slots := 0, locals := 0 }
theorem d_Reg_nextPlaces_0 : decode cd_Reg_nextPlaces 0 = .ok (.aload_n 0, 1) := by decide +kernel
theorem d_Reg_nextPlaces_1 : decode cd_Reg_nextPlaces 1 = .ok (.getfield 17, 3) := by decide +kernel
theorem d_Reg_nextPlaces_4 : decode cd_Reg_nextPlaces 4 = .ok (.iload_n 1, 1) := by decide +kernel
theorem d_Reg_nextPlaces_5 : decode cd_Reg_nextPlaces 5 = .ok (.aaload, 1) := by decide +kernel
theorem d_Reg_nextPlaces_6 : decode cd_Reg_nextPlaces 6 = .ok (.aload_n 0, 1) := by decide +kernel
theorem d_Reg_nextPlaces_7 : decode cd_Reg_nextPlaces 7 = .ok (.getfield 20, 3) := by decide +kernel
theorem d_Reg_nextPlaces_10 : decode cd_Reg_nextPlaces 10 = .ok (.iload_n 1, 1) := by decide +kernel
theorem d_Reg_nextPlaces_11 : decode cd_Reg_nextPlaces 11 = .ok (.iaload, 1) := by decide +kernel
theorem d_Reg_nextPlaces_12 : decode cd_Reg_nextPlaces 12 = .ok (.iconst 1, 1) := by decide +kernel
theorem d_Reg_nextPlaces_13 : decode cd_Reg_nextPlaces 13 = .ok (.isub, 1) := by decide +kernel
theorem d_Reg_nextPlaces_14 : decode cd_Reg_nextPlaces 14 = .ok (.iaload, 1) := by decide +kernel
theorem d_Reg_nextPlaces_15 : decode cd_Reg_nextPlaces 15 = .ok (.bipush 16, 2) := by decide +kernel
theorem d_Reg_nextPlaces_17 : decode cd_Reg_nextPlaces 17 = .ok (.imul, 1) := by decide +kernel
theorem d_Reg_nextPlaces_18 : decode cd_Reg_nextPlaces 18 = .ok (.aload_n 0, 1) := by decide +kernel
theorem d_Reg_nextPlaces_19 : decode cd_Reg_nextPlaces 19 = .ok (.getfield 23, 3) := by decide +kernel
theorem d_Reg_nextPlaces_22 : decode cd_Reg_nextPlaces 22 = .ok (.iload_n 1, 1) := by decide +kernel
theorem d_Reg_nextPlaces_23 : decode cd_Reg_nextPlaces 23 = .ok (.iaload, 1) := by decide +kernel
theorem d_Reg_nextPlaces_24 : decode cd_Reg_nextPlaces 24 = .ok (.iadd, 1) := by decide +kernel
theorem d_Reg_nextPlaces_25 : decode cd_Reg_nextPlaces 25 = .ok (.istore_n 3, 1) := by decide +kernel
theorem d_Reg_nextPlaces_26 : decode cd_Reg_nextPlaces 26 = .ok (.aload_n 0, 1) := by decide +kernel
theorem d_Reg_nextPlaces_27 : decode cd_Reg_nextPlaces 27 = .ok (.getfield 23, 3) := by decide +kernel
theorem d_Reg_nextPlaces_30 : decode cd_Reg_nextPlaces 30 = .ok (.iload_n 1, 1) := by decide +kernel
theorem d_Reg_nextPlaces_31 : decode cd_Reg_nextPlaces 31 = .ok (.dup2, 1) := by decide +kernel
theorem d_Reg_nextPlaces_32 : decode cd_Reg_nextPlaces 32 = .ok (.iaload, 1) := by decide +kernel
theorem d_Reg_nextPlaces_33 : decode cd_Reg_nextPlaces 33 = .ok (.iload_n 2, 1) := by decide +kernel
theorem d_Reg_nextPlaces_34 : decode cd_Reg_nextPlaces 34 = .ok (.iadd, 1) := by decide +kernel
theorem d_Reg_nextPlaces_35 : decode cd_Reg_nextPlaces 35 = .ok (.iastore, 1) := by decide +kernel
theorem d_Reg_nextPlaces_36 : decode cd_Reg_nextPlaces 36 = .ok (.iload_n 3, 1) := by decide +kernel
theorem d_Reg_nextPlaces_37 : decode cd_Reg_nextPlaces 37 = .ok (.ireturn, 1) := by decide +kernel
set_option maxRecDepth 100000 in
set_option maxHeartbeats 4000000 in
theorem c_Reg_nextPlaces {l : Launch} {V : xV} {σ : xS} {x1 x2 : Int32} {Q : Int32 → xS → Prop} (h : p_Reg_nextPlaces x1 x2 σ Q) : xMi l y_Reg_nextPlaces (.code y_Reg_nextPlaces cd_Reg_nextPlaces 4 (some .int) :: xG) rm_Reg_nextPlaces V [.ref (V.2.2 7), .int x1, .int x2] σ Q := by
  refine x_begini (by decide) (Nat.le_of_ble_eq_true rfl) (fun p e s m below meth c ls C hlocks hr hI hl => ?_)
  have C : xC p s m _ c cd_Reg_nextPlaces 4 R_Reg V := C
  have hx := C.1
  have hb := C.2.1
  have hl : lv_has ls 4 [(0, .ref (V.2.2 7)), (1, .int x1), (2, .int x2)] := hl
  unfold p_Reg_nextPlaces at h
  refine lv_aload_n hx hb d_Reg_nextPlaces_0 rfl (lv_at hl 0 rfl) ?_
  refine x_get C hI (d := 7) (by decide) (xE7 V _) fd_Reg_17 rfl d_Reg_nextPlaces_1 ?_
  refine lv_iload_n hx hb d_Reg_nextPlaces_4 rfl (lv_at hl 1 rfl) ?_
  obtain ⟨i1, h⟩ := h
  refine x_aald C hI i1 d_Reg_nextPlaces_5 ?_
  refine lv_aload_n hx hb d_Reg_nextPlaces_6 rfl (lv_at hl 0 rfl) ?_
  refine x_get C hI (d := 7) (by decide) (xE7 V _) fd_Reg_20 rfl d_Reg_nextPlaces_7 ?_
  refine lv_iload_n hx hb d_Reg_nextPlaces_10 rfl (lv_at hl 1 rfl) ?_
  obtain ⟨i2, h⟩ := h
  refine x_iald C hI (d := 22) (by decide) (xE22 V) i2 d_Reg_nextPlaces_11 ?_
  refine lv_iconst (v := 1) hx hb d_Reg_nextPlaces_12 (by decide) ?_
  refine lv_isub hx hb d_Reg_nextPlaces_13 ?_
  obtain ⟨i3, h⟩ := h
  refine x_iald C hI (d := (32 + x1.toNatClampNeg)) (x_rowlt i1) (xErow V (x_rown i1)) i3 d_Reg_nextPlaces_14 ?_
  refine lv_bipush (v := 16) hx hb d_Reg_nextPlaces_15 (by decide) ?_
  refine lv_imul hx hb d_Reg_nextPlaces_17 ?_
  refine lv_aload_n hx hb d_Reg_nextPlaces_18 rfl (lv_at hl 0 rfl) ?_
  refine x_get C hI (d := 7) (by decide) (xE7 V _) fd_Reg_23 rfl d_Reg_nextPlaces_19 ?_
  refine lv_iload_n hx hb d_Reg_nextPlaces_22 rfl (lv_at hl 1 rfl) ?_
  obtain ⟨i4, h⟩ := h
  refine x_iald C hI (d := 23) (by decide) (xE23 V) i4 d_Reg_nextPlaces_23 ?_
  refine lv_iadd hx hb d_Reg_nextPlaces_24 ?_
  refine lv_topi (fun z5 ez5 => ?_)
  have h := h z5 ez5
  refine lv_istore_n (lv' := [(3, .int z5), (0, .ref (V.2.2 7)), (1, .int x1), (2, .int x2)]) hx hb d_Reg_nextPlaces_25 rfl hl (by decide) rfl (fun ls hl => ?_)
  refine lv_aload_n hx hb d_Reg_nextPlaces_26 rfl (lv_at hl 1 rfl) ?_
  refine x_get C hI (d := 7) (by decide) (xE7 V _) fd_Reg_23 rfl d_Reg_nextPlaces_27 ?_
  refine lv_iload_n hx hb d_Reg_nextPlaces_30 rfl (lv_at hl 2 rfl) ?_
  refine lv_dup2_11 hx hb d_Reg_nextPlaces_31 rfl rfl ?_
  obtain ⟨i6, h⟩ := h
  refine x_iald C hI (d := 23) (by decide) (xE23 V) i6 d_Reg_nextPlaces_32 ?_
  refine lv_iload_n hx hb d_Reg_nextPlaces_33 rfl (lv_at hl 3 rfl) ?_
  refine lv_iadd hx hb d_Reg_nextPlaces_34 ?_
  obtain ⟨i7, h⟩ := h
  refine x_iast C hI (d := 23) (by decide) (xE23 V) i7 d_Reg_nextPlaces_35 (fun H locs hI => ?_)
  refine lv_iload_n hx hb d_Reg_nextPlaces_36 rfl (lv_at hl 0 rfl) ?_
  exact x_iret C hlocks hr hI h d_Reg_nextPlaces_37
theorem yw_Reg_nextPlaces : xY y_Reg_nextPlaces cd_Reg_nextPlaces 4 (some .int) 2 := ⟨xG_mem 654 (by decide +kernel) (by decide +kernel), xG_mem 14 (by decide +kernel) (by decide +kernel), xG_mem 59 (by decide +kernel) (by decide +kernel), xG_mem 655 (by decide +kernel) (by decide +kernel), by decide, by decide, by decide +kernel⟩
theorem ml_Reg_48 : Cond.methodLink R_Reg 48 y_Reg_nextPlaces ∈ xG := xG_mem 652 (by decide +kernel) (by decide +kernel)
def y_Reg_addPage : MethodName := ⟨"RegionPool$Regions", "addPage", "(I)Z"⟩
abbrev cd_Reg_addPage : ByteArray := prog_9_method_17_code
def y_Reg_leastFreePage : MethodName := ⟨"RegionPool$Regions", "leastFreePage", "()I"⟩
abbrev cd_Reg_leastFreePage : ByteArray := prog_9_method_18_code
def b_Reg_leastFreePage_L2 (K2 : Int32 → xS → Prop) (Q : Int32 → xS → Prop) (x1 : Int32) (σ : xS) : Prop :=
  ((40 ≤ x1 → Q (-1) σ) ∧ (¬ 40 ≤ x1 → (vp_in x1 40 ∧ ((¬ (σ 20 x1.toNatClampNeg) = (-1) → (∀ z4 : Int32, z4 = x1 + 1 → K2 z4 σ)) ∧ ((σ 20 x1.toNatClampNeg) = (-1) → Q x1 σ)))))
def p_Reg_leastFreePage_L2 (Q : Int32 → xS → Prop) (n : Nat) : Int32 → xS → Prop := Nat.rec (motive := fun _ => Int32 → xS → Prop) (fun _ _ => False) (fun _ K x1 σ => b_Reg_leastFreePage_L2 K Q x1 σ) n
def p_Reg_leastFreePage (σ : xS) (Q : Int32 → xS → Prop) : Prop :=
  (∃ n, p_Reg_leastFreePage_L2 Q n 0 σ)
abbrev rm_Reg_leastFreePage : Room := { frames := 0, cells := 0, slots := 0, locals := 0 }
theorem d_Reg_leastFreePage_0 : decode cd_Reg_leastFreePage 0 = .ok (.iconst 0, 1) := by decide +kernel
theorem d_Reg_leastFreePage_1 : decode cd_Reg_leastFreePage 1 = .ok (.istore_n 1, 1) := by decide +kernel
theorem d_Reg_leastFreePage_2 : decode cd_Reg_leastFreePage 2 = .ok (.iload_n 1, 1) := by decide +kernel
theorem d_Reg_leastFreePage_3 : decode cd_Reg_leastFreePage 3 = .ok (.bipush 40, 2) := by decide +kernel
theorem d_Reg_leastFreePage_5 : decode cd_Reg_leastFreePage 5 = .ok (.if_icmp .ge 21, 3) := by decide +kernel
theorem d_Reg_leastFreePage_8 : decode cd_Reg_leastFreePage 8 = .ok (.aload_n 0, 1) := by decide +kernel
theorem d_Reg_leastFreePage_9 : decode cd_Reg_leastFreePage 9 = .ok (.getfield 9, 3) := by decide +kernel
theorem d_Reg_leastFreePage_12 : decode cd_Reg_leastFreePage 12 = .ok (.iload_n 1, 1) := by decide +kernel
theorem d_Reg_leastFreePage_13 : decode cd_Reg_leastFreePage 13 = .ok (.iaload, 1) := by decide +kernel
theorem d_Reg_leastFreePage_14 : decode cd_Reg_leastFreePage 14 = .ok (.iconst (-1), 1) := by decide +kernel
theorem d_Reg_leastFreePage_15 : decode cd_Reg_leastFreePage 15 = .ok (.if_icmp .ne 5, 3) := by decide +kernel
theorem d_Reg_leastFreePage_18 : decode cd_Reg_leastFreePage 18 = .ok (.iload_n 1, 1) := by decide +kernel
theorem d_Reg_leastFreePage_19 : decode cd_Reg_leastFreePage 19 = .ok (.ireturn, 1) := by decide +kernel
theorem d_Reg_leastFreePage_20 : decode cd_Reg_leastFreePage 20 = .ok (.iinc 1 1, 3) := by decide +kernel
theorem d_Reg_leastFreePage_23 : decode cd_Reg_leastFreePage 23 = .ok (.goto (-21), 3) := by decide +kernel
theorem d_Reg_leastFreePage_26 : decode cd_Reg_leastFreePage 26 = .ok (.iconst (-1), 1) := by decide +kernel
theorem d_Reg_leastFreePage_27 : decode cd_Reg_leastFreePage 27 = .ok (.ireturn, 1) := by decide +kernel
set_option maxRecDepth 100000 in
set_option maxHeartbeats 4000000 in
theorem s_Reg_leastFreePage_L2 {p : Program} {l : Launch} {e : Env} {s : State} {m : MethodId} {args : Array Value} {below : List Frame} {meth : Method} {c : Code} {V : xV} (C : xC p s m args c cd_Reg_leastFreePage 2 R_Reg V) (hlocks : meth.locks = false) (hr : meth.sig.returnType = (some .int)) {Q : Int32 → xS → Prop} {K2 : Int32 → xS → Prop} (hK2 : ∀ (x1 : Int32) (σ : xS) (H : Heap) (locs : List Loc) (ls : Array Slot), K2 x1 σ → xI V s.heap σ H locs → lv_has ls 2 [(0, .ref (V.2.2 7)), (1, .int x1)] → W p l e rm_Reg_leastFreePage s m args below meth c H locs 0 0 (xZi below V args s Q) (F0 m 2 ls [])) {x1 : Int32} {σ : xS} {H : Heap} {locs : List Loc} {ls : Array Slot} (h : b_Reg_leastFreePage_L2 K2 Q x1 σ) (hI : xI V s.heap σ H locs) (hl : lv_has ls 2 [(0, .ref (V.2.2 7)), (1, .int x1)]) : W p l e rm_Reg_leastFreePage s m args below meth c H locs 0 0 (xZi below V args s Q) (F0 m 2 ls []) := by
  have hx := C.1
  have hb := C.2.1
  unfold b_Reg_leastFreePage_L2 at h
  refine lv_iload_n hx hb d_Reg_leastFreePage_2 rfl (lv_at hl 1 rfl) ?_
  refine lv_bipush (v := 40) hx hb d_Reg_leastFreePage_3 (by decide) ?_
  refine lv_icmp_ge (tgt := 26) hx hb d_Reg_leastFreePage_5 (by decide) (fun c1 => ?_) (fun c1 => ?_)
  · have h := h.1 c1
    refine lv_iconst (v := (-1)) hx hb d_Reg_leastFreePage_26 (by decide) ?_
    exact x_iret C hlocks hr hI h d_Reg_leastFreePage_27
  · have h := h.2 c1
    refine lv_aload_n hx hb d_Reg_leastFreePage_8 rfl (lv_at hl 0 rfl) ?_
    refine x_get C hI (d := 7) (by decide) (xE7 V _) fd_Reg_9 rfl d_Reg_leastFreePage_9 ?_
    refine lv_iload_n hx hb d_Reg_leastFreePage_12 rfl (lv_at hl 1 rfl) ?_
    obtain ⟨i2, h⟩ := h
    refine x_iald C hI (d := 20) (by decide) (xE20 V) i2 d_Reg_leastFreePage_13 ?_
    refine lv_iconst (v := (-1)) hx hb d_Reg_leastFreePage_14 (by decide) ?_
    refine lv_icmp_ne (tgt := 20) hx hb d_Reg_leastFreePage_15 (by decide) (fun c3 => ?_) (fun c3 => ?_)
    · have h := h.1 c3
      obtain ⟨z4, ez4⟩ : ∃ y : Int32, y = x1 + 1 := ⟨_, rfl⟩
      have h := h z4 ez4
      refine lv_iinc (v := z4) (lv' := [(1, .int z4), (0, .ref (V.2.2 7))]) hx hb d_Reg_leastFreePage_20 hl (k := 1) rfl (by rw [ez4]; rfl) (by decide) rfl (fun ls hl => ?_)
      refine lv_goto (tgt := 2) hx hb d_Reg_leastFreePage_23 (by decide) ?_
      exact hK2 _ _ _ _ _ h hI (lv_sub hl [1, 0] rfl)
    · have h := h.2 c3
      refine lv_iload_n hx hb d_Reg_leastFreePage_18 rfl (lv_at hl 1 rfl) ?_
      exact x_iret C hlocks hr hI h d_Reg_leastFreePage_19
theorem w_Reg_leastFreePage_L2 {p : Program} {l : Launch} {e : Env} {s : State} {m : MethodId} {args : Array Value} {below : List Frame} {meth : Method} {c : Code} {V : xV} (C : xC p s m args c cd_Reg_leastFreePage 2 R_Reg V) (hlocks : meth.locks = false) (hr : meth.sig.returnType = (some .int)) {Q : Int32 → xS → Prop} : ∀ (n : Nat) (x1 : Int32) (σ : xS) (H : Heap) (locs : List Loc) (ls : Array Slot), p_Reg_leastFreePage_L2 Q n x1 σ → xI V s.heap σ H locs → lv_has ls 2 [(0, .ref (V.2.2 7)), (1, .int x1)] → W p l e rm_Reg_leastFreePage s m args below meth c H locs 0 0 (xZi below V args s Q) (F0 m 2 ls []) := by
  intro n
  induction n with
  | zero =>
    intro x1 σ H locs ls h
    exact False.elim h
  | succ n ih =>
    intro x1 σ H locs ls h hI hl
    exact s_Reg_leastFreePage_L2 C hlocks hr (K2 := p_Reg_leastFreePage_L2 Q n) (fun x1 σ H locs ls h hI hl => ih x1 σ H locs ls h hI hl) h hI hl
set_option maxRecDepth 100000 in
set_option maxHeartbeats 4000000 in
theorem c_Reg_leastFreePage {l : Launch} {V : xV} {σ : xS} {Q : Int32 → xS → Prop} (h : p_Reg_leastFreePage σ Q) : xMi l y_Reg_leastFreePage (.code y_Reg_leastFreePage cd_Reg_leastFreePage 2 (some .int) :: xG) rm_Reg_leastFreePage V [.ref (V.2.2 7)] σ Q := by
  refine x_begini (by decide) (Nat.le_of_ble_eq_true rfl) (fun p e s m below meth c ls C hlocks hr hI hl => ?_)
  have C : xC p s m _ c cd_Reg_leastFreePage 2 R_Reg V := C
  have hx := C.1
  have hb := C.2.1
  have hl : lv_has ls 2 [(0, .ref (V.2.2 7))] := hl
  unfold p_Reg_leastFreePage at h
  refine lv_iconst (v := 0) hx hb d_Reg_leastFreePage_0 (by decide) ?_
  refine lv_istore_n (lv' := [(1, .int 0), (0, .ref (V.2.2 7))]) hx hb d_Reg_leastFreePage_1 rfl hl (by decide) rfl (fun ls hl => ?_)
  obtain ⟨n, h⟩ := h
  exact w_Reg_leastFreePage_L2 C hlocks hr n _ _ _ _ _ h hI (lv_sub hl [1, 0] rfl)
theorem yw_Reg_leastFreePage : xY y_Reg_leastFreePage cd_Reg_leastFreePage 2 (some .int) 0 := ⟨xG_mem 760 (by decide +kernel) (by decide +kernel), xG_mem 19 (by decide +kernel) (by decide +kernel), xG_mem 59 (by decide +kernel) (by decide +kernel), xG_mem 761 (by decide +kernel) (by decide +kernel), by decide, by decide, by decide +kernel⟩
theorem ml_Reg_52 : Cond.methodLink R_Reg 52 y_Reg_leastFreePage ∈ xG := xG_mem 758 (by decide +kernel) (by decide +kernel)
def p_Reg_addPage (x1 : Int32) (σ : xS) (Q : Int32 → xS → Prop) : Prop :=
  p_Reg_leastFreePage σ (fun r2 σ1 => ((¬ r2 = (-1) → (vp_in r2 40 ∧ (vp_in x1 8 ∧ (vp_in x1 8 ∧ (vp_in ((xu σ1 20 r2.toNatClampNeg x1) 22 x1.toNatClampNeg) 40 ∧ (vp_in x1 8 ∧ (vp_in x1 8 ∧ (vp_in x1 8 ∧ Q 1 (xu (xu (xu (xu σ1 20 r2.toNatClampNeg x1) (32 + x1.toNatClampNeg) ((xu σ1 20 r2.toNatClampNeg x1) 22 x1.toNatClampNeg).toNatClampNeg r2) 22 x1.toNatClampNeg (((xu (xu σ1 20 r2.toNatClampNeg x1) (32 + x1.toNatClampNeg) ((xu σ1 20 r2.toNatClampNeg x1) 22 x1.toNatClampNeg).toNatClampNeg r2) 22 x1.toNatClampNeg) + 1)) 23 x1.toNatClampNeg 0))))))))) ∧ (r2 = (-1) → Q 0 σ1)))
abbrev rm_Reg_addPage : Room := { frames := 1, cells := 0, slots := 0, locals := 21 }
theorem d_Reg_addPage_0 : decode cd_Reg_addPage 0 = .ok (.aload_n 0, 1) := by decide +kernel
theorem d_Reg_addPage_1 : decode cd_Reg_addPage 1 = .ok (.invokevirtual 52, 3) := by decide +kernel
theorem d_Reg_addPage_4 : decode cd_Reg_addPage 4 = .ok (.istore_n 2, 1) := by decide +kernel
theorem d_Reg_addPage_5 : decode cd_Reg_addPage 5 = .ok (.iload_n 2, 1) := by decide +kernel
theorem d_Reg_addPage_6 : decode cd_Reg_addPage 6 = .ok (.iconst (-1), 1) := by decide +kernel
theorem d_Reg_addPage_7 : decode cd_Reg_addPage 7 = .ok (.if_icmp .ne 5, 3) := by decide +kernel
theorem d_Reg_addPage_10 : decode cd_Reg_addPage 10 = .ok (.iconst 0, 1) := by decide +kernel
theorem d_Reg_addPage_11 : decode cd_Reg_addPage 11 = .ok (.ireturn, 1) := by decide +kernel
theorem d_Reg_addPage_12 : decode cd_Reg_addPage 12 = .ok (.aload_n 0, 1) := by decide +kernel
theorem d_Reg_addPage_13 : decode cd_Reg_addPage 13 = .ok (.getfield 9, 3) := by decide +kernel
theorem d_Reg_addPage_16 : decode cd_Reg_addPage 16 = .ok (.iload_n 2, 1) := by decide +kernel
theorem d_Reg_addPage_17 : decode cd_Reg_addPage 17 = .ok (.iload_n 1, 1) := by decide +kernel
theorem d_Reg_addPage_18 : decode cd_Reg_addPage 18 = .ok (.iastore, 1) := by decide +kernel
theorem d_Reg_addPage_19 : decode cd_Reg_addPage 19 = .ok (.aload_n 0, 1) := by decide +kernel
theorem d_Reg_addPage_20 : decode cd_Reg_addPage 20 = .ok (.getfield 17, 3) := by decide +kernel
theorem d_Reg_addPage_23 : decode cd_Reg_addPage 23 = .ok (.iload_n 1, 1) := by decide +kernel
theorem d_Reg_addPage_24 : decode cd_Reg_addPage 24 = .ok (.aaload, 1) := by decide +kernel
theorem d_Reg_addPage_25 : decode cd_Reg_addPage 25 = .ok (.aload_n 0, 1) := by decide +kernel
theorem d_Reg_addPage_26 : decode cd_Reg_addPage 26 = .ok (.getfield 20, 3) := by decide +kernel
theorem d_Reg_addPage_29 : decode cd_Reg_addPage 29 = .ok (.iload_n 1, 1) := by decide +kernel
theorem d_Reg_addPage_30 : decode cd_Reg_addPage 30 = .ok (.iaload, 1) := by decide +kernel
theorem d_Reg_addPage_31 : decode cd_Reg_addPage 31 = .ok (.iload_n 2, 1) := by decide +kernel
theorem d_Reg_addPage_32 : decode cd_Reg_addPage 32 = .ok (.iastore, 1) := by decide +kernel
theorem d_Reg_addPage_33 : decode cd_Reg_addPage 33 = .ok (.aload_n 0, 1) := by decide +kernel
theorem d_Reg_addPage_34 : decode cd_Reg_addPage 34 = .ok (.getfield 20, 3) := by decide +kernel
theorem d_Reg_addPage_37 : decode cd_Reg_addPage 37 = .ok (.iload_n 1, 1) := by decide +kernel
theorem d_Reg_addPage_38 : decode cd_Reg_addPage 38 = .ok (.dup2, 1) := by decide +kernel
theorem d_Reg_addPage_39 : decode cd_Reg_addPage 39 = .ok (.iaload, 1) := by decide +kernel
theorem d_Reg_addPage_40 : decode cd_Reg_addPage 40 = .ok (.iconst 1, 1) := by decide +kernel
theorem d_Reg_addPage_41 : decode cd_Reg_addPage 41 = .ok (.iadd, 1) := by decide +kernel
theorem d_Reg_addPage_42 : decode cd_Reg_addPage 42 = .ok (.iastore, 1) := by decide +kernel
theorem d_Reg_addPage_43 : decode cd_Reg_addPage 43 = .ok (.aload_n 0, 1) := by decide +kernel
theorem d_Reg_addPage_44 : decode cd_Reg_addPage 44 = .ok (.getfield 23, 3) := by decide +kernel
theorem d_Reg_addPage_47 : decode cd_Reg_addPage 47 = .ok (.iload_n 1, 1) := by decide +kernel
theorem d_Reg_addPage_48 : decode cd_Reg_addPage 48 = .ok (.iconst 0, 1) := by decide +kernel
theorem d_Reg_addPage_49 : decode cd_Reg_addPage 49 = .ok (.iastore, 1) := by decide +kernel
theorem d_Reg_addPage_50 : decode cd_Reg_addPage 50 = .ok (.iconst 1, 1) := by decide +kernel
theorem d_Reg_addPage_51 : decode cd_Reg_addPage 51 = .ok (.ireturn, 1) := by decide +kernel
set_option maxRecDepth 100000 in
set_option maxHeartbeats 4000000 in
theorem c_Reg_addPage {l : Launch} {V : xV} {σ : xS} {x1 : Int32} {Q : Int32 → xS → Prop} (h : p_Reg_addPage x1 σ Q) : xMi l y_Reg_addPage (.code y_Reg_addPage cd_Reg_addPage 3 (some .boolean) :: xG) rm_Reg_addPage V [.ref (V.2.2 7), .int x1] σ Q := by
  refine x_begini (by decide) (Nat.le_of_ble_eq_true rfl) (fun p e s m below meth c ls C hlocks hr hI hl => ?_)
  have C : xC p s m _ c cd_Reg_addPage 3 R_Reg V := C
  have hx := C.1
  have hb := C.2.1
  have hl : lv_has ls 3 [(0, .ref (V.2.2 7)), (1, .int x1)] := hl
  unfold p_Reg_addPage at h
  refine lv_aload_n hx hb d_Reg_addPage_0 rfl (lv_at hl 0 rfl) ?_
  refine x_calli C hI hl.1 (d := 7) (As := []) (rest := []) (by decide) (c_Reg_leastFreePage h) (xE7 V _) rfl yw_Reg_leastFreePage ml_Reg_52 rfl rfl ⟨Nat.le_of_ble_eq_true rfl, Nat.le_of_ble_eq_true rfl⟩ rfl rfl (Nat.le_of_ble_eq_true rfl) d_Reg_addPage_1 ⟨Nat.zero_le _, Nat.zero_le _⟩ (fun r2 σ1 H locs h hI => ?_)
  refine lv_istore_n (lv' := [(2, .int r2), (0, .ref (V.2.2 7)), (1, .int x1)]) hx hb d_Reg_addPage_4 rfl hl (by decide) rfl (fun ls hl => ?_)
  refine lv_iload_n hx hb d_Reg_addPage_5 rfl (lv_at hl 0 rfl) ?_
  refine lv_iconst (v := (-1)) hx hb d_Reg_addPage_6 (by decide) ?_
  refine lv_icmp_ne (tgt := 12) hx hb d_Reg_addPage_7 (by decide) (fun c3 => ?_) (fun c3 => ?_)
  · have h := h.1 c3
    refine lv_aload_n hx hb d_Reg_addPage_12 rfl (lv_at hl 1 rfl) ?_
    refine x_get C hI (d := 7) (by decide) (xE7 V _) fd_Reg_9 rfl d_Reg_addPage_13 ?_
    refine lv_iload_n hx hb d_Reg_addPage_16 rfl (lv_at hl 0 rfl) ?_
    refine lv_iload_n hx hb d_Reg_addPage_17 rfl (lv_at hl 2 rfl) ?_
    obtain ⟨i4, h⟩ := h
    refine x_iast C hI (d := 20) (by decide) (xE20 V) i4 d_Reg_addPage_18 (fun H locs hI => ?_)
    refine lv_aload_n hx hb d_Reg_addPage_19 rfl (lv_at hl 1 rfl) ?_
    refine x_get C hI (d := 7) (by decide) (xE7 V _) fd_Reg_17 rfl d_Reg_addPage_20 ?_
    refine lv_iload_n hx hb d_Reg_addPage_23 rfl (lv_at hl 2 rfl) ?_
    obtain ⟨i5, h⟩ := h
    refine x_aald C hI i5 d_Reg_addPage_24 ?_
    refine lv_aload_n hx hb d_Reg_addPage_25 rfl (lv_at hl 1 rfl) ?_
    refine x_get C hI (d := 7) (by decide) (xE7 V _) fd_Reg_20 rfl d_Reg_addPage_26 ?_
    refine lv_iload_n hx hb d_Reg_addPage_29 rfl (lv_at hl 2 rfl) ?_
    obtain ⟨i6, h⟩ := h
    refine x_iald C hI (d := 22) (by decide) (xE22 V) i6 d_Reg_addPage_30 ?_
    refine lv_iload_n hx hb d_Reg_addPage_31 rfl (lv_at hl 0 rfl) ?_
    obtain ⟨i7, h⟩ := h
    refine x_iast C hI (d := (32 + x1.toNatClampNeg)) (x_rowlt i5) (xErow V (x_rown i5)) i7 d_Reg_addPage_32 (fun H locs hI => ?_)
    refine lv_aload_n hx hb d_Reg_addPage_33 rfl (lv_at hl 1 rfl) ?_
    refine x_get C hI (d := 7) (by decide) (xE7 V _) fd_Reg_20 rfl d_Reg_addPage_34 ?_
    refine lv_iload_n hx hb d_Reg_addPage_37 rfl (lv_at hl 2 rfl) ?_
    refine lv_dup2_11 hx hb d_Reg_addPage_38 rfl rfl ?_
    obtain ⟨i8, h⟩ := h
    refine x_iald C hI (d := 22) (by decide) (xE22 V) i8 d_Reg_addPage_39 ?_
    refine lv_iconst (v := 1) hx hb d_Reg_addPage_40 (by decide) ?_
    refine lv_iadd hx hb d_Reg_addPage_41 ?_
    obtain ⟨i9, h⟩ := h
    refine x_iast C hI (d := 22) (by decide) (xE22 V) i9 d_Reg_addPage_42 (fun H locs hI => ?_)
    refine lv_aload_n hx hb d_Reg_addPage_43 rfl (lv_at hl 1 rfl) ?_
    refine x_get C hI (d := 7) (by decide) (xE7 V _) fd_Reg_23 rfl d_Reg_addPage_44 ?_
    refine lv_iload_n hx hb d_Reg_addPage_47 rfl (lv_at hl 2 rfl) ?_
    refine lv_iconst (v := 0) hx hb d_Reg_addPage_48 (by decide) ?_
    obtain ⟨i10, h⟩ := h
    refine x_iast C hI (d := 23) (by decide) (xE23 V) i10 d_Reg_addPage_49 (fun H locs hI => ?_)
    refine lv_iconst (v := 1) hx hb d_Reg_addPage_50 (by decide) ?_
    exact x_zret C hlocks hr hI ⟨rfl, h⟩ d_Reg_addPage_51
  · have h := h.2 c3
    refine lv_iconst (v := 0) hx hb d_Reg_addPage_10 (by decide) ?_
    exact x_zret C hlocks hr hI ⟨rfl, h⟩ d_Reg_addPage_11
theorem yw_Reg_addPage : xY y_Reg_addPage cd_Reg_addPage 3 (some .boolean) 1 := ⟨xG_mem 756 (by decide +kernel) (by decide +kernel), xG_mem 18 (by decide +kernel) (by decide +kernel), xG_mem 59 (by decide +kernel) (by decide +kernel), xG_mem 757 (by decide +kernel) (by decide +kernel), by decide, by decide, by decide +kernel⟩
theorem ml_Reg_44 : Cond.methodLink R_Reg 44 y_Reg_addPage ∈ xG := xG_mem 754 (by decide +kernel) (by decide +kernel)
def p_Reg_takePlaces_J23 (Q : Int32 → xS → Prop) (x1 x2 : Int32) (σ : xS) : Prop :=
  p_Reg_nextPlaces x1 x2 σ (fun r4 σ3 => Q r4 σ3)
def p_Reg_takePlaces (x1 x2 : Int32) (σ : xS) (Q : Int32 → xS → Prop) : Prop :=
  (vp_in x1 8 ∧ ((((σ 23 x1.toNatClampNeg) + x2) ≤ 16 → p_Reg_takePlaces_J23 Q x1 x2 σ) ∧ (¬ ((σ 23 x1.toNatClampNeg) + x2) ≤ 16 → p_Reg_addPage x1 σ (fun r6 σ5 => ((¬ r6 = 0 → p_Reg_takePlaces_J23 Q x1 x2 σ5) ∧ (r6 = 0 → Q (-1) σ5))))))
abbrev rm_Reg_takePlaces : Room := { frames := 2, cells := 0, slots := 0, locals := 43 }
theorem d_Reg_takePlaces_0 : decode cd_Reg_takePlaces 0 = .ok (.aload_n 0, 1) := by decide +kernel
theorem d_Reg_takePlaces_1 : decode cd_Reg_takePlaces 1 = .ok (.getfield 23, 3) := by decide +kernel
theorem d_Reg_takePlaces_4 : decode cd_Reg_takePlaces 4 = .ok (.iload_n 1, 1) := by decide +kernel
theorem d_Reg_takePlaces_5 : decode cd_Reg_takePlaces 5 = .ok (.iaload, 1) := by decide +kernel
theorem d_Reg_takePlaces_6 : decode cd_Reg_takePlaces 6 = .ok (.iload_n 2, 1) := by decide +kernel
theorem d_Reg_takePlaces_7 : decode cd_Reg_takePlaces 7 = .ok (.iadd, 1) := by decide +kernel
theorem d_Reg_takePlaces_8 : decode cd_Reg_takePlaces 8 = .ok (.bipush 16, 2) := by decide +kernel
theorem d_Reg_takePlaces_10 : decode cd_Reg_takePlaces 10 = .ok (.if_icmp .le 13, 3) := by decide +kernel
theorem d_Reg_takePlaces_13 : decode cd_Reg_takePlaces 13 = .ok (.aload_n 0, 1) := by decide +kernel
theorem d_Reg_takePlaces_14 : decode cd_Reg_takePlaces 14 = .ok (.iload_n 1, 1) := by decide +kernel
theorem d_Reg_takePlaces_15 : decode cd_Reg_takePlaces 15 = .ok (.invokevirtual 44, 3) := by decide +kernel
theorem d_Reg_takePlaces_18 : decode cd_Reg_takePlaces 18 = .ok (.ifCond .ne 5, 3) := by decide +kernel
theorem d_Reg_takePlaces_21 : decode cd_Reg_takePlaces 21 = .ok (.iconst (-1), 1) := by decide +kernel
theorem d_Reg_takePlaces_22 : decode cd_Reg_takePlaces 22 = .ok (.ireturn, 1) := by decide +kernel
theorem d_Reg_takePlaces_23 : decode cd_Reg_takePlaces 23 = .ok (.aload_n 0, 1) := by decide +kernel
theorem d_Reg_takePlaces_24 : decode cd_Reg_takePlaces 24 = .ok (.iload_n 1, 1) := by decide +kernel
theorem d_Reg_takePlaces_25 : decode cd_Reg_takePlaces 25 = .ok (.iload_n 2, 1) := by decide +kernel
theorem d_Reg_takePlaces_26 : decode cd_Reg_takePlaces 26 = .ok (.invokevirtual 48, 3) := by decide +kernel
theorem d_Reg_takePlaces_29 : decode cd_Reg_takePlaces 29 = .ok (.ireturn, 1) := by decide +kernel
set_option maxRecDepth 100000 in
set_option maxHeartbeats 4000000 in
theorem t_Reg_takePlaces_J23 {p : Program} {l : Launch} {e : Env} {s : State} {m : MethodId} {args : Array Value} {below : List Frame} {meth : Method} {c : Code} {V : xV} (C : xC p s m args c cd_Reg_takePlaces 3 R_Reg V) (hlocks : meth.locks = false) (hr : meth.sig.returnType = (some .int)) {Q : Int32 → xS → Prop} {x1 x2 : Int32} {σ : xS} {H : Heap} {locs : List Loc} {ls : Array Slot} (h : p_Reg_takePlaces_J23 Q x1 x2 σ) (hI : xI V s.heap σ H locs) (hl : lv_has ls 3 [(0, .ref (V.2.2 7)), (1, .int x1), (2, .int x2)]) : W p l e rm_Reg_takePlaces s m args below meth c H locs 0 0 (xZi below V args s Q) (F0 m 23 ls []) := by
  have hx := C.1
  have hb := C.2.1
  unfold p_Reg_takePlaces_J23 at h
  refine lv_aload_n hx hb d_Reg_takePlaces_23 rfl (lv_at hl 0 rfl) ?_
  refine lv_iload_n hx hb d_Reg_takePlaces_24 rfl (lv_at hl 1 rfl) ?_
  refine lv_iload_n hx hb d_Reg_takePlaces_25 rfl (lv_at hl 2 rfl) ?_
  refine x_calli C hI hl.1 (d := 7) (As := [.int x1, .int x2]) (rest := []) (by decide) (c_Reg_nextPlaces h) (xE7 V _) rfl yw_Reg_nextPlaces ml_Reg_48 rfl rfl ⟨Nat.le_of_ble_eq_true rfl, Nat.le_of_ble_eq_true rfl⟩ rfl rfl (Nat.le_of_ble_eq_true rfl) d_Reg_takePlaces_26 ⟨Nat.zero_le _, Nat.zero_le _⟩ (fun r4 σ3 H locs h hI => ?_)
  exact x_iret C hlocks hr hI h d_Reg_takePlaces_29
set_option maxRecDepth 100000 in
set_option maxHeartbeats 4000000 in
theorem c_Reg_takePlaces {l : Launch} {V : xV} {σ : xS} {x1 x2 : Int32} {Q : Int32 → xS → Prop} (h : p_Reg_takePlaces x1 x2 σ Q) : xMi l y_Reg_takePlaces (.code y_Reg_takePlaces cd_Reg_takePlaces 3 (some .int) :: xG) rm_Reg_takePlaces V [.ref (V.2.2 7), .int x1, .int x2] σ Q := by
  refine x_begini (by decide) (Nat.le_of_ble_eq_true rfl) (fun p e s m below meth c ls C hlocks hr hI hl => ?_)
  have C : xC p s m _ c cd_Reg_takePlaces 3 R_Reg V := C
  have hx := C.1
  have hb := C.2.1
  have hl : lv_has ls 3 [(0, .ref (V.2.2 7)), (1, .int x1), (2, .int x2)] := hl
  unfold p_Reg_takePlaces at h
  refine lv_aload_n hx hb d_Reg_takePlaces_0 rfl (lv_at hl 0 rfl) ?_
  refine x_get C hI (d := 7) (by decide) (xE7 V _) fd_Reg_23 rfl d_Reg_takePlaces_1 ?_
  refine lv_iload_n hx hb d_Reg_takePlaces_4 rfl (lv_at hl 1 rfl) ?_
  obtain ⟨i1, h⟩ := h
  refine x_iald C hI (d := 23) (by decide) (xE23 V) i1 d_Reg_takePlaces_5 ?_
  refine lv_iload_n hx hb d_Reg_takePlaces_6 rfl (lv_at hl 2 rfl) ?_
  refine lv_iadd hx hb d_Reg_takePlaces_7 ?_
  refine lv_bipush (v := 16) hx hb d_Reg_takePlaces_8 (by decide) ?_
  refine lv_icmp_le (tgt := 23) hx hb d_Reg_takePlaces_10 (by decide) (fun c2 => ?_) (fun c2 => ?_)
  · have h := h.1 c2
    exact t_Reg_takePlaces_J23 C hlocks hr h hI (lv_sub hl [0, 1, 2] rfl)
  · have h := h.2 c2
    refine lv_aload_n hx hb d_Reg_takePlaces_13 rfl (lv_at hl 0 rfl) ?_
    refine lv_iload_n hx hb d_Reg_takePlaces_14 rfl (lv_at hl 1 rfl) ?_
    refine x_calli C hI hl.1 (d := 7) (As := [.int x1]) (rest := []) (by decide) (c_Reg_addPage h) (xE7 V _) rfl yw_Reg_addPage ml_Reg_44 rfl rfl ⟨Nat.le_of_ble_eq_true rfl, Nat.le_of_ble_eq_true rfl⟩ rfl rfl (Nat.le_of_ble_eq_true rfl) d_Reg_takePlaces_15 ⟨Nat.zero_le _, Nat.zero_le _⟩ (fun r6 σ5 H locs h hI => ?_)
    refine lv_if_ne (tgt := 23) hx hb d_Reg_takePlaces_18 (by decide) (fun c7 => ?_) (fun c7 => ?_)
    · have h := h.1 c7
      exact t_Reg_takePlaces_J23 C hlocks hr h hI (lv_sub hl [0, 1, 2] rfl)
    · have h := h.2 c7
      refine lv_iconst (v := (-1)) hx hb d_Reg_takePlaces_21 (by decide) ?_
      exact x_iret C hlocks hr hI h d_Reg_takePlaces_22
def y_Reg_fillOf : MethodName := ⟨"RegionPool$Regions", "fillOf", "(I)I"⟩
abbrev cd_Reg_fillOf : ByteArray := prog_9_method_11_code
def p_Reg_fillOf (x1 : Int32) (σ : xS) (Q : Int32 → xS → Prop) : Prop :=
  (vp_in x1 8 ∧ Q (σ 23 x1.toNatClampNeg) σ)
abbrev rm_Reg_fillOf : Room := { frames := 0, cells := 0, slots := 0, locals := 0 }
theorem d_Reg_fillOf_0 : decode cd_Reg_fillOf 0 = .ok (.aload_n 0, 1) := by decide +kernel
theorem d_Reg_fillOf_1 : decode cd_Reg_fillOf 1 = .ok (.getfield 23, 3) := by decide +kernel
theorem d_Reg_fillOf_4 : decode cd_Reg_fillOf 4 = .ok (.iload_n 1, 1) := by decide +kernel
theorem d_Reg_fillOf_5 : decode cd_Reg_fillOf 5 = .ok (.iaload, 1) := by decide +kernel
theorem d_Reg_fillOf_6 : decode cd_Reg_fillOf 6 = .ok (.ireturn, 1) := by decide +kernel
set_option maxRecDepth 100000 in
set_option maxHeartbeats 4000000 in
theorem c_Reg_fillOf {l : Launch} {V : xV} {σ : xS} {x1 : Int32} {Q : Int32 → xS → Prop} (h : p_Reg_fillOf x1 σ Q) : xMi l y_Reg_fillOf (.code y_Reg_fillOf cd_Reg_fillOf 2 (some .int) :: xG) rm_Reg_fillOf V [.ref (V.2.2 7), .int x1] σ Q := by
  refine x_begini (by decide) (Nat.le_of_ble_eq_true rfl) (fun p e s m below meth c ls C hlocks hr hI hl => ?_)
  have C : xC p s m _ c cd_Reg_fillOf 2 R_Reg V := C
  have hx := C.1
  have hb := C.2.1
  have hl : lv_has ls 2 [(0, .ref (V.2.2 7)), (1, .int x1)] := hl
  unfold p_Reg_fillOf at h
  refine lv_aload_n hx hb d_Reg_fillOf_0 rfl (lv_at hl 0 rfl) ?_
  refine x_get C hI (d := 7) (by decide) (xE7 V _) fd_Reg_23 rfl d_Reg_fillOf_1 ?_
  refine lv_iload_n hx hb d_Reg_fillOf_4 rfl (lv_at hl 1 rfl) ?_
  obtain ⟨i1, h⟩ := h
  refine x_iald C hI (d := 23) (by decide) (xE23 V) i1 d_Reg_fillOf_5 ?_
  exact x_iret C hlocks hr hI h d_Reg_fillOf_6
def y_Reg_startSlide : MethodName := ⟨"RegionPool$Regions", "startSlide", "(I)I"⟩
abbrev cd_Reg_startSlide : ByteArray := prog_9_method_12_code
def p_Reg_startSlide (x1 : Int32) (σ : xS) (Q : Int32 → xS → Prop) : Prop :=
  (vp_in x1 8 ∧ (∀ z2 : Int32, z2 = (σ 22 x1.toNatClampNeg) → p_Reg_emptyRow x1 σ (fun σ3 => Q z2 σ3)))
abbrev rm_Reg_startSlide : Room := { frames := 1, cells := 0, slots := 0, locals := 21 }
theorem d_Reg_startSlide_0 : decode cd_Reg_startSlide 0 = .ok (.aload_n 0, 1) := by decide +kernel
theorem d_Reg_startSlide_1 : decode cd_Reg_startSlide 1 = .ok (.getfield 20, 3) := by decide +kernel
theorem d_Reg_startSlide_4 : decode cd_Reg_startSlide 4 = .ok (.iload_n 1, 1) := by decide +kernel
theorem d_Reg_startSlide_5 : decode cd_Reg_startSlide 5 = .ok (.iaload, 1) := by decide +kernel
theorem d_Reg_startSlide_6 : decode cd_Reg_startSlide 6 = .ok (.istore_n 2, 1) := by decide +kernel
theorem d_Reg_startSlide_7 : decode cd_Reg_startSlide 7 = .ok (.aload_n 0, 1) := by decide +kernel
theorem d_Reg_startSlide_8 : decode cd_Reg_startSlide 8 = .ok (.iload_n 1, 1) := by decide +kernel
theorem d_Reg_startSlide_9 : decode cd_Reg_startSlide 9 = .ok (.invokevirtual 36, 3) := by decide +kernel
theorem d_Reg_startSlide_12 : decode cd_Reg_startSlide 12 = .ok (.iload_n 2, 1) := by decide +kernel
theorem d_Reg_startSlide_13 : decode cd_Reg_startSlide 13 = .ok (.ireturn, 1) := by decide +kernel
set_option maxRecDepth 100000 in
set_option maxHeartbeats 4000000 in
theorem c_Reg_startSlide {l : Launch} {V : xV} {σ : xS} {x1 : Int32} {Q : Int32 → xS → Prop} (h : p_Reg_startSlide x1 σ Q) : xMi l y_Reg_startSlide (.code y_Reg_startSlide cd_Reg_startSlide 3 (some .int) :: xG) rm_Reg_startSlide V [.ref (V.2.2 7), .int x1] σ Q := by
  refine x_begini (by decide) (Nat.le_of_ble_eq_true rfl) (fun p e s m below meth c ls C hlocks hr hI hl => ?_)
  have C : xC p s m _ c cd_Reg_startSlide 3 R_Reg V := C
  have hx := C.1
  have hb := C.2.1
  have hl : lv_has ls 3 [(0, .ref (V.2.2 7)), (1, .int x1)] := hl
  unfold p_Reg_startSlide at h
  refine lv_aload_n hx hb d_Reg_startSlide_0 rfl (lv_at hl 0 rfl) ?_
  refine x_get C hI (d := 7) (by decide) (xE7 V _) fd_Reg_20 rfl d_Reg_startSlide_1 ?_
  refine lv_iload_n hx hb d_Reg_startSlide_4 rfl (lv_at hl 1 rfl) ?_
  obtain ⟨i1, h⟩ := h
  refine x_iald C hI (d := 22) (by decide) (xE22 V) i1 d_Reg_startSlide_5 ?_
  refine lv_topi (fun z2 ez2 => ?_)
  have h := h z2 ez2
  refine lv_istore_n (lv' := [(2, .int z2), (0, .ref (V.2.2 7)), (1, .int x1)]) hx hb d_Reg_startSlide_6 rfl hl (by decide) rfl (fun ls hl => ?_)
  refine lv_aload_n hx hb d_Reg_startSlide_7 rfl (lv_at hl 1 rfl) ?_
  refine lv_iload_n hx hb d_Reg_startSlide_8 rfl (lv_at hl 2 rfl) ?_
  refine x_callv C hI hl.1 (d := 7) (As := [.int x1]) (rest := []) (by decide) (c_Reg_emptyRow h) (xE7 V _) rfl yw_Reg_emptyRow ml_Reg_36 rfl rfl ⟨Nat.le_of_ble_eq_true rfl, Nat.le_of_ble_eq_true rfl⟩ rfl rfl (Nat.le_of_ble_eq_true rfl) d_Reg_startSlide_9 ⟨Nat.zero_le _, Nat.zero_le _⟩ (fun σ3 H locs h hI => ?_)
  refine lv_iload_n hx hb d_Reg_startSlide_12 rfl (lv_at hl 0 rfl) ?_
  exact x_iret C hlocks hr hI h d_Reg_startSlide_13
def y_Reg_slidePlaces : MethodName := ⟨"RegionPool$Regions", "slidePlaces", "(II)I"⟩
abbrev cd_Reg_slidePlaces : ByteArray := prog_9_method_13_code
def p_Reg_slidePlaces_J30 (Q : Int32 → xS → Prop) (x1 x2 : Int32) (σ : xS) : Prop :=
  p_Reg_nextPlaces x1 x2 σ (fun r4 σ3 => Q r4 σ3)
def p_Reg_slidePlaces (x1 x2 : Int32) (σ : xS) (Q : Int32 → xS → Prop) : Prop :=
  (vp_in x1 8 ∧ ((((σ 23 x1.toNatClampNeg) + x2) ≤ 16 → p_Reg_slidePlaces_J30 Q x1 x2 σ) ∧ (¬ ((σ 23 x1.toNatClampNeg) + x2) ≤ 16 → (vp_in x1 8 ∧ (vp_in x1 8 ∧ (vp_in x1 8 ∧ p_Reg_slidePlaces_J30 Q x1 x2 (xu (xu σ 22 x1.toNatClampNeg ((σ 22 x1.toNatClampNeg) + 1)) 23 x1.toNatClampNeg 0)))))))
abbrev rm_Reg_slidePlaces : Room := { frames := 1, cells := 0, slots := 0, locals := 23 }
theorem d_Reg_slidePlaces_0 : decode cd_Reg_slidePlaces 0 = .ok (.aload_n 0, 1) := by decide +kernel
theorem d_Reg_slidePlaces_1 : decode cd_Reg_slidePlaces 1 = .ok (.getfield 23, 3) := by decide +kernel
theorem d_Reg_slidePlaces_4 : decode cd_Reg_slidePlaces 4 = .ok (.iload_n 1, 1) := by decide +kernel
theorem d_Reg_slidePlaces_5 : decode cd_Reg_slidePlaces 5 = .ok (.iaload, 1) := by decide +kernel
theorem d_Reg_slidePlaces_6 : decode cd_Reg_slidePlaces 6 = .ok (.iload_n 2, 1) := by decide +kernel
theorem d_Reg_slidePlaces_7 : decode cd_Reg_slidePlaces 7 = .ok (.iadd, 1) := by decide +kernel
theorem d_Reg_slidePlaces_8 : decode cd_Reg_slidePlaces 8 = .ok (.bipush 16, 2) := by decide +kernel
theorem d_Reg_slidePlaces_10 : decode cd_Reg_slidePlaces 10 = .ok (.if_icmp .le 20, 3) := by decide +kernel
theorem d_Reg_slidePlaces_13 : decode cd_Reg_slidePlaces 13 = .ok (.aload_n 0, 1) := by decide +kernel
theorem d_Reg_slidePlaces_14 : decode cd_Reg_slidePlaces 14 = .ok (.getfield 20, 3) := by decide +kernel
theorem d_Reg_slidePlaces_17 : decode cd_Reg_slidePlaces 17 = .ok (.iload_n 1, 1) := by decide +kernel
theorem d_Reg_slidePlaces_18 : decode cd_Reg_slidePlaces 18 = .ok (.dup2, 1) := by decide +kernel
theorem d_Reg_slidePlaces_19 : decode cd_Reg_slidePlaces 19 = .ok (.iaload, 1) := by decide +kernel
theorem d_Reg_slidePlaces_20 : decode cd_Reg_slidePlaces 20 = .ok (.iconst 1, 1) := by decide +kernel
theorem d_Reg_slidePlaces_21 : decode cd_Reg_slidePlaces 21 = .ok (.iadd, 1) := by decide +kernel
theorem d_Reg_slidePlaces_22 : decode cd_Reg_slidePlaces 22 = .ok (.iastore, 1) := by decide +kernel
theorem d_Reg_slidePlaces_23 : decode cd_Reg_slidePlaces 23 = .ok (.aload_n 0, 1) := by decide +kernel
theorem d_Reg_slidePlaces_24 : decode cd_Reg_slidePlaces 24 = .ok (.getfield 23, 3) := by decide +kernel
theorem d_Reg_slidePlaces_27 : decode cd_Reg_slidePlaces 27 = .ok (.iload_n 1, 1) := by decide +kernel
theorem d_Reg_slidePlaces_28 : decode cd_Reg_slidePlaces 28 = .ok (.iconst 0, 1) := by decide +kernel
theorem d_Reg_slidePlaces_29 : decode cd_Reg_slidePlaces 29 = .ok (.iastore, 1) := by decide +kernel
theorem d_Reg_slidePlaces_30 : decode cd_Reg_slidePlaces 30 = .ok (.aload_n 0, 1) := by decide +kernel
theorem d_Reg_slidePlaces_31 : decode cd_Reg_slidePlaces 31 = .ok (.iload_n 1, 1) := by decide +kernel
theorem d_Reg_slidePlaces_32 : decode cd_Reg_slidePlaces 32 = .ok (.iload_n 2, 1) := by decide +kernel
theorem d_Reg_slidePlaces_33 : decode cd_Reg_slidePlaces 33 = .ok (.invokevirtual 48, 3) := by decide +kernel
theorem d_Reg_slidePlaces_36 : decode cd_Reg_slidePlaces 36 = .ok (.ireturn, 1) := by decide +kernel
set_option maxRecDepth 100000 in
set_option maxHeartbeats 4000000 in
theorem t_Reg_slidePlaces_J30 {p : Program} {l : Launch} {e : Env} {s : State} {m : MethodId} {args : Array Value} {below : List Frame} {meth : Method} {c : Code} {V : xV} (C : xC p s m args c cd_Reg_slidePlaces 3 R_Reg V) (hlocks : meth.locks = false) (hr : meth.sig.returnType = (some .int)) {Q : Int32 → xS → Prop} {x1 x2 : Int32} {σ : xS} {H : Heap} {locs : List Loc} {ls : Array Slot} (h : p_Reg_slidePlaces_J30 Q x1 x2 σ) (hI : xI V s.heap σ H locs) (hl : lv_has ls 3 [(0, .ref (V.2.2 7)), (1, .int x1), (2, .int x2)]) : W p l e rm_Reg_slidePlaces s m args below meth c H locs 0 0 (xZi below V args s Q) (F0 m 30 ls []) := by
  have hx := C.1
  have hb := C.2.1
  unfold p_Reg_slidePlaces_J30 at h
  refine lv_aload_n hx hb d_Reg_slidePlaces_30 rfl (lv_at hl 0 rfl) ?_
  refine lv_iload_n hx hb d_Reg_slidePlaces_31 rfl (lv_at hl 1 rfl) ?_
  refine lv_iload_n hx hb d_Reg_slidePlaces_32 rfl (lv_at hl 2 rfl) ?_
  refine x_calli C hI hl.1 (d := 7) (As := [.int x1, .int x2]) (rest := []) (by decide) (c_Reg_nextPlaces h) (xE7 V _) rfl yw_Reg_nextPlaces ml_Reg_48 rfl rfl ⟨Nat.le_of_ble_eq_true rfl, Nat.le_of_ble_eq_true rfl⟩ rfl rfl (Nat.le_of_ble_eq_true rfl) d_Reg_slidePlaces_33 ⟨Nat.zero_le _, Nat.zero_le _⟩ (fun r4 σ3 H locs h hI => ?_)
  exact x_iret C hlocks hr hI h d_Reg_slidePlaces_36
set_option maxRecDepth 100000 in
set_option maxHeartbeats 4000000 in
theorem c_Reg_slidePlaces {l : Launch} {V : xV} {σ : xS} {x1 x2 : Int32} {Q : Int32 → xS → Prop} (h : p_Reg_slidePlaces x1 x2 σ Q) : xMi l y_Reg_slidePlaces (.code y_Reg_slidePlaces cd_Reg_slidePlaces 3 (some .int) :: xG) rm_Reg_slidePlaces V [.ref (V.2.2 7), .int x1, .int x2] σ Q := by
  refine x_begini (by decide) (Nat.le_of_ble_eq_true rfl) (fun p e s m below meth c ls C hlocks hr hI hl => ?_)
  have C : xC p s m _ c cd_Reg_slidePlaces 3 R_Reg V := C
  have hx := C.1
  have hb := C.2.1
  have hl : lv_has ls 3 [(0, .ref (V.2.2 7)), (1, .int x1), (2, .int x2)] := hl
  unfold p_Reg_slidePlaces at h
  refine lv_aload_n hx hb d_Reg_slidePlaces_0 rfl (lv_at hl 0 rfl) ?_
  refine x_get C hI (d := 7) (by decide) (xE7 V _) fd_Reg_23 rfl d_Reg_slidePlaces_1 ?_
  refine lv_iload_n hx hb d_Reg_slidePlaces_4 rfl (lv_at hl 1 rfl) ?_
  obtain ⟨i1, h⟩ := h
  refine x_iald C hI (d := 23) (by decide) (xE23 V) i1 d_Reg_slidePlaces_5 ?_
  refine lv_iload_n hx hb d_Reg_slidePlaces_6 rfl (lv_at hl 2 rfl) ?_
  refine lv_iadd hx hb d_Reg_slidePlaces_7 ?_
  refine lv_bipush (v := 16) hx hb d_Reg_slidePlaces_8 (by decide) ?_
  refine lv_icmp_le (tgt := 30) hx hb d_Reg_slidePlaces_10 (by decide) (fun c2 => ?_) (fun c2 => ?_)
  · have h := h.1 c2
    exact t_Reg_slidePlaces_J30 C hlocks hr h hI (lv_sub hl [0, 1, 2] rfl)
  · have h := h.2 c2
    refine lv_aload_n hx hb d_Reg_slidePlaces_13 rfl (lv_at hl 0 rfl) ?_
    refine x_get C hI (d := 7) (by decide) (xE7 V _) fd_Reg_20 rfl d_Reg_slidePlaces_14 ?_
    refine lv_iload_n hx hb d_Reg_slidePlaces_17 rfl (lv_at hl 1 rfl) ?_
    refine lv_dup2_11 hx hb d_Reg_slidePlaces_18 rfl rfl ?_
    obtain ⟨i5, h⟩ := h
    refine x_iald C hI (d := 22) (by decide) (xE22 V) i5 d_Reg_slidePlaces_19 ?_
    refine lv_iconst (v := 1) hx hb d_Reg_slidePlaces_20 (by decide) ?_
    refine lv_iadd hx hb d_Reg_slidePlaces_21 ?_
    obtain ⟨i6, h⟩ := h
    refine x_iast C hI (d := 22) (by decide) (xE22 V) i6 d_Reg_slidePlaces_22 (fun H locs hI => ?_)
    refine lv_aload_n hx hb d_Reg_slidePlaces_23 rfl (lv_at hl 0 rfl) ?_
    refine x_get C hI (d := 7) (by decide) (xE7 V _) fd_Reg_23 rfl d_Reg_slidePlaces_24 ?_
    refine lv_iload_n hx hb d_Reg_slidePlaces_27 rfl (lv_at hl 1 rfl) ?_
    refine lv_iconst (v := 0) hx hb d_Reg_slidePlaces_28 (by decide) ?_
    obtain ⟨i7, h⟩ := h
    refine x_iast C hI (d := 23) (by decide) (xE23 V) i7 d_Reg_slidePlaces_29 (fun H locs hI => ?_)
    exact t_Reg_slidePlaces_J30 C hlocks hr h hI (lv_sub hl [0, 1, 2] rfl)
def y_Reg_endSlide : MethodName := ⟨"RegionPool$Regions", "endSlide", "(II)V"⟩
abbrev cd_Reg_endSlide : ByteArray := prog_9_method_14_code
def p_Reg_endSlide (x1 x2 : Int32) (σ : xS) (Q : xS → Prop) : Prop :=
  (vp_in x1 8 ∧ p_Reg_freePagesBehind x1 (σ 22 x1.toNatClampNeg) x2 σ (fun σ2 => Q σ2))
abbrev rm_Reg_endSlide : Room := { frames := 1, cells := 0, slots := 0, locals := 24 }
theorem d_Reg_endSlide_0 : decode cd_Reg_endSlide 0 = .ok (.aload_n 0, 1) := by decide +kernel
theorem d_Reg_endSlide_1 : decode cd_Reg_endSlide 1 = .ok (.iload_n 1, 1) := by decide +kernel
theorem d_Reg_endSlide_2 : decode cd_Reg_endSlide 2 = .ok (.aload_n 0, 1) := by decide +kernel
theorem d_Reg_endSlide_3 : decode cd_Reg_endSlide 3 = .ok (.getfield 20, 3) := by decide +kernel
theorem d_Reg_endSlide_6 : decode cd_Reg_endSlide 6 = .ok (.iload_n 1, 1) := by decide +kernel
theorem d_Reg_endSlide_7 : decode cd_Reg_endSlide 7 = .ok (.iaload, 1) := by decide +kernel
theorem d_Reg_endSlide_8 : decode cd_Reg_endSlide 8 = .ok (.iload_n 2, 1) := by decide +kernel
theorem d_Reg_endSlide_9 : decode cd_Reg_endSlide 9 = .ok (.invokevirtual 40, 3) := by decide +kernel
theorem d_Reg_endSlide_12 : decode cd_Reg_endSlide 12 = .ok (.return_, 1) := by decide +kernel
set_option maxRecDepth 100000 in
set_option maxHeartbeats 4000000 in
theorem c_Reg_endSlide {l : Launch} {V : xV} {σ : xS} {x1 x2 : Int32} {Q : xS → Prop} (h : p_Reg_endSlide x1 x2 σ Q) : xMv l y_Reg_endSlide (.code y_Reg_endSlide cd_Reg_endSlide 3 none :: xG) rm_Reg_endSlide V [.ref (V.2.2 7), .int x1, .int x2] σ Q := by
  refine x_beginv (by decide) (Nat.le_of_ble_eq_true rfl) (fun p e s m below meth c ls C hlocks hr hI hl => ?_)
  have C : xC p s m _ c cd_Reg_endSlide 3 R_Reg V := C
  have hx := C.1
  have hb := C.2.1
  have hl : lv_has ls 3 [(0, .ref (V.2.2 7)), (1, .int x1), (2, .int x2)] := hl
  unfold p_Reg_endSlide at h
  refine lv_aload_n hx hb d_Reg_endSlide_0 rfl (lv_at hl 0 rfl) ?_
  refine lv_iload_n hx hb d_Reg_endSlide_1 rfl (lv_at hl 1 rfl) ?_
  refine lv_aload_n hx hb d_Reg_endSlide_2 rfl (lv_at hl 0 rfl) ?_
  refine x_get C hI (d := 7) (by decide) (xE7 V _) fd_Reg_20 rfl d_Reg_endSlide_3 ?_
  refine lv_iload_n hx hb d_Reg_endSlide_6 rfl (lv_at hl 1 rfl) ?_
  obtain ⟨i1, h⟩ := h
  refine x_iald C hI (d := 22) (by decide) (xE22 V) i1 d_Reg_endSlide_7 ?_
  refine lv_iload_n hx hb d_Reg_endSlide_8 rfl (lv_at hl 2 rfl) ?_
  refine x_callv C hI hl.1 (d := 7) (As := [.int x1, .int (σ 22 x1.toNatClampNeg), .int x2]) (rest := []) (by decide) (c_Reg_freePagesBehind h) (xE7 V _) rfl yw_Reg_freePagesBehind ml_Reg_40 rfl rfl ⟨Nat.le_of_ble_eq_true rfl, Nat.le_of_ble_eq_true rfl⟩ rfl rfl (Nat.le_of_ble_eq_true rfl) d_Reg_endSlide_9 ⟨Nat.zero_le _, Nat.zero_le _⟩ (fun σ2 H locs h hI => ?_)
  exact x_vret C hlocks hr hI h d_Reg_endSlide_12
