def y_Law_collect : MethodName := ⟨"RegionPoolLaw", "collect", "(LRegionPool;I[J)I"⟩
abbrev cd_Law_collect : ByteArray := method_3_code
theorem yw_Rp_collect : xY y_Rp_collect cd_Rp_collect 2 (some .int) 1 := ⟨xG_mem 460 (by decide +kernel) (by decide +kernel), xG_mem 461 (by decide +kernel) (by decide +kernel), xG_mem 54 (by decide +kernel) (by decide +kernel), xG_mem 462 (by decide +kernel) (by decide +kernel), by decide, by decide, by decide +kernel⟩
theorem ml_Law_7 : Cond.methodLink R_Law 7 y_Rp_collect ∈ xG := xG_mem 459 (by decide +kernel) (by decide +kernel)
theorem row_Law_collect_0 : xRowOf R_Law 4 "java/lang/IllegalArgumentException" 12 [(0, 9, 12, 13)] ["java/lang/IllegalArgumentException"] := ⟨by decide, by decide, by decide, xG_mem 458 (by decide +kernel) (by decide +kernel), Or.inl ⟨rfl, by decide, rfl⟩⟩
def p_Law_collect (x1 : Int32) (σ : xS) (Q : Int32 → xS → Prop) : Prop :=
  (p_Rp_collect x1 σ (fun r2 σ1 => (vp_in 0 1 ∧ Q 0 (xul σ1 30 (0 : Int32).toNatClampNeg r2.toInt64))) ∨ (q_Rp_collect x1 σ "java/lang/IllegalArgumentException" ∧ Q 1 σ))
abbrev rm_Law_collect : Room := { frames := 8, cells := 1, slots := 6, locals := 160 }
theorem d_Law_collect_0 : decode cd_Law_collect 0 = .ok (.aload_n 2, 1) := by decide +kernel
theorem d_Law_collect_1 : decode cd_Law_collect 1 = .ok (.iconst 0, 1) := by decide +kernel
theorem d_Law_collect_2 : decode cd_Law_collect 2 = .ok (.aload_n 0, 1) := by decide +kernel
theorem d_Law_collect_3 : decode cd_Law_collect 3 = .ok (.iload_n 1, 1) := by decide +kernel
theorem d_Law_collect_4 : decode cd_Law_collect 4 = .ok (.invokevirtual 7, 3) := by decide +kernel
theorem d_Law_collect_7 : decode cd_Law_collect 7 = .ok (.i2l, 1) := by decide +kernel
theorem d_Law_collect_8 : decode cd_Law_collect 8 = .ok (.lastore, 1) := by decide +kernel
theorem d_Law_collect_9 : decode cd_Law_collect 9 = .ok (.goto 6, 3) := by decide +kernel
theorem d_Law_collect_12 : decode cd_Law_collect 12 = .ok (.astore_n 3, 1) := by decide +kernel
theorem d_Law_collect_13 : decode cd_Law_collect 13 = .ok (.iconst 1, 1) := by decide +kernel
theorem d_Law_collect_14 : decode cd_Law_collect 14 = .ok (.ireturn, 1) := by decide +kernel
theorem d_Law_collect_15 : decode cd_Law_collect 15 = .ok (.iconst 0, 1) := by decide +kernel
theorem d_Law_collect_16 : decode cd_Law_collect 16 = .ok (.ireturn, 1) := by decide +kernel
set_option maxRecDepth 100000 in
set_option maxHeartbeats 4000000 in
theorem c_Law_collect {l : Launch} (hfl : l.flags = flags0) {V : xV} {σ : xS} {x1 : Int32} {Q : Int32 → xS → Prop} (h : p_Law_collect x1 σ Q) : xMh l y_Law_collect (.codeWith y_Law_collect cd_Law_collect 4 (some .int) [(0, 9, 12, 13)] :: xG) rm_Law_collect V [.ref (V.2.2 0), .int x1, .ref (V.2.2 30)] σ Q := by
  refine x_beginh (by decide) (Nat.le_of_ble_eq_true rfl) (fun p e s m below meth c ls C hlocks hr hhs hI hX hl => ?_)
  have C : xC p s m _ c cd_Law_collect 4 R_Law V := C
  have hx := C.1
  have hb := C.2.1
  have hl : lv_has ls 4 [(0, .ref (V.2.2 0)), (1, .int x1), (2, .ref (V.2.2 30))] := hl
  unfold p_Law_collect at h
  refine lv_aload_n hx hb d_Law_collect_0 rfl (lv_at hl 2 rfl) ?_
  refine lv_iconst (v := 0) hx hb d_Law_collect_1 (by decide) ?_
  refine lv_aload_n hx hb d_Law_collect_2 rfl (lv_at hl 0 rfl) ?_
  refine lv_iload_n hx hb d_Law_collect_3 rfl (lv_at hl 1 rfl) ?_
  rcases h with h | ⟨h0, h⟩
  · refine x_calli C hI hl.1 (d := 0) (As := [.int x1]) (rest := [.int 0, .ref (V.2.2 30)]) (by decide) (c_Rp_collect h) (xE0 V _) rfl yw_Rp_collect ml_Law_7 rfl rfl ⟨Nat.le_of_ble_eq_true rfl, Nat.le_of_ble_eq_true rfl⟩ rfl rfl (Nat.le_of_ble_eq_true rfl) d_Law_collect_4 ⟨Nat.zero_le _, Nat.zero_le _⟩ (fun r2 σ1 H locs h hI => ?_)
    refine lv_i2l (v := r2.toInt64) hx hb d_Law_collect_7 rfl ?_
    obtain ⟨i3, h⟩ := h
    refine x_last C hI (d := 30) (by decide) (xE30 V) i3 d_Law_collect_8 (fun H locs hI => ?_)
    refine lv_goto (tgt := 15) hx hb d_Law_collect_9 (by decide) ?_
    refine lv_iconst (v := 0) hx hb d_Law_collect_15 (by decide) ?_
    exact x_hret C hlocks hr hI (Nat.le_of_ble_eq_true rfl) (Nat.le_of_ble_eq_true rfl) h d_Law_collect_16
  · refine x_tcatch C hI hX hhs (ns := ["java/lang/IllegalArgumentException"]) (hp := 12) hl.1 (d := 0) (As := [.int x1]) (rest := [.int 0, .ref (V.2.2 30)]) (by decide) row_Law_collect_0 (e_Rp_collect hfl h0) (xE0 V _) rfl yw_Rp_collect ml_Law_7 rfl rfl ⟨Nat.le_of_ble_eq_true rfl, Nat.le_of_ble_eq_true rfl⟩ rfl rfl (Nat.le_of_ble_eq_true rfl) d_Law_collect_4 ⟨Nat.le_of_ble_eq_true rfl, Nat.le_of_ble_eq_true rfl⟩ (fun H q hI => ?_)
    refine lv_astore_n (lv' := [(3, .ref q), (0, .ref (V.2.2 0)), (1, .int x1), (2, .ref (V.2.2 30))]) hx hb d_Law_collect_12 rfl hl (by decide) rfl (fun ls hl => ?_)
    refine lv_iconst (v := 1) hx hb d_Law_collect_13 (by decide) ?_
    exact x_hret C hlocks hr hI (Nat.le_of_ble_eq_true rfl) (Nat.le_of_ble_eq_true rfl) h d_Law_collect_14
def y_Law_clear : MethodName := ⟨"RegionPoolLaw", "clear", "(LRegionPool;I)I"⟩
abbrev cd_Law_clear : ByteArray := method_4_code
theorem yw_Rp_clear : xY y_Rp_clear cd_Rp_clear 2 none 1 := ⟨xG_mem 686 (by decide +kernel) (by decide +kernel), xG_mem 687 (by decide +kernel) (by decide +kernel), xG_mem 54 (by decide +kernel) (by decide +kernel), xG_mem 688 (by decide +kernel) (by decide +kernel), by decide, by decide, by decide +kernel⟩
theorem ml_Law_15 : Cond.methodLink R_Law 15 y_Rp_clear ∈ xG := xG_mem 685 (by decide +kernel) (by decide +kernel)
theorem row_Law_clear_0 : xRowOf R_Law 2 "java/lang/IndexOutOfBoundsException" 8 [(0, 5, 8, 19)] ["java/lang/IndexOutOfBoundsException"] := ⟨by decide, by decide, by decide, xG_mem 684 (by decide +kernel) (by decide +kernel), Or.inl ⟨rfl, by decide, rfl⟩⟩
def p_Law_clear (x1 : Int32) (σ : xS) (Q : Int32 → xS → Prop) : Prop :=
  (p_Rp_clear x1 σ (fun σ1 => Q 0 σ1) ∨ (q_Rp_clear x1 σ "java/lang/IndexOutOfBoundsException" ∧ Q 1 σ))
abbrev rm_Law_clear : Room := { frames := 8, cells := 1, slots := 6, locals := 124 }
theorem d_Law_clear_0 : decode cd_Law_clear 0 = .ok (.aload_n 0, 1) := by decide +kernel
theorem d_Law_clear_1 : decode cd_Law_clear 1 = .ok (.iload_n 1, 1) := by decide +kernel
theorem d_Law_clear_2 : decode cd_Law_clear 2 = .ok (.invokevirtual 15, 3) := by decide +kernel
theorem d_Law_clear_5 : decode cd_Law_clear 5 = .ok (.goto 6, 3) := by decide +kernel
theorem d_Law_clear_8 : decode cd_Law_clear 8 = .ok (.astore_n 2, 1) := by decide +kernel
theorem d_Law_clear_9 : decode cd_Law_clear 9 = .ok (.iconst 1, 1) := by decide +kernel
theorem d_Law_clear_10 : decode cd_Law_clear 10 = .ok (.ireturn, 1) := by decide +kernel
theorem d_Law_clear_11 : decode cd_Law_clear 11 = .ok (.iconst 0, 1) := by decide +kernel
theorem d_Law_clear_12 : decode cd_Law_clear 12 = .ok (.ireturn, 1) := by decide +kernel
set_option maxRecDepth 100000 in
set_option maxHeartbeats 4000000 in
theorem c_Law_clear {l : Launch} (hfl : l.flags = flags0) {V : xV} {σ : xS} {x1 : Int32} {Q : Int32 → xS → Prop} (h : p_Law_clear x1 σ Q) : xMh l y_Law_clear (.codeWith y_Law_clear cd_Law_clear 3 (some .int) [(0, 5, 8, 19)] :: xG) rm_Law_clear V [.ref (V.2.2 0), .int x1] σ Q := by
  refine x_beginh (by decide) (Nat.le_of_ble_eq_true rfl) (fun p e s m below meth c ls C hlocks hr hhs hI hX hl => ?_)
  have C : xC p s m _ c cd_Law_clear 3 R_Law V := C
  have hx := C.1
  have hb := C.2.1
  have hl : lv_has ls 3 [(0, .ref (V.2.2 0)), (1, .int x1)] := hl
  unfold p_Law_clear at h
  refine lv_aload_n hx hb d_Law_clear_0 rfl (lv_at hl 0 rfl) ?_
  refine lv_iload_n hx hb d_Law_clear_1 rfl (lv_at hl 1 rfl) ?_
  rcases h with h | ⟨h0, h⟩
  · refine x_callv C hI hl.1 (d := 0) (As := [.int x1]) (rest := []) (by decide) (c_Rp_clear h) (xE0 V _) rfl yw_Rp_clear ml_Law_15 rfl rfl ⟨Nat.le_of_ble_eq_true rfl, Nat.le_of_ble_eq_true rfl⟩ rfl rfl (Nat.le_of_ble_eq_true rfl) d_Law_clear_2 ⟨Nat.zero_le _, Nat.zero_le _⟩ (fun σ1 H locs h hI => ?_)
    refine lv_goto (tgt := 11) hx hb d_Law_clear_5 (by decide) ?_
    refine lv_iconst (v := 0) hx hb d_Law_clear_11 (by decide) ?_
    exact x_hret C hlocks hr hI (Nat.le_of_ble_eq_true rfl) (Nat.le_of_ble_eq_true rfl) h d_Law_clear_12
  · refine x_tcatch C hI hX hhs (ns := ["java/lang/IndexOutOfBoundsException"]) (hp := 8) hl.1 (d := 0) (As := [.int x1]) (rest := []) (by decide) row_Law_clear_0 (e_Rp_clear hfl h0) (xE0 V _) rfl yw_Rp_clear ml_Law_15 rfl rfl ⟨Nat.le_of_ble_eq_true rfl, Nat.le_of_ble_eq_true rfl⟩ rfl rfl (Nat.le_of_ble_eq_true rfl) d_Law_clear_2 ⟨Nat.le_of_ble_eq_true rfl, Nat.le_of_ble_eq_true rfl⟩ (fun H q hI => ?_)
    refine lv_astore_n (lv' := [(2, .ref q), (0, .ref (V.2.2 0)), (1, .int x1)]) hx hb d_Law_clear_8 rfl hl (by decide) rfl (fun ls hl => ?_)
    refine lv_iconst (v := 1) hx hb d_Law_clear_9 (by decide) ?_
    exact x_hret C hlocks hr hI (Nat.le_of_ble_eq_true rfl) (Nat.le_of_ble_eq_true rfl) h d_Law_clear_10
def y_Law_number : MethodName := ⟨"RegionPoolLaw", "number", "(LRegionPool;II)I"⟩
abbrev cd_Law_number : ByteArray := method_5_code
theorem yw_Rp_number : xY y_Rp_number cd_Rp_number 3 none 2 := ⟨xG_mem 714 (by decide +kernel) (by decide +kernel), xG_mem 715 (by decide +kernel) (by decide +kernel), xG_mem 54 (by decide +kernel) (by decide +kernel), xG_mem 716 (by decide +kernel) (by decide +kernel), by decide, by decide, by decide +kernel⟩
theorem ml_Law_21 : Cond.methodLink R_Law 21 y_Rp_number ∈ xG := xG_mem 713 (by decide +kernel) (by decide +kernel)
theorem row_Law_number_0 : xRowOf R_Law 3 "java/lang/IndexOutOfBoundsException" 9 [(0, 6, 9, 19)] ["java/lang/IndexOutOfBoundsException"] := ⟨by decide, by decide, by decide, xG_mem 684 (by decide +kernel) (by decide +kernel), Or.inl ⟨rfl, by decide, rfl⟩⟩
def p_Law_number (x1 x2 : Int32) (σ : xS) (Q : Int32 → xS → Prop) : Prop :=
  (p_Rp_number x1 x2 σ (fun σ1 => Q 0 σ1) ∨ (q_Rp_number x1 x2 σ "java/lang/IndexOutOfBoundsException" ∧ Q 1 σ))
abbrev rm_Law_number : Room := { frames := 8, cells := 1, slots := 6, locals := 125 }
theorem d_Law_number_0 : decode cd_Law_number 0 = .ok (.aload_n 0, 1) := by decide +kernel
theorem d_Law_number_1 : decode cd_Law_number 1 = .ok (.iload_n 1, 1) := by decide +kernel
theorem d_Law_number_2 : decode cd_Law_number 2 = .ok (.iload_n 2, 1) := by decide +kernel
theorem d_Law_number_3 : decode cd_Law_number 3 = .ok (.invokevirtual 21, 3) := by decide +kernel
theorem d_Law_number_6 : decode cd_Law_number 6 = .ok (.goto 6, 3) := by decide +kernel
theorem d_Law_number_9 : decode cd_Law_number 9 = .ok (.astore_n 3, 1) := by decide +kernel
theorem d_Law_number_10 : decode cd_Law_number 10 = .ok (.iconst 1, 1) := by decide +kernel
theorem d_Law_number_11 : decode cd_Law_number 11 = .ok (.ireturn, 1) := by decide +kernel
theorem d_Law_number_12 : decode cd_Law_number 12 = .ok (.iconst 0, 1) := by decide +kernel
theorem d_Law_number_13 : decode cd_Law_number 13 = .ok (.ireturn, 1) := by decide +kernel
set_option maxRecDepth 100000 in
set_option maxHeartbeats 4000000 in
theorem c_Law_number {l : Launch} (hfl : l.flags = flags0) {V : xV} {σ : xS} {x1 x2 : Int32} {Q : Int32 → xS → Prop} (h : p_Law_number x1 x2 σ Q) : xMh l y_Law_number (.codeWith y_Law_number cd_Law_number 4 (some .int) [(0, 6, 9, 19)] :: xG) rm_Law_number V [.ref (V.2.2 0), .int x1, .int x2] σ Q := by
  refine x_beginh (by decide) (Nat.le_of_ble_eq_true rfl) (fun p e s m below meth c ls C hlocks hr hhs hI hX hl => ?_)
  have C : xC p s m _ c cd_Law_number 4 R_Law V := C
  have hx := C.1
  have hb := C.2.1
  have hl : lv_has ls 4 [(0, .ref (V.2.2 0)), (1, .int x1), (2, .int x2)] := hl
  unfold p_Law_number at h
  refine lv_aload_n hx hb d_Law_number_0 rfl (lv_at hl 0 rfl) ?_
  refine lv_iload_n hx hb d_Law_number_1 rfl (lv_at hl 1 rfl) ?_
  refine lv_iload_n hx hb d_Law_number_2 rfl (lv_at hl 2 rfl) ?_
  rcases h with h | ⟨h0, h⟩
  · refine x_callv C hI hl.1 (d := 0) (As := [.int x1, .int x2]) (rest := []) (by decide) (c_Rp_number h) (xE0 V _) rfl yw_Rp_number ml_Law_21 rfl rfl ⟨Nat.le_of_ble_eq_true rfl, Nat.le_of_ble_eq_true rfl⟩ rfl rfl (Nat.le_of_ble_eq_true rfl) d_Law_number_3 ⟨Nat.zero_le _, Nat.zero_le _⟩ (fun σ1 H locs h hI => ?_)
    refine lv_goto (tgt := 12) hx hb d_Law_number_6 (by decide) ?_
    refine lv_iconst (v := 0) hx hb d_Law_number_12 (by decide) ?_
    exact x_hret C hlocks hr hI (Nat.le_of_ble_eq_true rfl) (Nat.le_of_ble_eq_true rfl) h d_Law_number_13
  · refine x_tcatch C hI hX hhs (ns := ["java/lang/IndexOutOfBoundsException"]) (hp := 9) hl.1 (d := 0) (As := [.int x1, .int x2]) (rest := []) (by decide) row_Law_number_0 (e_Rp_number hfl h0) (xE0 V _) rfl yw_Rp_number ml_Law_21 rfl rfl ⟨Nat.le_of_ble_eq_true rfl, Nat.le_of_ble_eq_true rfl⟩ rfl rfl (Nat.le_of_ble_eq_true rfl) d_Law_number_3 ⟨Nat.le_of_ble_eq_true rfl, Nat.le_of_ble_eq_true rfl⟩ (fun H q hI => ?_)
    refine lv_astore_n (lv' := [(3, .ref q), (0, .ref (V.2.2 0)), (1, .int x1), (2, .int x2)]) hx hb d_Law_number_9 rfl hl (by decide) rfl (fun ls hl => ?_)
    refine lv_iconst (v := 1) hx hb d_Law_number_10 (by decide) ?_
    exact x_hret C hlocks hr hI (Nat.le_of_ble_eq_true rfl) (Nat.le_of_ble_eq_true rfl) h d_Law_number_11
def y_Law_move : MethodName := ⟨"RegionPoolLaw", "move", "(LRegionPool;II)I"⟩
abbrev cd_Law_move : ByteArray := method_6_code
theorem yw_Rp_move : xY y_Rp_move cd_Rp_move 3 none 2 := ⟨xG_mem 725 (by decide +kernel) (by decide +kernel), xG_mem 726 (by decide +kernel) (by decide +kernel), xG_mem 54 (by decide +kernel) (by decide +kernel), xG_mem 727 (by decide +kernel) (by decide +kernel), by decide, by decide, by decide +kernel⟩
theorem ml_Law_25 : Cond.methodLink R_Law 25 y_Rp_move ∈ xG := xG_mem 724 (by decide +kernel) (by decide +kernel)
theorem row_Law_move_0 : xRowOf R_Law 3 "java/lang/IndexOutOfBoundsException" 9 [(0, 6, 9, 19)] ["java/lang/IndexOutOfBoundsException"] := ⟨by decide, by decide, by decide, xG_mem 684 (by decide +kernel) (by decide +kernel), Or.inl ⟨rfl, by decide, rfl⟩⟩
def p_Law_move (x1 x2 : Int32) (σ : xS) (Q : Int32 → xS → Prop) : Prop :=
  (p_Rp_move x1 x2 σ (fun σ1 => Q 0 σ1) ∨ (q_Rp_move x1 x2 σ "java/lang/IndexOutOfBoundsException" ∧ Q 1 σ))
abbrev rm_Law_move : Room := { frames := 8, cells := 1, slots := 6, locals := 125 }
theorem d_Law_move_0 : decode cd_Law_move 0 = .ok (.aload_n 0, 1) := by decide +kernel
theorem d_Law_move_1 : decode cd_Law_move 1 = .ok (.iload_n 1, 1) := by decide +kernel
theorem d_Law_move_2 : decode cd_Law_move 2 = .ok (.iload_n 2, 1) := by decide +kernel
theorem d_Law_move_3 : decode cd_Law_move 3 = .ok (.invokevirtual 25, 3) := by decide +kernel
theorem d_Law_move_6 : decode cd_Law_move 6 = .ok (.goto 6, 3) := by decide +kernel
theorem d_Law_move_9 : decode cd_Law_move 9 = .ok (.astore_n 3, 1) := by decide +kernel
theorem d_Law_move_10 : decode cd_Law_move 10 = .ok (.iconst 1, 1) := by decide +kernel
theorem d_Law_move_11 : decode cd_Law_move 11 = .ok (.ireturn, 1) := by decide +kernel
theorem d_Law_move_12 : decode cd_Law_move 12 = .ok (.iconst 0, 1) := by decide +kernel
theorem d_Law_move_13 : decode cd_Law_move 13 = .ok (.ireturn, 1) := by decide +kernel
set_option maxRecDepth 100000 in
set_option maxHeartbeats 4000000 in
theorem c_Law_move {l : Launch} (hfl : l.flags = flags0) {V : xV} {σ : xS} {x1 x2 : Int32} {Q : Int32 → xS → Prop} (h : p_Law_move x1 x2 σ Q) : xMh l y_Law_move (.codeWith y_Law_move cd_Law_move 4 (some .int) [(0, 6, 9, 19)] :: xG) rm_Law_move V [.ref (V.2.2 0), .int x1, .int x2] σ Q := by
  refine x_beginh (by decide) (Nat.le_of_ble_eq_true rfl) (fun p e s m below meth c ls C hlocks hr hhs hI hX hl => ?_)
  have C : xC p s m _ c cd_Law_move 4 R_Law V := C
  have hx := C.1
  have hb := C.2.1
  have hl : lv_has ls 4 [(0, .ref (V.2.2 0)), (1, .int x1), (2, .int x2)] := hl
  unfold p_Law_move at h
  refine lv_aload_n hx hb d_Law_move_0 rfl (lv_at hl 0 rfl) ?_
  refine lv_iload_n hx hb d_Law_move_1 rfl (lv_at hl 1 rfl) ?_
  refine lv_iload_n hx hb d_Law_move_2 rfl (lv_at hl 2 rfl) ?_
  rcases h with h | ⟨h0, h⟩
  · refine x_callv C hI hl.1 (d := 0) (As := [.int x1, .int x2]) (rest := []) (by decide) (c_Rp_move h) (xE0 V _) rfl yw_Rp_move ml_Law_25 rfl rfl ⟨Nat.le_of_ble_eq_true rfl, Nat.le_of_ble_eq_true rfl⟩ rfl rfl (Nat.le_of_ble_eq_true rfl) d_Law_move_3 ⟨Nat.zero_le _, Nat.zero_le _⟩ (fun σ1 H locs h hI => ?_)
    refine lv_goto (tgt := 12) hx hb d_Law_move_6 (by decide) ?_
    refine lv_iconst (v := 0) hx hb d_Law_move_12 (by decide) ?_
    exact x_hret C hlocks hr hI (Nat.le_of_ble_eq_true rfl) (Nat.le_of_ble_eq_true rfl) h d_Law_move_13
  · refine x_tcatch C hI hX hhs (ns := ["java/lang/IndexOutOfBoundsException"]) (hp := 9) hl.1 (d := 0) (As := [.int x1, .int x2]) (rest := []) (by decide) row_Law_move_0 (e_Rp_move hfl h0) (xE0 V _) rfl yw_Rp_move ml_Law_25 rfl rfl ⟨Nat.le_of_ble_eq_true rfl, Nat.le_of_ble_eq_true rfl⟩ rfl rfl (Nat.le_of_ble_eq_true rfl) d_Law_move_3 ⟨Nat.le_of_ble_eq_true rfl, Nat.le_of_ble_eq_true rfl⟩ (fun H q hI => ?_)
    refine lv_astore_n (lv' := [(3, .ref q), (0, .ref (V.2.2 0)), (1, .int x1), (2, .int x2)]) hx hb d_Law_move_9 rfl hl (by decide) rfl (fun ls hl => ?_)
    refine lv_iconst (v := 1) hx hb d_Law_move_10 (by decide) ?_
    exact x_hret C hlocks hr hI (Nat.le_of_ble_eq_true rfl) (Nat.le_of_ble_eq_true rfl) h d_Law_move_11
def y_Law_make : MethodName := ⟨"RegionPoolLaw", "make", "(LRegionPool;IIIII[J)I"⟩
abbrev cd_Law_make : ByteArray := method_7_code
theorem yw_Rp_make : xY y_Rp_make cd_Rp_make 7 (some .int) 5 := ⟨xG_mem 736 (by decide +kernel) (by decide +kernel), xG_mem 737 (by decide +kernel) (by decide +kernel), xG_mem 54 (by decide +kernel) (by decide +kernel), xG_mem 738 (by decide +kernel) (by decide +kernel), by decide, by decide, by decide +kernel⟩
theorem ml_Law_28 : Cond.methodLink R_Law 28 y_Rp_make ∈ xG := xG_mem 735 (by decide +kernel) (by decide +kernel)
theorem row_Law_make_0 : xRowOf R_Law 11 "java/lang/IndexOutOfBoundsException" 19 [(0, 16, 19, 19), (0, 16, 23, 13)] ["java/lang/IndexOutOfBoundsException", "java/lang/IllegalArgumentException"] := ⟨by decide, by decide, by decide, xG_mem 684 (by decide +kernel) (by decide +kernel), Or.inl ⟨rfl, by decide, rfl⟩⟩
theorem row_Law_make_1 : xRowOf R_Law 11 "java/lang/IllegalArgumentException" 23 [(0, 16, 19, 19), (0, 16, 23, 13)] ["java/lang/IndexOutOfBoundsException", "java/lang/IllegalArgumentException"] := ⟨by decide, by decide, by decide, xG_mem 684 (by decide +kernel) (by decide +kernel), Or.inr ⟨by decide, ⟨by decide, by decide, by decide, xG_mem 458 (by decide +kernel) (by decide +kernel), Or.inl ⟨rfl, by decide, rfl⟩⟩⟩⟩
def p_Law_make (x1 x2 x3 x4 x5 : Int32) (σ : xS) (Q : Int32 → xS → Prop) : Prop :=
  (p_Rp_make x1 x2 x3 x4 x5 σ (fun r2 σ1 => (vp_in 0 1 ∧ Q 0 (xul σ1 30 (0 : Int32).toNatClampNeg r2.toInt64))) ∨ (q_Rp_make x1 x2 x3 x4 x5 σ "java/lang/IndexOutOfBoundsException" ∧ Q 1 σ) ∨ (q_Rp_make x1 x2 x3 x4 x5 σ "java/lang/IllegalArgumentException" ∧ Q 2 σ))
abbrev rm_Law_make : Room := { frames := 8, cells := 1, slots := 6, locals := 188 }
theorem d_Law_make_0 : decode cd_Law_make 0 = .ok (.aload 6, 2) := by decide +kernel
theorem d_Law_make_2 : decode cd_Law_make 2 = .ok (.iconst 0, 1) := by decide +kernel
theorem d_Law_make_3 : decode cd_Law_make 3 = .ok (.aload_n 0, 1) := by decide +kernel
theorem d_Law_make_4 : decode cd_Law_make 4 = .ok (.iload_n 1, 1) := by decide +kernel
theorem d_Law_make_5 : decode cd_Law_make 5 = .ok (.iload_n 2, 1) := by decide +kernel
theorem d_Law_make_6 : decode cd_Law_make 6 = .ok (.iload_n 3, 1) := by decide +kernel
theorem d_Law_make_7 : decode cd_Law_make 7 = .ok (.iload 4, 2) := by decide +kernel
theorem d_Law_make_9 : decode cd_Law_make 9 = .ok (.iload 5, 2) := by decide +kernel
theorem d_Law_make_11 : decode cd_Law_make 11 = .ok (.invokevirtual 28, 3) := by decide +kernel
theorem d_Law_make_14 : decode cd_Law_make 14 = .ok (.i2l, 1) := by decide +kernel
theorem d_Law_make_15 : decode cd_Law_make 15 = .ok (.lastore, 1) := by decide +kernel
theorem d_Law_make_16 : decode cd_Law_make 16 = .ok (.goto 11, 3) := by decide +kernel
theorem d_Law_make_19 : decode cd_Law_make 19 = .ok (.astore 7, 2) := by decide +kernel
theorem d_Law_make_21 : decode cd_Law_make 21 = .ok (.iconst 1, 1) := by decide +kernel
theorem d_Law_make_22 : decode cd_Law_make 22 = .ok (.ireturn, 1) := by decide +kernel
theorem d_Law_make_23 : decode cd_Law_make 23 = .ok (.astore 7, 2) := by decide +kernel
theorem d_Law_make_25 : decode cd_Law_make 25 = .ok (.iconst 2, 1) := by decide +kernel
theorem d_Law_make_26 : decode cd_Law_make 26 = .ok (.ireturn, 1) := by decide +kernel
theorem d_Law_make_27 : decode cd_Law_make 27 = .ok (.iconst 0, 1) := by decide +kernel
theorem d_Law_make_28 : decode cd_Law_make 28 = .ok (.ireturn, 1) := by decide +kernel
set_option maxRecDepth 100000 in
set_option maxHeartbeats 4000000 in
theorem c_Law_make {l : Launch} (hfl : l.flags = flags0) {V : xV} {σ : xS} {x1 x2 x3 x4 x5 : Int32} {Q : Int32 → xS → Prop} (h : p_Law_make x1 x2 x3 x4 x5 σ Q) : xMh l y_Law_make (.codeWith y_Law_make cd_Law_make 8 (some .int) [(0, 16, 19, 19), (0, 16, 23, 13)] :: xG) rm_Law_make V [.ref (V.2.2 0), .int x1, .int x2, .int x3, .int x4, .int x5, .ref (V.2.2 30)] σ Q := by
  refine x_beginh (by decide) (Nat.le_of_ble_eq_true rfl) (fun p e s m below meth c ls C hlocks hr hhs hI hX hl => ?_)
  have C : xC p s m _ c cd_Law_make 8 R_Law V := C
  have hx := C.1
  have hb := C.2.1
  have hl : lv_has ls 8 [(0, .ref (V.2.2 0)), (1, .int x1), (2, .int x2), (3, .int x3), (4, .int x4), (5, .int x5), (6, .ref (V.2.2 30))] := hl
  unfold p_Law_make at h
  refine lv_aload hx hb d_Law_make_0 (lv_at hl 6 rfl) ?_
  refine lv_iconst (v := 0) hx hb d_Law_make_2 (by decide) ?_
  refine lv_aload_n hx hb d_Law_make_3 rfl (lv_at hl 0 rfl) ?_
  refine lv_iload_n hx hb d_Law_make_4 rfl (lv_at hl 1 rfl) ?_
  refine lv_iload_n hx hb d_Law_make_5 rfl (lv_at hl 2 rfl) ?_
  refine lv_iload_n hx hb d_Law_make_6 rfl (lv_at hl 3 rfl) ?_
  refine lv_iload hx hb d_Law_make_7 (lv_at hl 4 rfl) ?_
  refine lv_iload hx hb d_Law_make_9 (lv_at hl 5 rfl) ?_
  rcases h with h | ⟨h0, h⟩ | ⟨h0, h⟩
  · refine x_calli C hI hl.1 (d := 0) (As := [.int x1, .int x2, .int x3, .int x4, .int x5]) (rest := [.int 0, .ref (V.2.2 30)]) (by decide) (c_Rp_make h) (xE0 V _) rfl yw_Rp_make ml_Law_28 rfl rfl ⟨Nat.le_of_ble_eq_true rfl, Nat.le_of_ble_eq_true rfl⟩ rfl rfl (Nat.le_of_ble_eq_true rfl) d_Law_make_11 ⟨Nat.zero_le _, Nat.zero_le _⟩ (fun r2 σ1 H locs h hI => ?_)
    refine lv_i2l (v := r2.toInt64) hx hb d_Law_make_14 rfl ?_
    obtain ⟨i3, h⟩ := h
    refine x_last C hI (d := 30) (by decide) (xE30 V) i3 d_Law_make_15 (fun H locs hI => ?_)
    refine lv_goto (tgt := 27) hx hb d_Law_make_16 (by decide) ?_
    refine lv_iconst (v := 0) hx hb d_Law_make_27 (by decide) ?_
    exact x_hret C hlocks hr hI (Nat.le_of_ble_eq_true rfl) (Nat.le_of_ble_eq_true rfl) h d_Law_make_28
  · refine x_tcatch C hI hX hhs (ns := ["java/lang/IndexOutOfBoundsException", "java/lang/IllegalArgumentException"]) (hp := 19) hl.1 (d := 0) (As := [.int x1, .int x2, .int x3, .int x4, .int x5]) (rest := [.int 0, .ref (V.2.2 30)]) (by decide) row_Law_make_0 (e_Rp_make hfl h0) (xE0 V _) rfl yw_Rp_make ml_Law_28 rfl rfl ⟨Nat.le_of_ble_eq_true rfl, Nat.le_of_ble_eq_true rfl⟩ rfl rfl (Nat.le_of_ble_eq_true rfl) d_Law_make_11 ⟨Nat.le_of_ble_eq_true rfl, Nat.le_of_ble_eq_true rfl⟩ (fun H q hI => ?_)
    refine lv_astore (lv' := [(7, .ref q), (0, .ref (V.2.2 0)), (1, .int x1), (2, .int x2), (3, .int x3), (4, .int x4), (5, .int x5), (6, .ref (V.2.2 30))]) hx hb d_Law_make_19 hl (by decide) rfl (fun ls hl => ?_)
    refine lv_iconst (v := 1) hx hb d_Law_make_21 (by decide) ?_
    exact x_hret C hlocks hr hI (Nat.le_of_ble_eq_true rfl) (Nat.le_of_ble_eq_true rfl) h d_Law_make_22
  · refine x_tcatch C hI hX hhs (ns := ["java/lang/IndexOutOfBoundsException", "java/lang/IllegalArgumentException"]) (hp := 23) hl.1 (d := 0) (As := [.int x1, .int x2, .int x3, .int x4, .int x5]) (rest := [.int 0, .ref (V.2.2 30)]) (by decide) row_Law_make_1 (e_Rp_make hfl h0) (xE0 V _) rfl yw_Rp_make ml_Law_28 rfl rfl ⟨Nat.le_of_ble_eq_true rfl, Nat.le_of_ble_eq_true rfl⟩ rfl rfl (Nat.le_of_ble_eq_true rfl) d_Law_make_11 ⟨Nat.le_of_ble_eq_true rfl, Nat.le_of_ble_eq_true rfl⟩ (fun H q hI => ?_)
    refine lv_astore (lv' := [(7, .ref q), (0, .ref (V.2.2 0)), (1, .int x1), (2, .int x2), (3, .int x3), (4, .int x4), (5, .int x5), (6, .ref (V.2.2 30))]) hx hb d_Law_make_23 hl (by decide) rfl (fun ls hl => ?_)
    refine lv_iconst (v := 2) hx hb d_Law_make_25 (by decide) ?_
    exact x_hret C hlocks hr hI (Nat.le_of_ble_eq_true rfl) (Nat.le_of_ble_eq_true rfl) h d_Law_make_26
def y_Law_get : MethodName := ⟨"RegionPoolLaw", "get", "(LRegionPool;III[J)I"⟩
abbrev cd_Law_get : ByteArray := method_8_code
theorem yw_Rp_get : xY y_Rp_get cd_Rp_get 5 (some .boolean) 3 := ⟨xG_mem 776 (by decide +kernel) (by decide +kernel), xG_mem 777 (by decide +kernel) (by decide +kernel), xG_mem 54 (by decide +kernel) (by decide +kernel), xG_mem 778 (by decide +kernel) (by decide +kernel), by decide, by decide, by decide +kernel⟩
theorem ml_Law_32 : Cond.methodLink R_Law 32 y_Rp_get ∈ xG := xG_mem 775 (by decide +kernel) (by decide +kernel)
theorem row_Law_get_0 : xRowOf R_Law 7 "java/lang/IndexOutOfBoundsException" 22 [(0, 19, 22, 19), (0, 19, 26, 36)] ["java/lang/IndexOutOfBoundsException", "java/lang/IllegalStateException"] := ⟨by decide, by decide, by decide, xG_mem 684 (by decide +kernel) (by decide +kernel), Or.inl ⟨rfl, by decide, rfl⟩⟩
theorem row_Law_get_1 : xRowOf R_Law 7 "java/lang/IllegalStateException" 26 [(0, 19, 22, 19), (0, 19, 26, 36)] ["java/lang/IndexOutOfBoundsException", "java/lang/IllegalStateException"] := ⟨by decide, by decide, by decide, xG_mem 684 (by decide +kernel) (by decide +kernel), Or.inr ⟨by decide, ⟨by decide, by decide, by decide, xG_mem 774 (by decide +kernel) (by decide +kernel), Or.inl ⟨rfl, by decide, rfl⟩⟩⟩⟩
def p_Law_get (x1 x2 x3 : Int32) (σ : xS) (Q : Int32 → xS → Prop) : Prop :=
  (p_Rp_get x1 x2 x3 σ (fun r2 σ1 => ((r2 = 0 → (vp_in 0 1 ∧ Q 0 (xul σ1 30 (0 : Int32).toNatClampNeg 0))) ∧ (¬ r2 = 0 → (vp_in 0 1 ∧ Q 0 (xul σ1 30 (0 : Int32).toNatClampNeg 1))))) ∨ (q_Rp_get x1 x2 x3 σ "java/lang/IndexOutOfBoundsException" ∧ Q 1 σ) ∨ (q_Rp_get x1 x2 x3 σ "java/lang/IllegalStateException" ∧ Q 2 σ))
abbrev rm_Law_get : Room := { frames := 8, cells := 1, slots := 6, locals := 127 }
theorem d_Law_get_0 : decode cd_Law_get 0 = .ok (.aload 4, 2) := by decide +kernel
theorem d_Law_get_2 : decode cd_Law_get 2 = .ok (.iconst 0, 1) := by decide +kernel
theorem d_Law_get_3 : decode cd_Law_get 3 = .ok (.aload_n 0, 1) := by decide +kernel
theorem d_Law_get_4 : decode cd_Law_get 4 = .ok (.iload_n 1, 1) := by decide +kernel
theorem d_Law_get_5 : decode cd_Law_get 5 = .ok (.iload_n 2, 1) := by decide +kernel
theorem d_Law_get_6 : decode cd_Law_get 6 = .ok (.iload_n 3, 1) := by decide +kernel
theorem d_Law_get_7 : decode cd_Law_get 7 = .ok (.invokevirtual 32, 3) := by decide +kernel
theorem d_Law_get_10 : decode cd_Law_get 10 = .ok (.ifCond .eq 7, 3) := by decide +kernel
theorem d_Law_get_13 : decode cd_Law_get 13 = .ok (.lconst 1, 1) := by decide +kernel
theorem d_Law_get_14 : decode cd_Law_get 14 = .ok (.goto 4, 3) := by decide +kernel
theorem d_Law_get_17 : decode cd_Law_get 17 = .ok (.lconst 0, 1) := by decide +kernel
theorem d_Law_get_18 : decode cd_Law_get 18 = .ok (.lastore, 1) := by decide +kernel
theorem d_Law_get_19 : decode cd_Law_get 19 = .ok (.goto 11, 3) := by decide +kernel
theorem d_Law_get_22 : decode cd_Law_get 22 = .ok (.astore 5, 2) := by decide +kernel
theorem d_Law_get_24 : decode cd_Law_get 24 = .ok (.iconst 1, 1) := by decide +kernel
theorem d_Law_get_25 : decode cd_Law_get 25 = .ok (.ireturn, 1) := by decide +kernel
theorem d_Law_get_26 : decode cd_Law_get 26 = .ok (.astore 5, 2) := by decide +kernel
theorem d_Law_get_28 : decode cd_Law_get 28 = .ok (.iconst 2, 1) := by decide +kernel
theorem d_Law_get_29 : decode cd_Law_get 29 = .ok (.ireturn, 1) := by decide +kernel
theorem d_Law_get_30 : decode cd_Law_get 30 = .ok (.iconst 0, 1) := by decide +kernel
theorem d_Law_get_31 : decode cd_Law_get 31 = .ok (.ireturn, 1) := by decide +kernel
set_option maxRecDepth 100000 in
set_option maxHeartbeats 4000000 in
theorem c_Law_get {l : Launch} (hfl : l.flags = flags0) {V : xV} {σ : xS} {x1 x2 x3 : Int32} {Q : Int32 → xS → Prop} (h : p_Law_get x1 x2 x3 σ Q) : xMh l y_Law_get (.codeWith y_Law_get cd_Law_get 6 (some .int) [(0, 19, 22, 19), (0, 19, 26, 36)] :: xG) rm_Law_get V [.ref (V.2.2 0), .int x1, .int x2, .int x3, .ref (V.2.2 30)] σ Q := by
  refine x_beginh (by decide) (Nat.le_of_ble_eq_true rfl) (fun p e s m below meth c ls C hlocks hr hhs hI hX hl => ?_)
  have C : xC p s m _ c cd_Law_get 6 R_Law V := C
  have hx := C.1
  have hb := C.2.1
  have hl : lv_has ls 6 [(0, .ref (V.2.2 0)), (1, .int x1), (2, .int x2), (3, .int x3), (4, .ref (V.2.2 30))] := hl
  unfold p_Law_get at h
  refine lv_aload hx hb d_Law_get_0 (lv_at hl 4 rfl) ?_
  refine lv_iconst (v := 0) hx hb d_Law_get_2 (by decide) ?_
  refine lv_aload_n hx hb d_Law_get_3 rfl (lv_at hl 0 rfl) ?_
  refine lv_iload_n hx hb d_Law_get_4 rfl (lv_at hl 1 rfl) ?_
  refine lv_iload_n hx hb d_Law_get_5 rfl (lv_at hl 2 rfl) ?_
  refine lv_iload_n hx hb d_Law_get_6 rfl (lv_at hl 3 rfl) ?_
  rcases h with h | ⟨h0, h⟩ | ⟨h0, h⟩
  · refine x_calli C hI hl.1 (d := 0) (As := [.int x1, .int x2, .int x3]) (rest := [.int 0, .ref (V.2.2 30)]) (by decide) (c_Rp_get h) (xE0 V _) rfl yw_Rp_get ml_Law_32 rfl rfl ⟨Nat.le_of_ble_eq_true rfl, Nat.le_of_ble_eq_true rfl⟩ rfl rfl (Nat.le_of_ble_eq_true rfl) d_Law_get_7 ⟨Nat.zero_le _, Nat.zero_le _⟩ (fun r2 σ1 H locs h hI => ?_)
    refine lv_if_eq (tgt := 17) hx hb d_Law_get_10 (by decide) (fun c3 => ?_) (fun c3 => ?_)
    · have h := h.1 c3
      refine lv_lconst (v := 0) hx hb d_Law_get_17 (by decide) ?_
      obtain ⟨i4, h⟩ := h
      refine x_last C hI (d := 30) (by decide) (xE30 V) i4 d_Law_get_18 (fun H locs hI => ?_)
      refine lv_goto (tgt := 30) hx hb d_Law_get_19 (by decide) ?_
      refine lv_iconst (v := 0) hx hb d_Law_get_30 (by decide) ?_
      exact x_hret C hlocks hr hI (Nat.le_of_ble_eq_true rfl) (Nat.le_of_ble_eq_true rfl) h d_Law_get_31
    · have h := h.2 c3
      refine lv_lconst (v := 1) hx hb d_Law_get_13 (by decide) ?_
      refine lv_goto (tgt := 18) hx hb d_Law_get_14 (by decide) ?_
      obtain ⟨i5, h⟩ := h
      refine x_last C hI (d := 30) (by decide) (xE30 V) i5 d_Law_get_18 (fun H locs hI => ?_)
      refine lv_goto (tgt := 30) hx hb d_Law_get_19 (by decide) ?_
      refine lv_iconst (v := 0) hx hb d_Law_get_30 (by decide) ?_
      exact x_hret C hlocks hr hI (Nat.le_of_ble_eq_true rfl) (Nat.le_of_ble_eq_true rfl) h d_Law_get_31
  · refine x_tcatch C hI hX hhs (ns := ["java/lang/IndexOutOfBoundsException", "java/lang/IllegalStateException"]) (hp := 22) hl.1 (d := 0) (As := [.int x1, .int x2, .int x3]) (rest := [.int 0, .ref (V.2.2 30)]) (by decide) row_Law_get_0 (e_Rp_get hfl h0) (xE0 V _) rfl yw_Rp_get ml_Law_32 rfl rfl ⟨Nat.le_of_ble_eq_true rfl, Nat.le_of_ble_eq_true rfl⟩ rfl rfl (Nat.le_of_ble_eq_true rfl) d_Law_get_7 ⟨Nat.le_of_ble_eq_true rfl, Nat.le_of_ble_eq_true rfl⟩ (fun H q hI => ?_)
    refine lv_astore (lv' := [(5, .ref q), (0, .ref (V.2.2 0)), (1, .int x1), (2, .int x2), (3, .int x3), (4, .ref (V.2.2 30))]) hx hb d_Law_get_22 hl (by decide) rfl (fun ls hl => ?_)
    refine lv_iconst (v := 1) hx hb d_Law_get_24 (by decide) ?_
    exact x_hret C hlocks hr hI (Nat.le_of_ble_eq_true rfl) (Nat.le_of_ble_eq_true rfl) h d_Law_get_25
  · refine x_tcatch C hI hX hhs (ns := ["java/lang/IndexOutOfBoundsException", "java/lang/IllegalStateException"]) (hp := 26) hl.1 (d := 0) (As := [.int x1, .int x2, .int x3]) (rest := [.int 0, .ref (V.2.2 30)]) (by decide) row_Law_get_1 (e_Rp_get hfl h0) (xE0 V _) rfl yw_Rp_get ml_Law_32 rfl rfl ⟨Nat.le_of_ble_eq_true rfl, Nat.le_of_ble_eq_true rfl⟩ rfl rfl (Nat.le_of_ble_eq_true rfl) d_Law_get_7 ⟨Nat.le_of_ble_eq_true rfl, Nat.le_of_ble_eq_true rfl⟩ (fun H q hI => ?_)
    refine lv_astore (lv' := [(5, .ref q), (0, .ref (V.2.2 0)), (1, .int x1), (2, .int x2), (3, .int x3), (4, .ref (V.2.2 30))]) hx hb d_Law_get_26 hl (by decide) rfl (fun ls hl => ?_)
    refine lv_iconst (v := 2) hx hb d_Law_get_28 (by decide) ?_
    exact x_hret C hlocks hr hI (Nat.le_of_ble_eq_true rfl) (Nat.le_of_ble_eq_true rfl) h d_Law_get_29
def y_Law_put : MethodName := ⟨"RegionPoolLaw", "put", "(LRegionPool;III[J)I"⟩
abbrev cd_Law_put : ByteArray := method_9_code
theorem yw_Rp_put : xY y_Rp_put cd_Rp_put 5 (some .int) 3 := ⟨xG_mem 809 (by decide +kernel) (by decide +kernel), xG_mem 810 (by decide +kernel) (by decide +kernel), xG_mem 54 (by decide +kernel) (by decide +kernel), xG_mem 811 (by decide +kernel) (by decide +kernel), by decide, by decide, by decide +kernel⟩
theorem ml_Law_38 : Cond.methodLink R_Law 38 y_Rp_put ∈ xG := xG_mem 808 (by decide +kernel) (by decide +kernel)
theorem row_Law_put_0 : xRowOf R_Law 7 "java/lang/IndexOutOfBoundsException" 15 [(0, 12, 15, 19), (0, 12, 19, 36)] ["java/lang/IndexOutOfBoundsException", "java/lang/IllegalStateException"] := ⟨by decide, by decide, by decide, xG_mem 684 (by decide +kernel) (by decide +kernel), Or.inl ⟨rfl, by decide, rfl⟩⟩
theorem row_Law_put_1 : xRowOf R_Law 7 "java/lang/IllegalStateException" 19 [(0, 12, 15, 19), (0, 12, 19, 36)] ["java/lang/IndexOutOfBoundsException", "java/lang/IllegalStateException"] := ⟨by decide, by decide, by decide, xG_mem 684 (by decide +kernel) (by decide +kernel), Or.inr ⟨by decide, ⟨by decide, by decide, by decide, xG_mem 774 (by decide +kernel) (by decide +kernel), Or.inl ⟨rfl, by decide, rfl⟩⟩⟩⟩
def p_Law_put (x1 x2 x3 : Int32) (σ : xS) (Q : Int32 → xS → Prop) : Prop :=
  (p_Rp_put x1 x2 x3 σ (fun r2 σ1 => (vp_in 0 1 ∧ Q 0 (xul σ1 30 (0 : Int32).toNatClampNeg r2.toInt64))) ∨ (q_Rp_put x1 x2 x3 σ "java/lang/IndexOutOfBoundsException" ∧ Q 1 σ) ∨ (q_Rp_put x1 x2 x3 σ "java/lang/IllegalStateException" ∧ Q 2 σ))
abbrev rm_Law_put : Room := { frames := 8, cells := 1, slots := 6, locals := 127 }
theorem d_Law_put_0 : decode cd_Law_put 0 = .ok (.aload 4, 2) := by decide +kernel
theorem d_Law_put_2 : decode cd_Law_put 2 = .ok (.iconst 0, 1) := by decide +kernel
theorem d_Law_put_3 : decode cd_Law_put 3 = .ok (.aload_n 0, 1) := by decide +kernel
theorem d_Law_put_4 : decode cd_Law_put 4 = .ok (.iload_n 1, 1) := by decide +kernel
theorem d_Law_put_5 : decode cd_Law_put 5 = .ok (.iload_n 2, 1) := by decide +kernel
theorem d_Law_put_6 : decode cd_Law_put 6 = .ok (.iload_n 3, 1) := by decide +kernel
theorem d_Law_put_7 : decode cd_Law_put 7 = .ok (.invokevirtual 38, 3) := by decide +kernel
theorem d_Law_put_10 : decode cd_Law_put 10 = .ok (.i2l, 1) := by decide +kernel
theorem d_Law_put_11 : decode cd_Law_put 11 = .ok (.lastore, 1) := by decide +kernel
theorem d_Law_put_12 : decode cd_Law_put 12 = .ok (.goto 11, 3) := by decide +kernel
theorem d_Law_put_15 : decode cd_Law_put 15 = .ok (.astore 5, 2) := by decide +kernel
theorem d_Law_put_17 : decode cd_Law_put 17 = .ok (.iconst 1, 1) := by decide +kernel
theorem d_Law_put_18 : decode cd_Law_put 18 = .ok (.ireturn, 1) := by decide +kernel
theorem d_Law_put_19 : decode cd_Law_put 19 = .ok (.astore 5, 2) := by decide +kernel
theorem d_Law_put_21 : decode cd_Law_put 21 = .ok (.iconst 2, 1) := by decide +kernel
theorem d_Law_put_22 : decode cd_Law_put 22 = .ok (.ireturn, 1) := by decide +kernel
theorem d_Law_put_23 : decode cd_Law_put 23 = .ok (.iconst 0, 1) := by decide +kernel
theorem d_Law_put_24 : decode cd_Law_put 24 = .ok (.ireturn, 1) := by decide +kernel
set_option maxRecDepth 100000 in
set_option maxHeartbeats 4000000 in
theorem c_Law_put {l : Launch} (hfl : l.flags = flags0) {V : xV} {σ : xS} {x1 x2 x3 : Int32} {Q : Int32 → xS → Prop} (h : p_Law_put x1 x2 x3 σ Q) : xMh l y_Law_put (.codeWith y_Law_put cd_Law_put 6 (some .int) [(0, 12, 15, 19), (0, 12, 19, 36)] :: xG) rm_Law_put V [.ref (V.2.2 0), .int x1, .int x2, .int x3, .ref (V.2.2 30)] σ Q := by
  refine x_beginh (by decide) (Nat.le_of_ble_eq_true rfl) (fun p e s m below meth c ls C hlocks hr hhs hI hX hl => ?_)
  have C : xC p s m _ c cd_Law_put 6 R_Law V := C
  have hx := C.1
  have hb := C.2.1
  have hl : lv_has ls 6 [(0, .ref (V.2.2 0)), (1, .int x1), (2, .int x2), (3, .int x3), (4, .ref (V.2.2 30))] := hl
  unfold p_Law_put at h
  refine lv_aload hx hb d_Law_put_0 (lv_at hl 4 rfl) ?_
  refine lv_iconst (v := 0) hx hb d_Law_put_2 (by decide) ?_
  refine lv_aload_n hx hb d_Law_put_3 rfl (lv_at hl 0 rfl) ?_
  refine lv_iload_n hx hb d_Law_put_4 rfl (lv_at hl 1 rfl) ?_
  refine lv_iload_n hx hb d_Law_put_5 rfl (lv_at hl 2 rfl) ?_
  refine lv_iload_n hx hb d_Law_put_6 rfl (lv_at hl 3 rfl) ?_
  rcases h with h | ⟨h0, h⟩ | ⟨h0, h⟩
  · refine x_calli C hI hl.1 (d := 0) (As := [.int x1, .int x2, .int x3]) (rest := [.int 0, .ref (V.2.2 30)]) (by decide) (c_Rp_put h) (xE0 V _) rfl yw_Rp_put ml_Law_38 rfl rfl ⟨Nat.le_of_ble_eq_true rfl, Nat.le_of_ble_eq_true rfl⟩ rfl rfl (Nat.le_of_ble_eq_true rfl) d_Law_put_7 ⟨Nat.zero_le _, Nat.zero_le _⟩ (fun r2 σ1 H locs h hI => ?_)
    refine lv_i2l (v := r2.toInt64) hx hb d_Law_put_10 rfl ?_
    obtain ⟨i3, h⟩ := h
    refine x_last C hI (d := 30) (by decide) (xE30 V) i3 d_Law_put_11 (fun H locs hI => ?_)
    refine lv_goto (tgt := 23) hx hb d_Law_put_12 (by decide) ?_
    refine lv_iconst (v := 0) hx hb d_Law_put_23 (by decide) ?_
    exact x_hret C hlocks hr hI (Nat.le_of_ble_eq_true rfl) (Nat.le_of_ble_eq_true rfl) h d_Law_put_24
  · refine x_tcatch C hI hX hhs (ns := ["java/lang/IndexOutOfBoundsException", "java/lang/IllegalStateException"]) (hp := 15) hl.1 (d := 0) (As := [.int x1, .int x2, .int x3]) (rest := [.int 0, .ref (V.2.2 30)]) (by decide) row_Law_put_0 (e_Rp_put hfl h0) (xE0 V _) rfl yw_Rp_put ml_Law_38 rfl rfl ⟨Nat.le_of_ble_eq_true rfl, Nat.le_of_ble_eq_true rfl⟩ rfl rfl (Nat.le_of_ble_eq_true rfl) d_Law_put_7 ⟨Nat.le_of_ble_eq_true rfl, Nat.le_of_ble_eq_true rfl⟩ (fun H q hI => ?_)
    refine lv_astore (lv' := [(5, .ref q), (0, .ref (V.2.2 0)), (1, .int x1), (2, .int x2), (3, .int x3), (4, .ref (V.2.2 30))]) hx hb d_Law_put_15 hl (by decide) rfl (fun ls hl => ?_)
    refine lv_iconst (v := 1) hx hb d_Law_put_17 (by decide) ?_
    exact x_hret C hlocks hr hI (Nat.le_of_ble_eq_true rfl) (Nat.le_of_ble_eq_true rfl) h d_Law_put_18
  · refine x_tcatch C hI hX hhs (ns := ["java/lang/IndexOutOfBoundsException", "java/lang/IllegalStateException"]) (hp := 19) hl.1 (d := 0) (As := [.int x1, .int x2, .int x3]) (rest := [.int 0, .ref (V.2.2 30)]) (by decide) row_Law_put_1 (e_Rp_put hfl h0) (xE0 V _) rfl yw_Rp_put ml_Law_38 rfl rfl ⟨Nat.le_of_ble_eq_true rfl, Nat.le_of_ble_eq_true rfl⟩ rfl rfl (Nat.le_of_ble_eq_true rfl) d_Law_put_7 ⟨Nat.le_of_ble_eq_true rfl, Nat.le_of_ble_eq_true rfl⟩ (fun H q hI => ?_)
    refine lv_astore (lv' := [(5, .ref q), (0, .ref (V.2.2 0)), (1, .int x1), (2, .int x2), (3, .int x3), (4, .ref (V.2.2 30))]) hx hb d_Law_put_19 hl (by decide) rfl (fun ls hl => ?_)
    refine lv_iconst (v := 2) hx hb d_Law_put_21 (by decide) ?_
    exact x_hret C hlocks hr hI (Nat.le_of_ble_eq_true rfl) (Nat.le_of_ble_eq_true rfl) h d_Law_put_22
def y_Law_lift : MethodName := ⟨"RegionPoolLaw", "lift", "(LRegionPool;II[J)I"⟩
abbrev cd_Law_lift : ByteArray := method_10_code
theorem yw_Rp_lift : xY y_Rp_lift cd_Rp_lift 3 (some .int) 2 := ⟨xG_mem 818 (by decide +kernel) (by decide +kernel), xG_mem 819 (by decide +kernel) (by decide +kernel), xG_mem 54 (by decide +kernel) (by decide +kernel), xG_mem 820 (by decide +kernel) (by decide +kernel), by decide, by decide, by decide +kernel⟩
theorem ml_Law_42 : Cond.methodLink R_Law 42 y_Rp_lift ∈ xG := xG_mem 817 (by decide +kernel) (by decide +kernel)
theorem row_Law_lift_0 : xRowOf R_Law 5 "java/lang/IndexOutOfBoundsException" 13 [(0, 10, 13, 19), (0, 10, 17, 13)] ["java/lang/IndexOutOfBoundsException", "java/lang/IllegalArgumentException"] := ⟨by decide, by decide, by decide, xG_mem 684 (by decide +kernel) (by decide +kernel), Or.inl ⟨rfl, by decide, rfl⟩⟩
theorem row_Law_lift_1 : xRowOf R_Law 5 "java/lang/IllegalArgumentException" 17 [(0, 10, 13, 19), (0, 10, 17, 13)] ["java/lang/IndexOutOfBoundsException", "java/lang/IllegalArgumentException"] := ⟨by decide, by decide, by decide, xG_mem 684 (by decide +kernel) (by decide +kernel), Or.inr ⟨by decide, ⟨by decide, by decide, by decide, xG_mem 458 (by decide +kernel) (by decide +kernel), Or.inl ⟨rfl, by decide, rfl⟩⟩⟩⟩
def p_Law_lift (x1 x2 : Int32) (σ : xS) (Q : Int32 → xS → Prop) : Prop :=
  (p_Rp_lift x1 x2 σ (fun r2 σ1 => (vp_in 0 1 ∧ Q 0 (xul σ1 30 (0 : Int32).toNatClampNeg r2.toInt64))) ∨ (q_Rp_lift x1 x2 σ "java/lang/IndexOutOfBoundsException" ∧ Q 1 σ) ∨ (q_Rp_lift x1 x2 σ "java/lang/IllegalArgumentException" ∧ Q 2 σ))
abbrev rm_Law_lift : Room := { frames := 8, cells := 1, slots := 6, locals := 136 }
theorem d_Law_lift_0 : decode cd_Law_lift 0 = .ok (.aload_n 3, 1) := by decide +kernel
theorem d_Law_lift_1 : decode cd_Law_lift 1 = .ok (.iconst 0, 1) := by decide +kernel
theorem d_Law_lift_2 : decode cd_Law_lift 2 = .ok (.aload_n 0, 1) := by decide +kernel
theorem d_Law_lift_3 : decode cd_Law_lift 3 = .ok (.iload_n 1, 1) := by decide +kernel
theorem d_Law_lift_4 : decode cd_Law_lift 4 = .ok (.iload_n 2, 1) := by decide +kernel
theorem d_Law_lift_5 : decode cd_Law_lift 5 = .ok (.invokevirtual 42, 3) := by decide +kernel
theorem d_Law_lift_8 : decode cd_Law_lift 8 = .ok (.i2l, 1) := by decide +kernel
theorem d_Law_lift_9 : decode cd_Law_lift 9 = .ok (.lastore, 1) := by decide +kernel
theorem d_Law_lift_10 : decode cd_Law_lift 10 = .ok (.goto 11, 3) := by decide +kernel
theorem d_Law_lift_13 : decode cd_Law_lift 13 = .ok (.astore 4, 2) := by decide +kernel
theorem d_Law_lift_15 : decode cd_Law_lift 15 = .ok (.iconst 1, 1) := by decide +kernel
theorem d_Law_lift_16 : decode cd_Law_lift 16 = .ok (.ireturn, 1) := by decide +kernel
theorem d_Law_lift_17 : decode cd_Law_lift 17 = .ok (.astore 4, 2) := by decide +kernel
theorem d_Law_lift_19 : decode cd_Law_lift 19 = .ok (.iconst 2, 1) := by decide +kernel
theorem d_Law_lift_20 : decode cd_Law_lift 20 = .ok (.ireturn, 1) := by decide +kernel
theorem d_Law_lift_21 : decode cd_Law_lift 21 = .ok (.iconst 0, 1) := by decide +kernel
theorem d_Law_lift_22 : decode cd_Law_lift 22 = .ok (.ireturn, 1) := by decide +kernel
set_option maxRecDepth 100000 in
set_option maxHeartbeats 4000000 in
theorem c_Law_lift {l : Launch} (hfl : l.flags = flags0) {V : xV} {σ : xS} {x1 x2 : Int32} {Q : Int32 → xS → Prop} (h : p_Law_lift x1 x2 σ Q) : xMh l y_Law_lift (.codeWith y_Law_lift cd_Law_lift 5 (some .int) [(0, 10, 13, 19), (0, 10, 17, 13)] :: xG) rm_Law_lift V [.ref (V.2.2 0), .int x1, .int x2, .ref (V.2.2 30)] σ Q := by
  refine x_beginh (by decide) (Nat.le_of_ble_eq_true rfl) (fun p e s m below meth c ls C hlocks hr hhs hI hX hl => ?_)
  have C : xC p s m _ c cd_Law_lift 5 R_Law V := C
  have hx := C.1
  have hb := C.2.1
  have hl : lv_has ls 5 [(0, .ref (V.2.2 0)), (1, .int x1), (2, .int x2), (3, .ref (V.2.2 30))] := hl
  unfold p_Law_lift at h
  refine lv_aload_n hx hb d_Law_lift_0 rfl (lv_at hl 3 rfl) ?_
  refine lv_iconst (v := 0) hx hb d_Law_lift_1 (by decide) ?_
  refine lv_aload_n hx hb d_Law_lift_2 rfl (lv_at hl 0 rfl) ?_
  refine lv_iload_n hx hb d_Law_lift_3 rfl (lv_at hl 1 rfl) ?_
  refine lv_iload_n hx hb d_Law_lift_4 rfl (lv_at hl 2 rfl) ?_
  rcases h with h | ⟨h0, h⟩ | ⟨h0, h⟩
  · refine x_calli C hI hl.1 (d := 0) (As := [.int x1, .int x2]) (rest := [.int 0, .ref (V.2.2 30)]) (by decide) (c_Rp_lift h) (xE0 V _) rfl yw_Rp_lift ml_Law_42 rfl rfl ⟨Nat.le_of_ble_eq_true rfl, Nat.le_of_ble_eq_true rfl⟩ rfl rfl (Nat.le_of_ble_eq_true rfl) d_Law_lift_5 ⟨Nat.zero_le _, Nat.zero_le _⟩ (fun r2 σ1 H locs h hI => ?_)
    refine lv_i2l (v := r2.toInt64) hx hb d_Law_lift_8 rfl ?_
    obtain ⟨i3, h⟩ := h
    refine x_last C hI (d := 30) (by decide) (xE30 V) i3 d_Law_lift_9 (fun H locs hI => ?_)
    refine lv_goto (tgt := 21) hx hb d_Law_lift_10 (by decide) ?_
    refine lv_iconst (v := 0) hx hb d_Law_lift_21 (by decide) ?_
    exact x_hret C hlocks hr hI (Nat.le_of_ble_eq_true rfl) (Nat.le_of_ble_eq_true rfl) h d_Law_lift_22
  · refine x_tcatch C hI hX hhs (ns := ["java/lang/IndexOutOfBoundsException", "java/lang/IllegalArgumentException"]) (hp := 13) hl.1 (d := 0) (As := [.int x1, .int x2]) (rest := [.int 0, .ref (V.2.2 30)]) (by decide) row_Law_lift_0 (e_Rp_lift hfl h0) (xE0 V _) rfl yw_Rp_lift ml_Law_42 rfl rfl ⟨Nat.le_of_ble_eq_true rfl, Nat.le_of_ble_eq_true rfl⟩ rfl rfl (Nat.le_of_ble_eq_true rfl) d_Law_lift_5 ⟨Nat.le_of_ble_eq_true rfl, Nat.le_of_ble_eq_true rfl⟩ (fun H q hI => ?_)
    refine lv_astore (lv' := [(4, .ref q), (0, .ref (V.2.2 0)), (1, .int x1), (2, .int x2), (3, .ref (V.2.2 30))]) hx hb d_Law_lift_13 hl (by decide) rfl (fun ls hl => ?_)
    refine lv_iconst (v := 1) hx hb d_Law_lift_15 (by decide) ?_
    exact x_hret C hlocks hr hI (Nat.le_of_ble_eq_true rfl) (Nat.le_of_ble_eq_true rfl) h d_Law_lift_16
  · refine x_tcatch C hI hX hhs (ns := ["java/lang/IndexOutOfBoundsException", "java/lang/IllegalArgumentException"]) (hp := 17) hl.1 (d := 0) (As := [.int x1, .int x2]) (rest := [.int 0, .ref (V.2.2 30)]) (by decide) row_Law_lift_1 (e_Rp_lift hfl h0) (xE0 V _) rfl yw_Rp_lift ml_Law_42 rfl rfl ⟨Nat.le_of_ble_eq_true rfl, Nat.le_of_ble_eq_true rfl⟩ rfl rfl (Nat.le_of_ble_eq_true rfl) d_Law_lift_5 ⟨Nat.le_of_ble_eq_true rfl, Nat.le_of_ble_eq_true rfl⟩ (fun H q hI => ?_)
    refine lv_astore (lv' := [(4, .ref q), (0, .ref (V.2.2 0)), (1, .int x1), (2, .int x2), (3, .ref (V.2.2 30))]) hx hb d_Law_lift_17 hl (by decide) rfl (fun ls hl => ?_)
    refine lv_iconst (v := 2) hx hb d_Law_lift_19 (by decide) ?_
    exact x_hret C hlocks hr hI (Nat.le_of_ble_eq_true rfl) (Nat.le_of_ble_eq_true rfl) h d_Law_lift_20
def y_Law_copy : MethodName := ⟨"RegionPoolLaw", "copy", "(LRegionPool;III[J)I"⟩
abbrev cd_Law_copy : ByteArray := method_11_code
theorem yw_Rp_copy : xY y_Rp_copy cd_Rp_copy 4 (some .int) 3 := ⟨xG_mem 871 (by decide +kernel) (by decide +kernel), xG_mem 872 (by decide +kernel) (by decide +kernel), xG_mem 54 (by decide +kernel) (by decide +kernel), xG_mem 873 (by decide +kernel) (by decide +kernel), by decide, by decide, by decide +kernel⟩
theorem ml_Law_46 : Cond.methodLink R_Law 46 y_Rp_copy ∈ xG := xG_mem 870 (by decide +kernel) (by decide +kernel)
theorem row_Law_copy_0 : xRowOf R_Law 7 "java/lang/IndexOutOfBoundsException" 15 [(0, 12, 15, 19), (0, 12, 19, 13)] ["java/lang/IndexOutOfBoundsException", "java/lang/IllegalArgumentException"] := ⟨by decide, by decide, by decide, xG_mem 684 (by decide +kernel) (by decide +kernel), Or.inl ⟨rfl, by decide, rfl⟩⟩
theorem row_Law_copy_1 : xRowOf R_Law 7 "java/lang/IllegalArgumentException" 19 [(0, 12, 15, 19), (0, 12, 19, 13)] ["java/lang/IndexOutOfBoundsException", "java/lang/IllegalArgumentException"] := ⟨by decide, by decide, by decide, xG_mem 684 (by decide +kernel) (by decide +kernel), Or.inr ⟨by decide, ⟨by decide, by decide, by decide, xG_mem 458 (by decide +kernel) (by decide +kernel), Or.inl ⟨rfl, by decide, rfl⟩⟩⟩⟩
def p_Law_copy (x1 x2 x3 : Int32) (σ : xS) (Q : Int32 → xS → Prop) : Prop :=
  (p_Rp_copy x1 x2 x3 σ (fun r2 σ1 => (vp_in 0 1 ∧ Q 0 (xul σ1 30 (0 : Int32).toNatClampNeg r2.toInt64))) ∨ (q_Rp_copy x1 x2 x3 σ "java/lang/IndexOutOfBoundsException" ∧ Q 1 σ) ∨ (q_Rp_copy x1 x2 x3 σ "java/lang/IllegalArgumentException" ∧ Q 2 σ))
abbrev rm_Law_copy : Room := { frames := 8, cells := 1, slots := 6, locals := 137 }
theorem d_Law_copy_0 : decode cd_Law_copy 0 = .ok (.aload 4, 2) := by decide +kernel
theorem d_Law_copy_2 : decode cd_Law_copy 2 = .ok (.iconst 0, 1) := by decide +kernel
theorem d_Law_copy_3 : decode cd_Law_copy 3 = .ok (.aload_n 0, 1) := by decide +kernel
theorem d_Law_copy_4 : decode cd_Law_copy 4 = .ok (.iload_n 1, 1) := by decide +kernel
theorem d_Law_copy_5 : decode cd_Law_copy 5 = .ok (.iload_n 2, 1) := by decide +kernel
theorem d_Law_copy_6 : decode cd_Law_copy 6 = .ok (.iload_n 3, 1) := by decide +kernel
theorem d_Law_copy_7 : decode cd_Law_copy 7 = .ok (.invokevirtual 46, 3) := by decide +kernel
theorem d_Law_copy_10 : decode cd_Law_copy 10 = .ok (.i2l, 1) := by decide +kernel
theorem d_Law_copy_11 : decode cd_Law_copy 11 = .ok (.lastore, 1) := by decide +kernel
theorem d_Law_copy_12 : decode cd_Law_copy 12 = .ok (.goto 11, 3) := by decide +kernel
theorem d_Law_copy_15 : decode cd_Law_copy 15 = .ok (.astore 5, 2) := by decide +kernel
theorem d_Law_copy_17 : decode cd_Law_copy 17 = .ok (.iconst 1, 1) := by decide +kernel
theorem d_Law_copy_18 : decode cd_Law_copy 18 = .ok (.ireturn, 1) := by decide +kernel
theorem d_Law_copy_19 : decode cd_Law_copy 19 = .ok (.astore 5, 2) := by decide +kernel
theorem d_Law_copy_21 : decode cd_Law_copy 21 = .ok (.iconst 2, 1) := by decide +kernel
theorem d_Law_copy_22 : decode cd_Law_copy 22 = .ok (.ireturn, 1) := by decide +kernel
theorem d_Law_copy_23 : decode cd_Law_copy 23 = .ok (.iconst 0, 1) := by decide +kernel
theorem d_Law_copy_24 : decode cd_Law_copy 24 = .ok (.ireturn, 1) := by decide +kernel
set_option maxRecDepth 100000 in
set_option maxHeartbeats 4000000 in
theorem c_Law_copy {l : Launch} (hfl : l.flags = flags0) {V : xV} {σ : xS} {x1 x2 x3 : Int32} {Q : Int32 → xS → Prop} (h : p_Law_copy x1 x2 x3 σ Q) : xMh l y_Law_copy (.codeWith y_Law_copy cd_Law_copy 6 (some .int) [(0, 12, 15, 19), (0, 12, 19, 13)] :: xG) rm_Law_copy V [.ref (V.2.2 0), .int x1, .int x2, .int x3, .ref (V.2.2 30)] σ Q := by
  refine x_beginh (by decide) (Nat.le_of_ble_eq_true rfl) (fun p e s m below meth c ls C hlocks hr hhs hI hX hl => ?_)
  have C : xC p s m _ c cd_Law_copy 6 R_Law V := C
  have hx := C.1
  have hb := C.2.1
  have hl : lv_has ls 6 [(0, .ref (V.2.2 0)), (1, .int x1), (2, .int x2), (3, .int x3), (4, .ref (V.2.2 30))] := hl
  unfold p_Law_copy at h
  refine lv_aload hx hb d_Law_copy_0 (lv_at hl 4 rfl) ?_
  refine lv_iconst (v := 0) hx hb d_Law_copy_2 (by decide) ?_
  refine lv_aload_n hx hb d_Law_copy_3 rfl (lv_at hl 0 rfl) ?_
  refine lv_iload_n hx hb d_Law_copy_4 rfl (lv_at hl 1 rfl) ?_
  refine lv_iload_n hx hb d_Law_copy_5 rfl (lv_at hl 2 rfl) ?_
  refine lv_iload_n hx hb d_Law_copy_6 rfl (lv_at hl 3 rfl) ?_
  rcases h with h | ⟨h0, h⟩ | ⟨h0, h⟩
  · refine x_calli C hI hl.1 (d := 0) (As := [.int x1, .int x2, .int x3]) (rest := [.int 0, .ref (V.2.2 30)]) (by decide) (c_Rp_copy h) (xE0 V _) rfl yw_Rp_copy ml_Law_46 rfl rfl ⟨Nat.le_of_ble_eq_true rfl, Nat.le_of_ble_eq_true rfl⟩ rfl rfl (Nat.le_of_ble_eq_true rfl) d_Law_copy_7 ⟨Nat.zero_le _, Nat.zero_le _⟩ (fun r2 σ1 H locs h hI => ?_)
    refine lv_i2l (v := r2.toInt64) hx hb d_Law_copy_10 rfl ?_
    obtain ⟨i3, h⟩ := h
    refine x_last C hI (d := 30) (by decide) (xE30 V) i3 d_Law_copy_11 (fun H locs hI => ?_)
    refine lv_goto (tgt := 23) hx hb d_Law_copy_12 (by decide) ?_
    refine lv_iconst (v := 0) hx hb d_Law_copy_23 (by decide) ?_
    exact x_hret C hlocks hr hI (Nat.le_of_ble_eq_true rfl) (Nat.le_of_ble_eq_true rfl) h d_Law_copy_24
  · refine x_tcatch C hI hX hhs (ns := ["java/lang/IndexOutOfBoundsException", "java/lang/IllegalArgumentException"]) (hp := 15) hl.1 (d := 0) (As := [.int x1, .int x2, .int x3]) (rest := [.int 0, .ref (V.2.2 30)]) (by decide) row_Law_copy_0 (e_Rp_copy hfl h0) (xE0 V _) rfl yw_Rp_copy ml_Law_46 rfl rfl ⟨Nat.le_of_ble_eq_true rfl, Nat.le_of_ble_eq_true rfl⟩ rfl rfl (Nat.le_of_ble_eq_true rfl) d_Law_copy_7 ⟨Nat.le_of_ble_eq_true rfl, Nat.le_of_ble_eq_true rfl⟩ (fun H q hI => ?_)
    refine lv_astore (lv' := [(5, .ref q), (0, .ref (V.2.2 0)), (1, .int x1), (2, .int x2), (3, .int x3), (4, .ref (V.2.2 30))]) hx hb d_Law_copy_15 hl (by decide) rfl (fun ls hl => ?_)
    refine lv_iconst (v := 1) hx hb d_Law_copy_17 (by decide) ?_
    exact x_hret C hlocks hr hI (Nat.le_of_ble_eq_true rfl) (Nat.le_of_ble_eq_true rfl) h d_Law_copy_18
  · refine x_tcatch C hI hX hhs (ns := ["java/lang/IndexOutOfBoundsException", "java/lang/IllegalArgumentException"]) (hp := 19) hl.1 (d := 0) (As := [.int x1, .int x2, .int x3]) (rest := [.int 0, .ref (V.2.2 30)]) (by decide) row_Law_copy_1 (e_Rp_copy hfl h0) (xE0 V _) rfl yw_Rp_copy ml_Law_46 rfl rfl ⟨Nat.le_of_ble_eq_true rfl, Nat.le_of_ble_eq_true rfl⟩ rfl rfl (Nat.le_of_ble_eq_true rfl) d_Law_copy_7 ⟨Nat.le_of_ble_eq_true rfl, Nat.le_of_ble_eq_true rfl⟩ (fun H q hI => ?_)
    refine lv_astore (lv' := [(5, .ref q), (0, .ref (V.2.2 0)), (1, .int x1), (2, .int x2), (3, .int x3), (4, .ref (V.2.2 30))]) hx hb d_Law_copy_19 hl (by decide) rfl (fun ls hl => ?_)
    refine lv_iconst (v := 2) hx hb d_Law_copy_21 (by decide) ?_
    exact x_hret C hlocks hr hI (Nat.le_of_ble_eq_true rfl) (Nat.le_of_ble_eq_true rfl) h d_Law_copy_22
def y_Law_watch : MethodName := ⟨"RegionPoolLaw", "watch", "(LRegionPool;I[J)I"⟩
abbrev cd_Law_watch : ByteArray := method_12_code
theorem yw_Rp_watch : xY y_Rp_watch cd_Rp_watch 3 (some .boolean) 1 := ⟨xG_mem 897 (by decide +kernel) (by decide +kernel), xG_mem 898 (by decide +kernel) (by decide +kernel), xG_mem 54 (by decide +kernel) (by decide +kernel), xG_mem 899 (by decide +kernel) (by decide +kernel), by decide, by decide, by decide +kernel⟩
theorem ml_Law_49 : Cond.methodLink R_Law 49 y_Rp_watch ∈ xG := xG_mem 896 (by decide +kernel) (by decide +kernel)
theorem row_Law_watch_0 : xRowOf R_Law 4 "java/lang/IndexOutOfBoundsException" 19 [(0, 16, 19, 19), (0, 16, 22, 36)] ["java/lang/IndexOutOfBoundsException", "java/lang/IllegalStateException"] := ⟨by decide, by decide, by decide, xG_mem 684 (by decide +kernel) (by decide +kernel), Or.inl ⟨rfl, by decide, rfl⟩⟩
theorem row_Law_watch_1 : xRowOf R_Law 4 "java/lang/IllegalStateException" 22 [(0, 16, 19, 19), (0, 16, 22, 36)] ["java/lang/IndexOutOfBoundsException", "java/lang/IllegalStateException"] := ⟨by decide, by decide, by decide, xG_mem 684 (by decide +kernel) (by decide +kernel), Or.inr ⟨by decide, ⟨by decide, by decide, by decide, xG_mem 774 (by decide +kernel) (by decide +kernel), Or.inl ⟨rfl, by decide, rfl⟩⟩⟩⟩
def p_Law_watch (x1 : Int32) (σ : xS) (Q : Int32 → xS → Prop) : Prop :=
  (p_Rp_watch x1 σ (fun r2 σ1 => ((r2 = 0 → (vp_in 0 1 ∧ Q 0 (xul σ1 30 (0 : Int32).toNatClampNeg 0))) ∧ (¬ r2 = 0 → (vp_in 0 1 ∧ Q 0 (xul σ1 30 (0 : Int32).toNatClampNeg 1))))) ∨ (q_Rp_watch x1 σ "java/lang/IndexOutOfBoundsException" ∧ Q 1 σ) ∨ (q_Rp_watch x1 σ "java/lang/IllegalStateException" ∧ Q 2 σ))
abbrev rm_Law_watch : Room := { frames := 8, cells := 1, slots := 6, locals := 125 }
theorem d_Law_watch_0 : decode cd_Law_watch 0 = .ok (.aload_n 2, 1) := by decide +kernel
theorem d_Law_watch_1 : decode cd_Law_watch 1 = .ok (.iconst 0, 1) := by decide +kernel
theorem d_Law_watch_2 : decode cd_Law_watch 2 = .ok (.aload_n 0, 1) := by decide +kernel
theorem d_Law_watch_3 : decode cd_Law_watch 3 = .ok (.iload_n 1, 1) := by decide +kernel
theorem d_Law_watch_4 : decode cd_Law_watch 4 = .ok (.invokevirtual 49, 3) := by decide +kernel
theorem d_Law_watch_7 : decode cd_Law_watch 7 = .ok (.ifCond .eq 7, 3) := by decide +kernel
theorem d_Law_watch_10 : decode cd_Law_watch 10 = .ok (.lconst 1, 1) := by decide +kernel
theorem d_Law_watch_11 : decode cd_Law_watch 11 = .ok (.goto 4, 3) := by decide +kernel
theorem d_Law_watch_14 : decode cd_Law_watch 14 = .ok (.lconst 0, 1) := by decide +kernel
theorem d_Law_watch_15 : decode cd_Law_watch 15 = .ok (.lastore, 1) := by decide +kernel
theorem d_Law_watch_16 : decode cd_Law_watch 16 = .ok (.goto 9, 3) := by decide +kernel
theorem d_Law_watch_19 : decode cd_Law_watch 19 = .ok (.astore_n 3, 1) := by decide +kernel
theorem d_Law_watch_20 : decode cd_Law_watch 20 = .ok (.iconst 1, 1) := by decide +kernel
theorem d_Law_watch_21 : decode cd_Law_watch 21 = .ok (.ireturn, 1) := by decide +kernel
theorem d_Law_watch_22 : decode cd_Law_watch 22 = .ok (.astore_n 3, 1) := by decide +kernel
theorem d_Law_watch_23 : decode cd_Law_watch 23 = .ok (.iconst 2, 1) := by decide +kernel
theorem d_Law_watch_24 : decode cd_Law_watch 24 = .ok (.ireturn, 1) := by decide +kernel
theorem d_Law_watch_25 : decode cd_Law_watch 25 = .ok (.iconst 0, 1) := by decide +kernel
theorem d_Law_watch_26 : decode cd_Law_watch 26 = .ok (.ireturn, 1) := by decide +kernel
set_option maxRecDepth 100000 in
set_option maxHeartbeats 4000000 in
theorem c_Law_watch {l : Launch} (hfl : l.flags = flags0) {V : xV} {σ : xS} {x1 : Int32} {Q : Int32 → xS → Prop} (h : p_Law_watch x1 σ Q) : xMh l y_Law_watch (.codeWith y_Law_watch cd_Law_watch 4 (some .int) [(0, 16, 19, 19), (0, 16, 22, 36)] :: xG) rm_Law_watch V [.ref (V.2.2 0), .int x1, .ref (V.2.2 30)] σ Q := by
  refine x_beginh (by decide) (Nat.le_of_ble_eq_true rfl) (fun p e s m below meth c ls C hlocks hr hhs hI hX hl => ?_)
  have C : xC p s m _ c cd_Law_watch 4 R_Law V := C
  have hx := C.1
  have hb := C.2.1
  have hl : lv_has ls 4 [(0, .ref (V.2.2 0)), (1, .int x1), (2, .ref (V.2.2 30))] := hl
  unfold p_Law_watch at h
  refine lv_aload_n hx hb d_Law_watch_0 rfl (lv_at hl 2 rfl) ?_
  refine lv_iconst (v := 0) hx hb d_Law_watch_1 (by decide) ?_
  refine lv_aload_n hx hb d_Law_watch_2 rfl (lv_at hl 0 rfl) ?_
  refine lv_iload_n hx hb d_Law_watch_3 rfl (lv_at hl 1 rfl) ?_
  rcases h with h | ⟨h0, h⟩ | ⟨h0, h⟩
  · refine x_calli C hI hl.1 (d := 0) (As := [.int x1]) (rest := [.int 0, .ref (V.2.2 30)]) (by decide) (c_Rp_watch h) (xE0 V _) rfl yw_Rp_watch ml_Law_49 rfl rfl ⟨Nat.le_of_ble_eq_true rfl, Nat.le_of_ble_eq_true rfl⟩ rfl rfl (Nat.le_of_ble_eq_true rfl) d_Law_watch_4 ⟨Nat.zero_le _, Nat.zero_le _⟩ (fun r2 σ1 H locs h hI => ?_)
    refine lv_if_eq (tgt := 14) hx hb d_Law_watch_7 (by decide) (fun c3 => ?_) (fun c3 => ?_)
    · have h := h.1 c3
      refine lv_lconst (v := 0) hx hb d_Law_watch_14 (by decide) ?_
      obtain ⟨i4, h⟩ := h
      refine x_last C hI (d := 30) (by decide) (xE30 V) i4 d_Law_watch_15 (fun H locs hI => ?_)
      refine lv_goto (tgt := 25) hx hb d_Law_watch_16 (by decide) ?_
      refine lv_iconst (v := 0) hx hb d_Law_watch_25 (by decide) ?_
      exact x_hret C hlocks hr hI (Nat.le_of_ble_eq_true rfl) (Nat.le_of_ble_eq_true rfl) h d_Law_watch_26
    · have h := h.2 c3
      refine lv_lconst (v := 1) hx hb d_Law_watch_10 (by decide) ?_
      refine lv_goto (tgt := 15) hx hb d_Law_watch_11 (by decide) ?_
      obtain ⟨i5, h⟩ := h
      refine x_last C hI (d := 30) (by decide) (xE30 V) i5 d_Law_watch_15 (fun H locs hI => ?_)
      refine lv_goto (tgt := 25) hx hb d_Law_watch_16 (by decide) ?_
      refine lv_iconst (v := 0) hx hb d_Law_watch_25 (by decide) ?_
      exact x_hret C hlocks hr hI (Nat.le_of_ble_eq_true rfl) (Nat.le_of_ble_eq_true rfl) h d_Law_watch_26
  · refine x_tcatch C hI hX hhs (ns := ["java/lang/IndexOutOfBoundsException", "java/lang/IllegalStateException"]) (hp := 19) hl.1 (d := 0) (As := [.int x1]) (rest := [.int 0, .ref (V.2.2 30)]) (by decide) row_Law_watch_0 (e_Rp_watch hfl h0) (xE0 V _) rfl yw_Rp_watch ml_Law_49 rfl rfl ⟨Nat.le_of_ble_eq_true rfl, Nat.le_of_ble_eq_true rfl⟩ rfl rfl (Nat.le_of_ble_eq_true rfl) d_Law_watch_4 ⟨Nat.le_of_ble_eq_true rfl, Nat.le_of_ble_eq_true rfl⟩ (fun H q hI => ?_)
    refine lv_astore_n (lv' := [(3, .ref q), (0, .ref (V.2.2 0)), (1, .int x1), (2, .ref (V.2.2 30))]) hx hb d_Law_watch_19 rfl hl (by decide) rfl (fun ls hl => ?_)
    refine lv_iconst (v := 1) hx hb d_Law_watch_20 (by decide) ?_
    exact x_hret C hlocks hr hI (Nat.le_of_ble_eq_true rfl) (Nat.le_of_ble_eq_true rfl) h d_Law_watch_21
  · refine x_tcatch C hI hX hhs (ns := ["java/lang/IndexOutOfBoundsException", "java/lang/IllegalStateException"]) (hp := 22) hl.1 (d := 0) (As := [.int x1]) (rest := [.int 0, .ref (V.2.2 30)]) (by decide) row_Law_watch_1 (e_Rp_watch hfl h0) (xE0 V _) rfl yw_Rp_watch ml_Law_49 rfl rfl ⟨Nat.le_of_ble_eq_true rfl, Nat.le_of_ble_eq_true rfl⟩ rfl rfl (Nat.le_of_ble_eq_true rfl) d_Law_watch_4 ⟨Nat.le_of_ble_eq_true rfl, Nat.le_of_ble_eq_true rfl⟩ (fun H q hI => ?_)
    refine lv_astore_n (lv' := [(3, .ref q), (0, .ref (V.2.2 0)), (1, .int x1), (2, .ref (V.2.2 30))]) hx hb d_Law_watch_22 rfl hl (by decide) rfl (fun ls hl => ?_)
    refine lv_iconst (v := 2) hx hb d_Law_watch_23 (by decide) ?_
    exact x_hret C hlocks hr hI (Nat.le_of_ble_eq_true rfl) (Nat.le_of_ble_eq_true rfl) h d_Law_watch_24
def y_Law_due : MethodName := ⟨"RegionPoolLaw", "due", "(LRegionPool;I[J)I"⟩
abbrev cd_Law_due : ByteArray := method_13_code
theorem yw_Rp_due : xY y_Rp_due cd_Rp_due 3 (some .int) 1 := ⟨xG_mem 909 (by decide +kernel) (by decide +kernel), xG_mem 910 (by decide +kernel) (by decide +kernel), xG_mem 54 (by decide +kernel) (by decide +kernel), xG_mem 911 (by decide +kernel) (by decide +kernel), by decide, by decide, by decide +kernel⟩
theorem ml_Law_53 : Cond.methodLink R_Law 53 y_Rp_due ∈ xG := xG_mem 908 (by decide +kernel) (by decide +kernel)
theorem row_Law_due_0 : xRowOf R_Law 4 "java/lang/IndexOutOfBoundsException" 12 [(0, 9, 12, 19)] ["java/lang/IndexOutOfBoundsException"] := ⟨by decide, by decide, by decide, xG_mem 684 (by decide +kernel) (by decide +kernel), Or.inl ⟨rfl, by decide, rfl⟩⟩
def p_Law_due (x1 : Int32) (σ : xS) (Q : Int32 → xS → Prop) : Prop :=
  (p_Rp_due x1 σ (fun r2 σ1 => (vp_in 0 1 ∧ Q 0 (xul σ1 30 (0 : Int32).toNatClampNeg r2.toInt64))) ∨ (q_Rp_due x1 σ "java/lang/IndexOutOfBoundsException" ∧ Q 1 σ))
abbrev rm_Law_due : Room := { frames := 8, cells := 1, slots := 6, locals := 125 }
theorem d_Law_due_0 : decode cd_Law_due 0 = .ok (.aload_n 2, 1) := by decide +kernel
theorem d_Law_due_1 : decode cd_Law_due 1 = .ok (.iconst 0, 1) := by decide +kernel
theorem d_Law_due_2 : decode cd_Law_due 2 = .ok (.aload_n 0, 1) := by decide +kernel
theorem d_Law_due_3 : decode cd_Law_due 3 = .ok (.iload_n 1, 1) := by decide +kernel
theorem d_Law_due_4 : decode cd_Law_due 4 = .ok (.invokevirtual 53, 3) := by decide +kernel
theorem d_Law_due_7 : decode cd_Law_due 7 = .ok (.i2l, 1) := by decide +kernel
theorem d_Law_due_8 : decode cd_Law_due 8 = .ok (.lastore, 1) := by decide +kernel
theorem d_Law_due_9 : decode cd_Law_due 9 = .ok (.goto 6, 3) := by decide +kernel
theorem d_Law_due_12 : decode cd_Law_due 12 = .ok (.astore_n 3, 1) := by decide +kernel
theorem d_Law_due_13 : decode cd_Law_due 13 = .ok (.iconst 1, 1) := by decide +kernel
theorem d_Law_due_14 : decode cd_Law_due 14 = .ok (.ireturn, 1) := by decide +kernel
theorem d_Law_due_15 : decode cd_Law_due 15 = .ok (.iconst 0, 1) := by decide +kernel
theorem d_Law_due_16 : decode cd_Law_due 16 = .ok (.ireturn, 1) := by decide +kernel
set_option maxRecDepth 100000 in
set_option maxHeartbeats 4000000 in
theorem c_Law_due {l : Launch} (hfl : l.flags = flags0) {V : xV} {σ : xS} {x1 : Int32} {Q : Int32 → xS → Prop} (h : p_Law_due x1 σ Q) : xMh l y_Law_due (.codeWith y_Law_due cd_Law_due 4 (some .int) [(0, 9, 12, 19)] :: xG) rm_Law_due V [.ref (V.2.2 0), .int x1, .ref (V.2.2 30)] σ Q := by
  refine x_beginh (by decide) (Nat.le_of_ble_eq_true rfl) (fun p e s m below meth c ls C hlocks hr hhs hI hX hl => ?_)
  have C : xC p s m _ c cd_Law_due 4 R_Law V := C
  have hx := C.1
  have hb := C.2.1
  have hl : lv_has ls 4 [(0, .ref (V.2.2 0)), (1, .int x1), (2, .ref (V.2.2 30))] := hl
  unfold p_Law_due at h
  refine lv_aload_n hx hb d_Law_due_0 rfl (lv_at hl 2 rfl) ?_
  refine lv_iconst (v := 0) hx hb d_Law_due_1 (by decide) ?_
  refine lv_aload_n hx hb d_Law_due_2 rfl (lv_at hl 0 rfl) ?_
  refine lv_iload_n hx hb d_Law_due_3 rfl (lv_at hl 1 rfl) ?_
  rcases h with h | ⟨h0, h⟩
  · refine x_calli C hI hl.1 (d := 0) (As := [.int x1]) (rest := [.int 0, .ref (V.2.2 30)]) (by decide) (c_Rp_due h) (xE0 V _) rfl yw_Rp_due ml_Law_53 rfl rfl ⟨Nat.le_of_ble_eq_true rfl, Nat.le_of_ble_eq_true rfl⟩ rfl rfl (Nat.le_of_ble_eq_true rfl) d_Law_due_4 ⟨Nat.zero_le _, Nat.zero_le _⟩ (fun r2 σ1 H locs h hI => ?_)
    refine lv_i2l (v := r2.toInt64) hx hb d_Law_due_7 rfl ?_
    obtain ⟨i3, h⟩ := h
    refine x_last C hI (d := 30) (by decide) (xE30 V) i3 d_Law_due_8 (fun H locs hI => ?_)
    refine lv_goto (tgt := 15) hx hb d_Law_due_9 (by decide) ?_
    refine lv_iconst (v := 0) hx hb d_Law_due_15 (by decide) ?_
    exact x_hret C hlocks hr hI (Nat.le_of_ble_eq_true rfl) (Nat.le_of_ble_eq_true rfl) h d_Law_due_16
  · refine x_tcatch C hI hX hhs (ns := ["java/lang/IndexOutOfBoundsException"]) (hp := 12) hl.1 (d := 0) (As := [.int x1]) (rest := [.int 0, .ref (V.2.2 30)]) (by decide) row_Law_due_0 (e_Rp_due hfl h0) (xE0 V _) rfl yw_Rp_due ml_Law_53 rfl rfl ⟨Nat.le_of_ble_eq_true rfl, Nat.le_of_ble_eq_true rfl⟩ rfl rfl (Nat.le_of_ble_eq_true rfl) d_Law_due_4 ⟨Nat.le_of_ble_eq_true rfl, Nat.le_of_ble_eq_true rfl⟩ (fun H q hI => ?_)
    refine lv_astore_n (lv' := [(3, .ref q), (0, .ref (V.2.2 0)), (1, .int x1), (2, .ref (V.2.2 30))]) hx hb d_Law_due_12 rfl hl (by decide) rfl (fun ls hl => ?_)
    refine lv_iconst (v := 1) hx hb d_Law_due_13 (by decide) ?_
    exact x_hret C hlocks hr hI (Nat.le_of_ble_eq_true rfl) (Nat.le_of_ble_eq_true rfl) h d_Law_due_14
def y_Law_alike : MethodName := ⟨"RegionPoolLaw", "alike", "(LRegionPool;II[J)I"⟩
abbrev cd_Law_alike : ByteArray := method_14_code
theorem yw_Rp_alike : xY y_Rp_alike cd_Rp_alike 3 (some .boolean) 2 := ⟨xG_mem 921 (by decide +kernel) (by decide +kernel), xG_mem 922 (by decide +kernel) (by decide +kernel), xG_mem 54 (by decide +kernel) (by decide +kernel), xG_mem 923 (by decide +kernel) (by decide +kernel), by decide, by decide, by decide +kernel⟩
theorem ml_Law_56 : Cond.methodLink R_Law 56 y_Rp_alike ∈ xG := xG_mem 920 (by decide +kernel) (by decide +kernel)
theorem row_Law_alike_0 : xRowOf R_Law 5 "java/lang/IndexOutOfBoundsException" 20 [(0, 17, 20, 19)] ["java/lang/IndexOutOfBoundsException"] := ⟨by decide, by decide, by decide, xG_mem 684 (by decide +kernel) (by decide +kernel), Or.inl ⟨rfl, by decide, rfl⟩⟩
def p_Law_alike (x1 x2 : Int32) (σ : xS) (Q : Int32 → xS → Prop) : Prop :=
  (p_Rp_alike x1 x2 σ (fun r2 σ1 => ((r2 = 0 → (vp_in 0 1 ∧ Q 0 (xul σ1 30 (0 : Int32).toNatClampNeg 0))) ∧ (¬ r2 = 0 → (vp_in 0 1 ∧ Q 0 (xul σ1 30 (0 : Int32).toNatClampNeg 1))))) ∨ (q_Rp_alike x1 x2 σ "java/lang/IndexOutOfBoundsException" ∧ Q 1 σ))
abbrev rm_Law_alike : Room := { frames := 8, cells := 1, slots := 6, locals := 141 }
theorem d_Law_alike_0 : decode cd_Law_alike 0 = .ok (.aload_n 3, 1) := by decide +kernel
theorem d_Law_alike_1 : decode cd_Law_alike 1 = .ok (.iconst 0, 1) := by decide +kernel
theorem d_Law_alike_2 : decode cd_Law_alike 2 = .ok (.aload_n 0, 1) := by decide +kernel
theorem d_Law_alike_3 : decode cd_Law_alike 3 = .ok (.iload_n 1, 1) := by decide +kernel
theorem d_Law_alike_4 : decode cd_Law_alike 4 = .ok (.iload_n 2, 1) := by decide +kernel
theorem d_Law_alike_5 : decode cd_Law_alike 5 = .ok (.invokevirtual 56, 3) := by decide +kernel
theorem d_Law_alike_8 : decode cd_Law_alike 8 = .ok (.ifCond .eq 7, 3) := by decide +kernel
theorem d_Law_alike_11 : decode cd_Law_alike 11 = .ok (.lconst 1, 1) := by decide +kernel
theorem d_Law_alike_12 : decode cd_Law_alike 12 = .ok (.goto 4, 3) := by decide +kernel
theorem d_Law_alike_15 : decode cd_Law_alike 15 = .ok (.lconst 0, 1) := by decide +kernel
theorem d_Law_alike_16 : decode cd_Law_alike 16 = .ok (.lastore, 1) := by decide +kernel
theorem d_Law_alike_17 : decode cd_Law_alike 17 = .ok (.goto 7, 3) := by decide +kernel
theorem d_Law_alike_20 : decode cd_Law_alike 20 = .ok (.astore 4, 2) := by decide +kernel
theorem d_Law_alike_22 : decode cd_Law_alike 22 = .ok (.iconst 1, 1) := by decide +kernel
theorem d_Law_alike_23 : decode cd_Law_alike 23 = .ok (.ireturn, 1) := by decide +kernel
theorem d_Law_alike_24 : decode cd_Law_alike 24 = .ok (.iconst 0, 1) := by decide +kernel
theorem d_Law_alike_25 : decode cd_Law_alike 25 = .ok (.ireturn, 1) := by decide +kernel
set_option maxRecDepth 100000 in
set_option maxHeartbeats 4000000 in
theorem c_Law_alike {l : Launch} (hfl : l.flags = flags0) {V : xV} {σ : xS} {x1 x2 : Int32} {Q : Int32 → xS → Prop} (h : p_Law_alike x1 x2 σ Q) : xMh l y_Law_alike (.codeWith y_Law_alike cd_Law_alike 5 (some .int) [(0, 17, 20, 19)] :: xG) rm_Law_alike V [.ref (V.2.2 0), .int x1, .int x2, .ref (V.2.2 30)] σ Q := by
  refine x_beginh (by decide) (Nat.le_of_ble_eq_true rfl) (fun p e s m below meth c ls C hlocks hr hhs hI hX hl => ?_)
  have C : xC p s m _ c cd_Law_alike 5 R_Law V := C
  have hx := C.1
  have hb := C.2.1
  have hl : lv_has ls 5 [(0, .ref (V.2.2 0)), (1, .int x1), (2, .int x2), (3, .ref (V.2.2 30))] := hl
  unfold p_Law_alike at h
  refine lv_aload_n hx hb d_Law_alike_0 rfl (lv_at hl 3 rfl) ?_
  refine lv_iconst (v := 0) hx hb d_Law_alike_1 (by decide) ?_
  refine lv_aload_n hx hb d_Law_alike_2 rfl (lv_at hl 0 rfl) ?_
  refine lv_iload_n hx hb d_Law_alike_3 rfl (lv_at hl 1 rfl) ?_
  refine lv_iload_n hx hb d_Law_alike_4 rfl (lv_at hl 2 rfl) ?_
  rcases h with h | ⟨h0, h⟩
  · refine x_calli C hI hl.1 (d := 0) (As := [.int x1, .int x2]) (rest := [.int 0, .ref (V.2.2 30)]) (by decide) (c_Rp_alike h) (xE0 V _) rfl yw_Rp_alike ml_Law_56 rfl rfl ⟨Nat.le_of_ble_eq_true rfl, Nat.le_of_ble_eq_true rfl⟩ rfl rfl (Nat.le_of_ble_eq_true rfl) d_Law_alike_5 ⟨Nat.zero_le _, Nat.zero_le _⟩ (fun r2 σ1 H locs h hI => ?_)
    refine lv_if_eq (tgt := 15) hx hb d_Law_alike_8 (by decide) (fun c3 => ?_) (fun c3 => ?_)
    · have h := h.1 c3
      refine lv_lconst (v := 0) hx hb d_Law_alike_15 (by decide) ?_
      obtain ⟨i4, h⟩ := h
      refine x_last C hI (d := 30) (by decide) (xE30 V) i4 d_Law_alike_16 (fun H locs hI => ?_)
      refine lv_goto (tgt := 24) hx hb d_Law_alike_17 (by decide) ?_
      refine lv_iconst (v := 0) hx hb d_Law_alike_24 (by decide) ?_
      exact x_hret C hlocks hr hI (Nat.le_of_ble_eq_true rfl) (Nat.le_of_ble_eq_true rfl) h d_Law_alike_25
    · have h := h.2 c3
      refine lv_lconst (v := 1) hx hb d_Law_alike_11 (by decide) ?_
      refine lv_goto (tgt := 16) hx hb d_Law_alike_12 (by decide) ?_
      obtain ⟨i5, h⟩ := h
      refine x_last C hI (d := 30) (by decide) (xE30 V) i5 d_Law_alike_16 (fun H locs hI => ?_)
      refine lv_goto (tgt := 24) hx hb d_Law_alike_17 (by decide) ?_
      refine lv_iconst (v := 0) hx hb d_Law_alike_24 (by decide) ?_
      exact x_hret C hlocks hr hI (Nat.le_of_ble_eq_true rfl) (Nat.le_of_ble_eq_true rfl) h d_Law_alike_25
  · refine x_tcatch C hI hX hhs (ns := ["java/lang/IndexOutOfBoundsException"]) (hp := 20) hl.1 (d := 0) (As := [.int x1, .int x2]) (rest := [.int 0, .ref (V.2.2 30)]) (by decide) row_Law_alike_0 (e_Rp_alike hfl h0) (xE0 V _) rfl yw_Rp_alike ml_Law_56 rfl rfl ⟨Nat.le_of_ble_eq_true rfl, Nat.le_of_ble_eq_true rfl⟩ rfl rfl (Nat.le_of_ble_eq_true rfl) d_Law_alike_5 ⟨Nat.le_of_ble_eq_true rfl, Nat.le_of_ble_eq_true rfl⟩ (fun H q hI => ?_)
    refine lv_astore (lv' := [(4, .ref q), (0, .ref (V.2.2 0)), (1, .int x1), (2, .int x2), (3, .ref (V.2.2 30))]) hx hb d_Law_alike_20 hl (by decide) rfl (fun ls hl => ?_)
    refine lv_iconst (v := 1) hx hb d_Law_alike_22 (by decide) ?_
    exact x_hret C hlocks hr hI (Nat.le_of_ble_eq_true rfl) (Nat.le_of_ble_eq_true rfl) h d_Law_alike_23
def y_Law_root : MethodName := ⟨"RegionPoolLaw", "root", "(LRegionPool;II[J)I"⟩
abbrev cd_Law_root : ByteArray := method_15_code
theorem yw_Rp_root : xY y_Rp_root cd_Rp_root 3 (some .int) 2 := ⟨xG_mem 956 (by decide +kernel) (by decide +kernel), xG_mem 957 (by decide +kernel) (by decide +kernel), xG_mem 54 (by decide +kernel) (by decide +kernel), xG_mem 958 (by decide +kernel) (by decide +kernel), by decide, by decide, by decide +kernel⟩
theorem ml_Law_60 : Cond.methodLink R_Law 60 y_Rp_root ∈ xG := xG_mem 955 (by decide +kernel) (by decide +kernel)
theorem row_Law_root_0 : xRowOf R_Law 5 "java/lang/IndexOutOfBoundsException" 13 [(0, 10, 13, 19)] ["java/lang/IndexOutOfBoundsException"] := ⟨by decide, by decide, by decide, xG_mem 684 (by decide +kernel) (by decide +kernel), Or.inl ⟨rfl, by decide, rfl⟩⟩
def p_Law_root (x1 x2 : Int32) (σ : xS) (Q : Int32 → xS → Prop) : Prop :=
  (p_Rp_root x1 x2 σ (fun r2 σ1 => (vp_in 0 1 ∧ Q 0 (xul σ1 30 (0 : Int32).toNatClampNeg r2.toInt64))) ∨ (q_Rp_root x1 x2 σ "java/lang/IndexOutOfBoundsException" ∧ Q 1 σ))
abbrev rm_Law_root : Room := { frames := 8, cells := 1, slots := 6, locals := 125 }
theorem d_Law_root_0 : decode cd_Law_root 0 = .ok (.aload_n 3, 1) := by decide +kernel
theorem d_Law_root_1 : decode cd_Law_root 1 = .ok (.iconst 0, 1) := by decide +kernel
theorem d_Law_root_2 : decode cd_Law_root 2 = .ok (.aload_n 0, 1) := by decide +kernel
theorem d_Law_root_3 : decode cd_Law_root 3 = .ok (.iload_n 1, 1) := by decide +kernel
theorem d_Law_root_4 : decode cd_Law_root 4 = .ok (.iload_n 2, 1) := by decide +kernel
theorem d_Law_root_5 : decode cd_Law_root 5 = .ok (.invokevirtual 60, 3) := by decide +kernel
theorem d_Law_root_8 : decode cd_Law_root 8 = .ok (.i2l, 1) := by decide +kernel
theorem d_Law_root_9 : decode cd_Law_root 9 = .ok (.lastore, 1) := by decide +kernel
theorem d_Law_root_10 : decode cd_Law_root 10 = .ok (.goto 7, 3) := by decide +kernel
theorem d_Law_root_13 : decode cd_Law_root 13 = .ok (.astore 4, 2) := by decide +kernel
theorem d_Law_root_15 : decode cd_Law_root 15 = .ok (.iconst 1, 1) := by decide +kernel
theorem d_Law_root_16 : decode cd_Law_root 16 = .ok (.ireturn, 1) := by decide +kernel
theorem d_Law_root_17 : decode cd_Law_root 17 = .ok (.iconst 0, 1) := by decide +kernel
theorem d_Law_root_18 : decode cd_Law_root 18 = .ok (.ireturn, 1) := by decide +kernel
set_option maxRecDepth 100000 in
set_option maxHeartbeats 4000000 in
theorem c_Law_root {l : Launch} (hfl : l.flags = flags0) {V : xV} {σ : xS} {x1 x2 : Int32} {Q : Int32 → xS → Prop} (h : p_Law_root x1 x2 σ Q) : xMh l y_Law_root (.codeWith y_Law_root cd_Law_root 5 (some .int) [(0, 10, 13, 19)] :: xG) rm_Law_root V [.ref (V.2.2 0), .int x1, .int x2, .ref (V.2.2 30)] σ Q := by
  refine x_beginh (by decide) (Nat.le_of_ble_eq_true rfl) (fun p e s m below meth c ls C hlocks hr hhs hI hX hl => ?_)
  have C : xC p s m _ c cd_Law_root 5 R_Law V := C
  have hx := C.1
  have hb := C.2.1
  have hl : lv_has ls 5 [(0, .ref (V.2.2 0)), (1, .int x1), (2, .int x2), (3, .ref (V.2.2 30))] := hl
  unfold p_Law_root at h
  refine lv_aload_n hx hb d_Law_root_0 rfl (lv_at hl 3 rfl) ?_
  refine lv_iconst (v := 0) hx hb d_Law_root_1 (by decide) ?_
  refine lv_aload_n hx hb d_Law_root_2 rfl (lv_at hl 0 rfl) ?_
  refine lv_iload_n hx hb d_Law_root_3 rfl (lv_at hl 1 rfl) ?_
  refine lv_iload_n hx hb d_Law_root_4 rfl (lv_at hl 2 rfl) ?_
  rcases h with h | ⟨h0, h⟩
  · refine x_calli C hI hl.1 (d := 0) (As := [.int x1, .int x2]) (rest := [.int 0, .ref (V.2.2 30)]) (by decide) (c_Rp_root h) (xE0 V _) rfl yw_Rp_root ml_Law_60 rfl rfl ⟨Nat.le_of_ble_eq_true rfl, Nat.le_of_ble_eq_true rfl⟩ rfl rfl (Nat.le_of_ble_eq_true rfl) d_Law_root_5 ⟨Nat.zero_le _, Nat.zero_le _⟩ (fun r2 σ1 H locs h hI => ?_)
    refine lv_i2l (v := r2.toInt64) hx hb d_Law_root_8 rfl ?_
    obtain ⟨i3, h⟩ := h
    refine x_last C hI (d := 30) (by decide) (xE30 V) i3 d_Law_root_9 (fun H locs hI => ?_)
    refine lv_goto (tgt := 17) hx hb d_Law_root_10 (by decide) ?_
    refine lv_iconst (v := 0) hx hb d_Law_root_17 (by decide) ?_
    exact x_hret C hlocks hr hI (Nat.le_of_ble_eq_true rfl) (Nat.le_of_ble_eq_true rfl) h d_Law_root_18
  · refine x_tcatch C hI hX hhs (ns := ["java/lang/IndexOutOfBoundsException"]) (hp := 13) hl.1 (d := 0) (As := [.int x1, .int x2]) (rest := [.int 0, .ref (V.2.2 30)]) (by decide) row_Law_root_0 (e_Rp_root hfl h0) (xE0 V _) rfl yw_Rp_root ml_Law_60 rfl rfl ⟨Nat.le_of_ble_eq_true rfl, Nat.le_of_ble_eq_true rfl⟩ rfl rfl (Nat.le_of_ble_eq_true rfl) d_Law_root_5 ⟨Nat.le_of_ble_eq_true rfl, Nat.le_of_ble_eq_true rfl⟩ (fun H q hI => ?_)
    refine lv_astore (lv' := [(4, .ref q), (0, .ref (V.2.2 0)), (1, .int x1), (2, .int x2), (3, .ref (V.2.2 30))]) hx hb d_Law_root_13 hl (by decide) rfl (fun ls hl => ?_)
    refine lv_iconst (v := 1) hx hb d_Law_root_15 (by decide) ?_
    exact x_hret C hlocks hr hI (Nat.le_of_ble_eq_true rfl) (Nat.le_of_ble_eq_true rfl) h d_Law_root_16
def y_Law_field : MethodName := ⟨"RegionPoolLaw", "field", "(LRegionPool;III[J)I"⟩
abbrev cd_Law_field : ByteArray := method_16_code
theorem yw_Rp_field : xY y_Rp_field cd_Rp_field 5 (some .int) 3 := ⟨xG_mem 970 (by decide +kernel) (by decide +kernel), xG_mem 971 (by decide +kernel) (by decide +kernel), xG_mem 54 (by decide +kernel) (by decide +kernel), xG_mem 972 (by decide +kernel) (by decide +kernel), by decide, by decide, by decide +kernel⟩
theorem ml_Law_63 : Cond.methodLink R_Law 63 y_Rp_field ∈ xG := xG_mem 969 (by decide +kernel) (by decide +kernel)
theorem row_Law_field_0 : xRowOf R_Law 7 "java/lang/IndexOutOfBoundsException" 15 [(0, 12, 15, 19)] ["java/lang/IndexOutOfBoundsException"] := ⟨by decide, by decide, by decide, xG_mem 684 (by decide +kernel) (by decide +kernel), Or.inl ⟨rfl, by decide, rfl⟩⟩
def p_Law_field (x1 x2 x3 : Int32) (σ : xS) (Q : Int32 → xS → Prop) : Prop :=
  (p_Rp_field x1 x2 x3 σ (fun r2 σ1 => (vp_in 0 1 ∧ Q 0 (xul σ1 30 (0 : Int32).toNatClampNeg r2.toInt64))) ∨ (q_Rp_field x1 x2 x3 σ "java/lang/IndexOutOfBoundsException" ∧ Q 1 σ))
abbrev rm_Law_field : Room := { frames := 8, cells := 1, slots := 6, locals := 127 }
theorem d_Law_field_0 : decode cd_Law_field 0 = .ok (.aload 4, 2) := by decide +kernel
theorem d_Law_field_2 : decode cd_Law_field 2 = .ok (.iconst 0, 1) := by decide +kernel
theorem d_Law_field_3 : decode cd_Law_field 3 = .ok (.aload_n 0, 1) := by decide +kernel
theorem d_Law_field_4 : decode cd_Law_field 4 = .ok (.iload_n 1, 1) := by decide +kernel
theorem d_Law_field_5 : decode cd_Law_field 5 = .ok (.iload_n 2, 1) := by decide +kernel
theorem d_Law_field_6 : decode cd_Law_field 6 = .ok (.iload_n 3, 1) := by decide +kernel
theorem d_Law_field_7 : decode cd_Law_field 7 = .ok (.invokevirtual 63, 3) := by decide +kernel
theorem d_Law_field_10 : decode cd_Law_field 10 = .ok (.i2l, 1) := by decide +kernel
theorem d_Law_field_11 : decode cd_Law_field 11 = .ok (.lastore, 1) := by decide +kernel
theorem d_Law_field_12 : decode cd_Law_field 12 = .ok (.goto 7, 3) := by decide +kernel
theorem d_Law_field_15 : decode cd_Law_field 15 = .ok (.astore 5, 2) := by decide +kernel
theorem d_Law_field_17 : decode cd_Law_field 17 = .ok (.iconst 1, 1) := by decide +kernel
theorem d_Law_field_18 : decode cd_Law_field 18 = .ok (.ireturn, 1) := by decide +kernel
theorem d_Law_field_19 : decode cd_Law_field 19 = .ok (.iconst 0, 1) := by decide +kernel
theorem d_Law_field_20 : decode cd_Law_field 20 = .ok (.ireturn, 1) := by decide +kernel
set_option maxRecDepth 100000 in
set_option maxHeartbeats 4000000 in
theorem c_Law_field {l : Launch} (hfl : l.flags = flags0) {V : xV} {σ : xS} {x1 x2 x3 : Int32} {Q : Int32 → xS → Prop} (h : p_Law_field x1 x2 x3 σ Q) : xMh l y_Law_field (.codeWith y_Law_field cd_Law_field 6 (some .int) [(0, 12, 15, 19)] :: xG) rm_Law_field V [.ref (V.2.2 0), .int x1, .int x2, .int x3, .ref (V.2.2 30)] σ Q := by
  refine x_beginh (by decide) (Nat.le_of_ble_eq_true rfl) (fun p e s m below meth c ls C hlocks hr hhs hI hX hl => ?_)
  have C : xC p s m _ c cd_Law_field 6 R_Law V := C
  have hx := C.1
  have hb := C.2.1
  have hl : lv_has ls 6 [(0, .ref (V.2.2 0)), (1, .int x1), (2, .int x2), (3, .int x3), (4, .ref (V.2.2 30))] := hl
  unfold p_Law_field at h
  refine lv_aload hx hb d_Law_field_0 (lv_at hl 4 rfl) ?_
  refine lv_iconst (v := 0) hx hb d_Law_field_2 (by decide) ?_
  refine lv_aload_n hx hb d_Law_field_3 rfl (lv_at hl 0 rfl) ?_
  refine lv_iload_n hx hb d_Law_field_4 rfl (lv_at hl 1 rfl) ?_
  refine lv_iload_n hx hb d_Law_field_5 rfl (lv_at hl 2 rfl) ?_
  refine lv_iload_n hx hb d_Law_field_6 rfl (lv_at hl 3 rfl) ?_
  rcases h with h | ⟨h0, h⟩
  · refine x_calli C hI hl.1 (d := 0) (As := [.int x1, .int x2, .int x3]) (rest := [.int 0, .ref (V.2.2 30)]) (by decide) (c_Rp_field h) (xE0 V _) rfl yw_Rp_field ml_Law_63 rfl rfl ⟨Nat.le_of_ble_eq_true rfl, Nat.le_of_ble_eq_true rfl⟩ rfl rfl (Nat.le_of_ble_eq_true rfl) d_Law_field_7 ⟨Nat.zero_le _, Nat.zero_le _⟩ (fun r2 σ1 H locs h hI => ?_)
    refine lv_i2l (v := r2.toInt64) hx hb d_Law_field_10 rfl ?_
    obtain ⟨i3, h⟩ := h
    refine x_last C hI (d := 30) (by decide) (xE30 V) i3 d_Law_field_11 (fun H locs hI => ?_)
    refine lv_goto (tgt := 19) hx hb d_Law_field_12 (by decide) ?_
    refine lv_iconst (v := 0) hx hb d_Law_field_19 (by decide) ?_
    exact x_hret C hlocks hr hI (Nat.le_of_ble_eq_true rfl) (Nat.le_of_ble_eq_true rfl) h d_Law_field_20
  · refine x_tcatch C hI hX hhs (ns := ["java/lang/IndexOutOfBoundsException"]) (hp := 15) hl.1 (d := 0) (As := [.int x1, .int x2, .int x3]) (rest := [.int 0, .ref (V.2.2 30)]) (by decide) row_Law_field_0 (e_Rp_field hfl h0) (xE0 V _) rfl yw_Rp_field ml_Law_63 rfl rfl ⟨Nat.le_of_ble_eq_true rfl, Nat.le_of_ble_eq_true rfl⟩ rfl rfl (Nat.le_of_ble_eq_true rfl) d_Law_field_7 ⟨Nat.le_of_ble_eq_true rfl, Nat.le_of_ble_eq_true rfl⟩ (fun H q hI => ?_)
    refine lv_astore (lv' := [(5, .ref q), (0, .ref (V.2.2 0)), (1, .int x1), (2, .int x2), (3, .int x3), (4, .ref (V.2.2 30))]) hx hb d_Law_field_15 hl (by decide) rfl (fun ls hl => ?_)
    refine lv_iconst (v := 1) hx hb d_Law_field_17 (by decide) ?_
    exact x_hret C hlocks hr hI (Nat.le_of_ble_eq_true rfl) (Nat.le_of_ble_eq_true rfl) h d_Law_field_18
