def y_Lin_length : MethodName := ⟨"RegionPool$Line", "length", "()I"⟩
abbrev cd_Lin_length : ByteArray := prog_5_method_2_code
theorem fd_Lin_15 : xFd R_Lin 15 8 1 := ⟨R_Lin, T_Lin, 2, rfl, in_Lin, by decide, xG_mem 154 (by decide +kernel) (by decide +kernel)⟩
def p_Lin_length_8 (σ : xS) (Q : Int32 → xS → Prop) : Prop :=
  Q (σ 8 1) σ
abbrev rm_Lin_length_8 : Room := { frames := 0, cells := 0, slots := 0, locals := 0 }
theorem d_Lin_length_0 : decode cd_Lin_length 0 = .ok (.aload_n 0, 1) := by decide +kernel
theorem d_Lin_length_1 : decode cd_Lin_length 1 = .ok (.getfield 15, 3) := by decide +kernel
theorem d_Lin_length_4 : decode cd_Lin_length 4 = .ok (.ireturn, 1) := by decide +kernel
set_option maxRecDepth 100000 in
set_option maxHeartbeats 4000000 in
theorem c_Lin_length_8 {l : Launch} {V : xV} {σ : xS} {Q : Int32 → xS → Prop} (h : p_Lin_length_8 σ Q) : xMi l y_Lin_length (.code y_Lin_length cd_Lin_length 1 (some .int) :: xG) rm_Lin_length_8 V [.ref (V.2.2 8)] σ Q := by
  refine x_begini (by decide) (Nat.le_of_ble_eq_true rfl) (fun p e s m below meth c ls C hlocks hr hI hl => ?_)
  have C : xC p s m _ c cd_Lin_length 1 R_Lin V := C
  have hx := C.1
  have hb := C.2.1
  have hl : lv_has ls 1 [(0, .ref (V.2.2 8))] := hl
  unfold p_Lin_length_8 at h
  refine lv_aload_n hx hb d_Lin_length_0 rfl (lv_at hl 0 rfl) ?_
  refine x_get C hI (d := 8) (by decide) (xE8 V _) fd_Lin_15 rfl d_Lin_length_1 ?_
  exact x_iret C hlocks hr hI h d_Lin_length_4
def p_Lin_length_9 (σ : xS) (Q : Int32 → xS → Prop) : Prop :=
  Q (σ 9 1) σ
abbrev rm_Lin_length_9 : Room := { frames := 0, cells := 0, slots := 0, locals := 0 }
set_option maxRecDepth 100000 in
set_option maxHeartbeats 4000000 in
theorem c_Lin_length_9 {l : Launch} {V : xV} {σ : xS} {Q : Int32 → xS → Prop} (h : p_Lin_length_9 σ Q) : xMi l y_Lin_length (.code y_Lin_length cd_Lin_length 1 (some .int) :: xG) rm_Lin_length_9 V [.ref (V.2.2 9)] σ Q := by
  refine x_begini (by decide) (Nat.le_of_ble_eq_true rfl) (fun p e s m below meth c ls C hlocks hr hI hl => ?_)
  have C : xC p s m _ c cd_Lin_length 1 R_Lin V := C
  have hx := C.1
  have hb := C.2.1
  have hl : lv_has ls 1 [(0, .ref (V.2.2 9))] := hl
  unfold p_Lin_length_9 at h
  refine lv_aload_n hx hb d_Lin_length_0 rfl (lv_at hl 0 rfl) ?_
  refine x_get C hI (d := 9) (by decide) (xE9 V _) fd_Lin_15 rfl d_Lin_length_1 ?_
  exact x_iret C hlocks hr hI h d_Lin_length_4
def y_Lin_itemAt : MethodName := ⟨"RegionPool$Line", "itemAt", "(I)I"⟩
abbrev cd_Lin_itemAt : ByteArray := prog_5_method_3_code
theorem fd_Lin_9 : xFd R_Lin 9 8 0 := ⟨R_Lin, T_Lin, 2, rfl, in_Lin, by decide, xG_mem 153 (by decide +kernel) (by decide +kernel)⟩
def p_Lin_itemAt_8 (x1 : Int32) (σ : xS) (Q : Int32 → xS → Prop) : Prop :=
  (vp_in x1 640 ∧ Q (σ 24 x1.toNatClampNeg) σ)
abbrev rm_Lin_itemAt_8 : Room := { frames := 0, cells := 0, slots := 0, locals := 0 }
theorem d_Lin_itemAt_0 : decode cd_Lin_itemAt 0 = .ok (.aload_n 0, 1) := by decide +kernel
theorem d_Lin_itemAt_1 : decode cd_Lin_itemAt 1 = .ok (.getfield 9, 3) := by decide +kernel
theorem d_Lin_itemAt_4 : decode cd_Lin_itemAt 4 = .ok (.iload_n 1, 1) := by decide +kernel
theorem d_Lin_itemAt_5 : decode cd_Lin_itemAt 5 = .ok (.iaload, 1) := by decide +kernel
theorem d_Lin_itemAt_6 : decode cd_Lin_itemAt 6 = .ok (.ireturn, 1) := by decide +kernel
set_option maxRecDepth 100000 in
set_option maxHeartbeats 4000000 in
theorem c_Lin_itemAt_8 {l : Launch} {V : xV} {σ : xS} {x1 : Int32} {Q : Int32 → xS → Prop} (h : p_Lin_itemAt_8 x1 σ Q) : xMi l y_Lin_itemAt (.code y_Lin_itemAt cd_Lin_itemAt 2 (some .int) :: xG) rm_Lin_itemAt_8 V [.ref (V.2.2 8), .int x1] σ Q := by
  refine x_begini (by decide) (Nat.le_of_ble_eq_true rfl) (fun p e s m below meth c ls C hlocks hr hI hl => ?_)
  have C : xC p s m _ c cd_Lin_itemAt 2 R_Lin V := C
  have hx := C.1
  have hb := C.2.1
  have hl : lv_has ls 2 [(0, .ref (V.2.2 8)), (1, .int x1)] := hl
  unfold p_Lin_itemAt_8 at h
  refine lv_aload_n hx hb d_Lin_itemAt_0 rfl (lv_at hl 0 rfl) ?_
  refine x_get C hI (d := 8) (by decide) (xE8 V _) fd_Lin_9 rfl d_Lin_itemAt_1 ?_
  refine lv_iload_n hx hb d_Lin_itemAt_4 rfl (lv_at hl 1 rfl) ?_
  obtain ⟨i1, h⟩ := h
  refine x_iald C hI (d := 24) (by decide) (xE24 V) i1 d_Lin_itemAt_5 ?_
  exact x_iret C hlocks hr hI h d_Lin_itemAt_6
def y_Lin_has : MethodName := ⟨"RegionPool$Line", "has", "(I)Z"⟩
abbrev cd_Lin_has : ByteArray := prog_5_method_4_code
def b_Lin_has_9_L2 (K2 : Int32 → Int32 → xS → Prop) (Q : Int32 → xS → Prop) (x1 x2 : Int32) (σ : xS) : Prop :=
  (((σ 9 1) ≤ x2 → Q 0 σ) ∧ (¬ (σ 9 1) ≤ x2 → (vp_in x2 640 ∧ ((¬ (σ 25 x2.toNatClampNeg) = x1 → (∀ z4 : Int32, z4 = x2 + 1 → K2 x1 z4 σ)) ∧ ((σ 25 x2.toNatClampNeg) = x1 → Q 1 σ)))))
def p_Lin_has_9_L2 (Q : Int32 → xS → Prop) (n : Nat) : Int32 → Int32 → xS → Prop := Nat.rec (motive := fun _ => Int32 → Int32 → xS → Prop) (fun _ _ _ => False) (fun _ K x1 x2 σ => b_Lin_has_9_L2 K Q x1 x2 σ) n
def p_Lin_has_9 (x1 : Int32) (σ : xS) (Q : Int32 → xS → Prop) : Prop :=
  (∃ n, p_Lin_has_9_L2 Q n x1 0 σ)
abbrev rm_Lin_has_9 : Room := { frames := 0, cells := 0, slots := 0, locals := 0 }
theorem d_Lin_has_0 : decode cd_Lin_has 0 = .ok (.iconst 0, 1) := by decide +kernel
theorem d_Lin_has_1 : decode cd_Lin_has 1 = .ok (.istore_n 2, 1) := by decide +kernel
theorem d_Lin_has_2 : decode cd_Lin_has 2 = .ok (.iload_n 2, 1) := by decide +kernel
theorem d_Lin_has_3 : decode cd_Lin_has 3 = .ok (.aload_n 0, 1) := by decide +kernel
theorem d_Lin_has_4 : decode cd_Lin_has 4 = .ok (.getfield 15, 3) := by decide +kernel
theorem d_Lin_has_7 : decode cd_Lin_has 7 = .ok (.if_icmp .ge 21, 3) := by decide +kernel
theorem d_Lin_has_10 : decode cd_Lin_has 10 = .ok (.aload_n 0, 1) := by decide +kernel
theorem d_Lin_has_11 : decode cd_Lin_has 11 = .ok (.getfield 9, 3) := by decide +kernel
theorem d_Lin_has_14 : decode cd_Lin_has 14 = .ok (.iload_n 2, 1) := by decide +kernel
theorem d_Lin_has_15 : decode cd_Lin_has 15 = .ok (.iaload, 1) := by decide +kernel
theorem d_Lin_has_16 : decode cd_Lin_has 16 = .ok (.iload_n 1, 1) := by decide +kernel
theorem d_Lin_has_17 : decode cd_Lin_has 17 = .ok (.if_icmp .ne 5, 3) := by decide +kernel
theorem d_Lin_has_20 : decode cd_Lin_has 20 = .ok (.iconst 1, 1) := by decide +kernel
theorem d_Lin_has_21 : decode cd_Lin_has 21 = .ok (.ireturn, 1) := by decide +kernel
theorem d_Lin_has_22 : decode cd_Lin_has 22 = .ok (.iinc 2 1, 3) := by decide +kernel
theorem d_Lin_has_25 : decode cd_Lin_has 25 = .ok (.goto (-23), 3) := by decide +kernel
theorem d_Lin_has_28 : decode cd_Lin_has 28 = .ok (.iconst 0, 1) := by decide +kernel
theorem d_Lin_has_29 : decode cd_Lin_has 29 = .ok (.ireturn, 1) := by decide +kernel
set_option maxRecDepth 100000 in
set_option maxHeartbeats 4000000 in
theorem s_Lin_has_9_L2 {p : Program} {l : Launch} {e : Env} {s : State} {m : MethodId} {args : Array Value} {below : List Frame} {meth : Method} {c : Code} {V : xV} (C : xC p s m args c cd_Lin_has 3 R_Lin V) (hlocks : meth.locks = false) (hr : meth.sig.returnType = (some .boolean)) {Q : Int32 → xS → Prop} {K2 : Int32 → Int32 → xS → Prop} (hK2 : ∀ (x1 : Int32) (x2 : Int32) (σ : xS) (H : Heap) (locs : List Loc) (ls : Array Slot), K2 x1 x2 σ → xI V s.heap σ H locs → lv_has ls 3 [(0, .ref (V.2.2 9)), (1, .int x1), (2, .int x2)] → W p l e rm_Lin_has_9 s m args below meth c H locs 0 0 (xZi below V args s Q) (F0 m 2 ls [])) {x1 x2 : Int32} {σ : xS} {H : Heap} {locs : List Loc} {ls : Array Slot} (h : b_Lin_has_9_L2 K2 Q x1 x2 σ) (hI : xI V s.heap σ H locs) (hl : lv_has ls 3 [(0, .ref (V.2.2 9)), (1, .int x1), (2, .int x2)]) : W p l e rm_Lin_has_9 s m args below meth c H locs 0 0 (xZi below V args s Q) (F0 m 2 ls []) := by
  have hx := C.1
  have hb := C.2.1
  unfold b_Lin_has_9_L2 at h
  refine lv_iload_n hx hb d_Lin_has_2 rfl (lv_at hl 2 rfl) ?_
  refine lv_aload_n hx hb d_Lin_has_3 rfl (lv_at hl 0 rfl) ?_
  refine x_get C hI (d := 9) (by decide) (xE9 V _) fd_Lin_15 rfl d_Lin_has_4 ?_
  refine lv_icmp_ge (tgt := 28) hx hb d_Lin_has_7 (by decide) (fun c1 => ?_) (fun c1 => ?_)
  · have h := h.1 c1
    refine lv_iconst (v := 0) hx hb d_Lin_has_28 (by decide) ?_
    exact x_zret C hlocks hr hI ⟨rfl, h⟩ d_Lin_has_29
  · have h := h.2 c1
    refine lv_aload_n hx hb d_Lin_has_10 rfl (lv_at hl 0 rfl) ?_
    refine x_get C hI (d := 9) (by decide) (xE9 V _) fd_Lin_9 rfl d_Lin_has_11 ?_
    refine lv_iload_n hx hb d_Lin_has_14 rfl (lv_at hl 2 rfl) ?_
    obtain ⟨i2, h⟩ := h
    refine x_iald C hI (d := 25) (by decide) (xE25 V) i2 d_Lin_has_15 ?_
    refine lv_iload_n hx hb d_Lin_has_16 rfl (lv_at hl 1 rfl) ?_
    refine lv_icmp_ne (tgt := 22) hx hb d_Lin_has_17 (by decide) (fun c3 => ?_) (fun c3 => ?_)
    · have h := h.1 c3
      obtain ⟨z4, ez4⟩ : ∃ y : Int32, y = x2 + 1 := ⟨_, rfl⟩
      have h := h z4 ez4
      refine lv_iinc (v := z4) (lv' := [(2, .int z4), (0, .ref (V.2.2 9)), (1, .int x1)]) hx hb d_Lin_has_22 hl (k := 2) rfl (by rw [ez4]; rfl) (by decide) rfl (fun ls hl => ?_)
      refine lv_goto (tgt := 2) hx hb d_Lin_has_25 (by decide) ?_
      exact hK2 _ _ _ _ _ _ h hI (lv_sub hl [1, 2, 0] rfl)
    · have h := h.2 c3
      refine lv_iconst (v := 1) hx hb d_Lin_has_20 (by decide) ?_
      exact x_zret C hlocks hr hI ⟨rfl, h⟩ d_Lin_has_21
theorem w_Lin_has_9_L2 {p : Program} {l : Launch} {e : Env} {s : State} {m : MethodId} {args : Array Value} {below : List Frame} {meth : Method} {c : Code} {V : xV} (C : xC p s m args c cd_Lin_has 3 R_Lin V) (hlocks : meth.locks = false) (hr : meth.sig.returnType = (some .boolean)) {Q : Int32 → xS → Prop} : ∀ (n : Nat) (x1 : Int32) (x2 : Int32) (σ : xS) (H : Heap) (locs : List Loc) (ls : Array Slot), p_Lin_has_9_L2 Q n x1 x2 σ → xI V s.heap σ H locs → lv_has ls 3 [(0, .ref (V.2.2 9)), (1, .int x1), (2, .int x2)] → W p l e rm_Lin_has_9 s m args below meth c H locs 0 0 (xZi below V args s Q) (F0 m 2 ls []) := by
  intro n
  induction n with
  | zero =>
    intro x1 x2 σ H locs ls h
    exact False.elim h
  | succ n ih =>
    intro x1 x2 σ H locs ls h hI hl
    exact s_Lin_has_9_L2 C hlocks hr (K2 := p_Lin_has_9_L2 Q n) (fun x1 x2 σ H locs ls h hI hl => ih x1 x2 σ H locs ls h hI hl) h hI hl
set_option maxRecDepth 100000 in
set_option maxHeartbeats 4000000 in
theorem c_Lin_has_9 {l : Launch} {V : xV} {σ : xS} {x1 : Int32} {Q : Int32 → xS → Prop} (h : p_Lin_has_9 x1 σ Q) : xMi l y_Lin_has (.code y_Lin_has cd_Lin_has 3 (some .boolean) :: xG) rm_Lin_has_9 V [.ref (V.2.2 9), .int x1] σ Q := by
  refine x_begini (by decide) (Nat.le_of_ble_eq_true rfl) (fun p e s m below meth c ls C hlocks hr hI hl => ?_)
  have C : xC p s m _ c cd_Lin_has 3 R_Lin V := C
  have hx := C.1
  have hb := C.2.1
  have hl : lv_has ls 3 [(0, .ref (V.2.2 9)), (1, .int x1)] := hl
  unfold p_Lin_has_9 at h
  refine lv_iconst (v := 0) hx hb d_Lin_has_0 (by decide) ?_
  refine lv_istore_n (lv' := [(2, .int 0), (0, .ref (V.2.2 9)), (1, .int x1)]) hx hb d_Lin_has_1 rfl hl (by decide) rfl (fun ls hl => ?_)
  obtain ⟨n, h⟩ := h
  exact w_Lin_has_9_L2 C hlocks hr n _ _ _ _ _ _ h hI (lv_sub hl [1, 2, 0] rfl)
def y_Lin_append : MethodName := ⟨"RegionPool$Line", "append", "(I)V"⟩
abbrev cd_Lin_append : ByteArray := prog_5_method_5_code
theorem fw_Lin_15 : xFw R_Lin 15 8 1 := ⟨R_Lin, T_Lin, 2, t_Lin, rfl, in_Lin, by decide, xG_mem 154 (by decide +kernel) (by decide +kernel), tk_Lin, nm_Lin, rfl, by decide +kernel⟩
theorem xP_8_1 (V : xV) (f : Nat → Int32) (x : Int32) : xE V 8 (upd f 1 x) = .inr (8, [.ref (V.2.2 24), .int (f 1)].set 1 (.int x)) := rfl
def p_Lin_append_8 (x1 : Int32) (σ : xS) (Q : xS → Prop) : Prop :=
  ((640 ≤ (σ 8 1) → Q σ) ∧ (¬ 640 ≤ (σ 8 1) → (vp_in (σ 8 1) 640 ∧ Q (xu (xu σ 24 (σ 8 1).toNatClampNeg x1) 8 1 (((xu σ 24 (σ 8 1).toNatClampNeg x1) 8 1) + 1)))))
abbrev rm_Lin_append_8 : Room := { frames := 0, cells := 0, slots := 0, locals := 0 }
theorem d_Lin_append_0 : decode cd_Lin_append 0 = .ok (.aload_n 0, 1) := by decide +kernel
theorem d_Lin_append_1 : decode cd_Lin_append 1 = .ok (.getfield 15, 3) := by decide +kernel
theorem d_Lin_append_4 : decode cd_Lin_append 4 = .ok (.aload_n 0, 1) := by decide +kernel
theorem d_Lin_append_5 : decode cd_Lin_append 5 = .ok (.getfield 9, 3) := by decide +kernel
theorem d_Lin_append_8 : decode cd_Lin_append 8 = .ok (.arraylength, 1) := by decide +kernel
theorem d_Lin_append_9 : decode cd_Lin_append 9 = .ok (.if_icmp .ge 23, 3) := by decide +kernel
theorem d_Lin_append_12 : decode cd_Lin_append 12 = .ok (.aload_n 0, 1) := by decide +kernel
theorem d_Lin_append_13 : decode cd_Lin_append 13 = .ok (.getfield 9, 3) := by decide +kernel
theorem d_Lin_append_16 : decode cd_Lin_append 16 = .ok (.aload_n 0, 1) := by decide +kernel
theorem d_Lin_append_17 : decode cd_Lin_append 17 = .ok (.getfield 15, 3) := by decide +kernel
theorem d_Lin_append_20 : decode cd_Lin_append 20 = .ok (.iload_n 1, 1) := by decide +kernel
theorem d_Lin_append_21 : decode cd_Lin_append 21 = .ok (.iastore, 1) := by decide +kernel
theorem d_Lin_append_22 : decode cd_Lin_append 22 = .ok (.aload_n 0, 1) := by decide +kernel
theorem d_Lin_append_23 : decode cd_Lin_append 23 = .ok (.dup, 1) := by decide +kernel
theorem d_Lin_append_24 : decode cd_Lin_append 24 = .ok (.getfield 15, 3) := by decide +kernel
theorem d_Lin_append_27 : decode cd_Lin_append 27 = .ok (.iconst 1, 1) := by decide +kernel
theorem d_Lin_append_28 : decode cd_Lin_append 28 = .ok (.iadd, 1) := by decide +kernel
theorem d_Lin_append_29 : decode cd_Lin_append 29 = .ok (.putfield 15, 3) := by decide +kernel
theorem d_Lin_append_32 : decode cd_Lin_append 32 = .ok (.return_, 1) := by decide +kernel
set_option maxRecDepth 100000 in
set_option maxHeartbeats 4000000 in
theorem c_Lin_append_8 {l : Launch} {V : xV} {σ : xS} {x1 : Int32} {Q : xS → Prop} (h : p_Lin_append_8 x1 σ Q) : xMv l y_Lin_append (.code y_Lin_append cd_Lin_append 2 none :: xG) rm_Lin_append_8 V [.ref (V.2.2 8), .int x1] σ Q := by
  refine x_beginv (by decide) (Nat.le_of_ble_eq_true rfl) (fun p e s m below meth c ls C hlocks hr hI hl => ?_)
  have C : xC p s m _ c cd_Lin_append 2 R_Lin V := C
  have hx := C.1
  have hb := C.2.1
  have hl : lv_has ls 2 [(0, .ref (V.2.2 8)), (1, .int x1)] := hl
  unfold p_Lin_append_8 at h
  refine lv_aload_n hx hb d_Lin_append_0 rfl (lv_at hl 0 rfl) ?_
  refine x_get C hI (d := 8) (by decide) (xE8 V _) fd_Lin_15 rfl d_Lin_append_1 ?_
  refine lv_aload_n hx hb d_Lin_append_4 rfl (lv_at hl 0 rfl) ?_
  refine x_get C hI (d := 8) (by decide) (xE8 V _) fd_Lin_9 rfl d_Lin_append_5 ?_
  refine x_alen C hI (d := 24) (k := 0) (by decide) rfl (xE24 V _) (v := 640) (by decide) d_Lin_append_8 ?_
  refine lv_icmp_ge (tgt := 32) hx hb d_Lin_append_9 (by decide) (fun c1 => ?_) (fun c1 => ?_)
  · have h := h.1 c1
    exact x_vret C hlocks hr hI h d_Lin_append_32
  · have h := h.2 c1
    refine lv_aload_n hx hb d_Lin_append_12 rfl (lv_at hl 0 rfl) ?_
    refine x_get C hI (d := 8) (by decide) (xE8 V _) fd_Lin_9 rfl d_Lin_append_13 ?_
    refine lv_aload_n hx hb d_Lin_append_16 rfl (lv_at hl 0 rfl) ?_
    refine x_get C hI (d := 8) (by decide) (xE8 V _) fd_Lin_15 rfl d_Lin_append_17 ?_
    refine lv_iload_n hx hb d_Lin_append_20 rfl (lv_at hl 1 rfl) ?_
    obtain ⟨i2, h⟩ := h
    refine x_iast C hI (d := 24) (by decide) (xE24 V) i2 d_Lin_append_21 (fun H locs hI => ?_)
    refine lv_aload_n hx hb d_Lin_append_22 rfl (lv_at hl 0 rfl) ?_
    refine lv_dup hx hb d_Lin_append_23 rfl ?_
    refine x_get C hI (d := 8) (by decide) (xE8 V _) fd_Lin_15 rfl d_Lin_append_24 ?_
    refine lv_iconst (v := 1) hx hb d_Lin_append_27 (by decide) ?_
    refine lv_iadd hx hb d_Lin_append_28 ?_
    refine x_put C hI (d := 8) (by decide) (xE8 V _) (xP_8_1 V _ _) fw_Lin_15 (Nat.le_of_ble_eq_true rfl) d_Lin_append_29 (fun H locs hI => ?_)
    exact x_vret C hlocks hr hI h d_Lin_append_32
theorem xP_9_1 (V : xV) (f : Nat → Int32) (x : Int32) : xE V 9 (upd f 1 x) = .inr (8, [.ref (V.2.2 25), .int (f 1)].set 1 (.int x)) := rfl
def p_Lin_append_9 (x1 : Int32) (σ : xS) (Q : xS → Prop) : Prop :=
  ((640 ≤ (σ 9 1) → Q σ) ∧ (¬ 640 ≤ (σ 9 1) → (vp_in (σ 9 1) 640 ∧ Q (xu (xu σ 25 (σ 9 1).toNatClampNeg x1) 9 1 (((xu σ 25 (σ 9 1).toNatClampNeg x1) 9 1) + 1)))))
abbrev rm_Lin_append_9 : Room := { frames := 0, cells := 0, slots := 0, locals := 0 }
set_option maxRecDepth 100000 in
set_option maxHeartbeats 4000000 in
theorem c_Lin_append_9 {l : Launch} {V : xV} {σ : xS} {x1 : Int32} {Q : xS → Prop} (h : p_Lin_append_9 x1 σ Q) : xMv l y_Lin_append (.code y_Lin_append cd_Lin_append 2 none :: xG) rm_Lin_append_9 V [.ref (V.2.2 9), .int x1] σ Q := by
  refine x_beginv (by decide) (Nat.le_of_ble_eq_true rfl) (fun p e s m below meth c ls C hlocks hr hI hl => ?_)
  have C : xC p s m _ c cd_Lin_append 2 R_Lin V := C
  have hx := C.1
  have hb := C.2.1
  have hl : lv_has ls 2 [(0, .ref (V.2.2 9)), (1, .int x1)] := hl
  unfold p_Lin_append_9 at h
  refine lv_aload_n hx hb d_Lin_append_0 rfl (lv_at hl 0 rfl) ?_
  refine x_get C hI (d := 9) (by decide) (xE9 V _) fd_Lin_15 rfl d_Lin_append_1 ?_
  refine lv_aload_n hx hb d_Lin_append_4 rfl (lv_at hl 0 rfl) ?_
  refine x_get C hI (d := 9) (by decide) (xE9 V _) fd_Lin_9 rfl d_Lin_append_5 ?_
  refine x_alen C hI (d := 25) (k := 0) (by decide) rfl (xE25 V _) (v := 640) (by decide) d_Lin_append_8 ?_
  refine lv_icmp_ge (tgt := 32) hx hb d_Lin_append_9 (by decide) (fun c1 => ?_) (fun c1 => ?_)
  · have h := h.1 c1
    exact x_vret C hlocks hr hI h d_Lin_append_32
  · have h := h.2 c1
    refine lv_aload_n hx hb d_Lin_append_12 rfl (lv_at hl 0 rfl) ?_
    refine x_get C hI (d := 9) (by decide) (xE9 V _) fd_Lin_9 rfl d_Lin_append_13 ?_
    refine lv_aload_n hx hb d_Lin_append_16 rfl (lv_at hl 0 rfl) ?_
    refine x_get C hI (d := 9) (by decide) (xE9 V _) fd_Lin_15 rfl d_Lin_append_17 ?_
    refine lv_iload_n hx hb d_Lin_append_20 rfl (lv_at hl 1 rfl) ?_
    obtain ⟨i2, h⟩ := h
    refine x_iast C hI (d := 25) (by decide) (xE25 V) i2 d_Lin_append_21 (fun H locs hI => ?_)
    refine lv_aload_n hx hb d_Lin_append_22 rfl (lv_at hl 0 rfl) ?_
    refine lv_dup hx hb d_Lin_append_23 rfl ?_
    refine x_get C hI (d := 9) (by decide) (xE9 V _) fd_Lin_15 rfl d_Lin_append_24 ?_
    refine lv_iconst (v := 1) hx hb d_Lin_append_27 (by decide) ?_
    refine lv_iadd hx hb d_Lin_append_28 ?_
    refine x_put C hI (d := 9) (by decide) (xE9 V _) (xP_9_1 V _ _) fw_Lin_15 (Nat.le_of_ble_eq_true rfl) d_Lin_append_29 (fun H locs hI => ?_)
    exact x_vret C hlocks hr hI h d_Lin_append_32
def y_Lin_dropFirst : MethodName := ⟨"RegionPool$Line", "dropFirst", "()V"⟩
abbrev cd_Lin_dropFirst : ByteArray := prog_5_method_6_code
def b_Lin_dropFirst_8_L2 (K2 : Int32 → xS → Prop) (Q : xS → Prop) (x1 : Int32) (σ : xS) : Prop :=
  (((σ 8 1) ≤ x1 → Q (xu σ 8 1 ((σ 8 1) - 1))) ∧ (¬ (σ 8 1) ≤ x1 → (vp_in x1 640 ∧ (vp_in (x1 - 1) 640 ∧ (∀ z4 : Int32, z4 = x1 + 1 → K2 z4 (xu σ 24 (x1 - 1).toNatClampNeg (σ 24 x1.toNatClampNeg)))))))
def p_Lin_dropFirst_8_L2 (Q : xS → Prop) (n : Nat) : Int32 → xS → Prop := Nat.rec (motive := fun _ => Int32 → xS → Prop) (fun _ _ => False) (fun _ K x1 σ => b_Lin_dropFirst_8_L2 K Q x1 σ) n
def p_Lin_dropFirst_8 (σ : xS) (Q : xS → Prop) : Prop :=
  (∃ n, p_Lin_dropFirst_8_L2 Q n 1 σ)
abbrev rm_Lin_dropFirst_8 : Room := { frames := 0, cells := 0, slots := 0, locals := 0 }
theorem d_Lin_dropFirst_0 : decode cd_Lin_dropFirst 0 = .ok (.iconst 1, 1) := by decide +kernel
theorem d_Lin_dropFirst_1 : decode cd_Lin_dropFirst 1 = .ok (.istore_n 1, 1) := by decide +kernel
theorem d_Lin_dropFirst_2 : decode cd_Lin_dropFirst 2 = .ok (.iload_n 1, 1) := by decide +kernel
theorem d_Lin_dropFirst_3 : decode cd_Lin_dropFirst 3 = .ok (.aload_n 0, 1) := by decide +kernel
theorem d_Lin_dropFirst_4 : decode cd_Lin_dropFirst 4 = .ok (.getfield 15, 3) := by decide +kernel
theorem d_Lin_dropFirst_7 : decode cd_Lin_dropFirst 7 = .ok (.if_icmp .ge 23, 3) := by decide +kernel
theorem d_Lin_dropFirst_10 : decode cd_Lin_dropFirst 10 = .ok (.aload_n 0, 1) := by decide +kernel
theorem d_Lin_dropFirst_11 : decode cd_Lin_dropFirst 11 = .ok (.getfield 9, 3) := by decide +kernel
theorem d_Lin_dropFirst_14 : decode cd_Lin_dropFirst 14 = .ok (.iload_n 1, 1) := by decide +kernel
theorem d_Lin_dropFirst_15 : decode cd_Lin_dropFirst 15 = .ok (.iconst 1, 1) := by decide +kernel
theorem d_Lin_dropFirst_16 : decode cd_Lin_dropFirst 16 = .ok (.isub, 1) := by decide +kernel
theorem d_Lin_dropFirst_17 : decode cd_Lin_dropFirst 17 = .ok (.aload_n 0, 1) := by decide +kernel
theorem d_Lin_dropFirst_18 : decode cd_Lin_dropFirst 18 = .ok (.getfield 9, 3) := by decide +kernel
theorem d_Lin_dropFirst_21 : decode cd_Lin_dropFirst 21 = .ok (.iload_n 1, 1) := by decide +kernel
theorem d_Lin_dropFirst_22 : decode cd_Lin_dropFirst 22 = .ok (.iaload, 1) := by decide +kernel
theorem d_Lin_dropFirst_23 : decode cd_Lin_dropFirst 23 = .ok (.iastore, 1) := by decide +kernel
theorem d_Lin_dropFirst_24 : decode cd_Lin_dropFirst 24 = .ok (.iinc 1 1, 3) := by decide +kernel
theorem d_Lin_dropFirst_27 : decode cd_Lin_dropFirst 27 = .ok (.goto (-25), 3) := by decide +kernel
theorem d_Lin_dropFirst_30 : decode cd_Lin_dropFirst 30 = .ok (.aload_n 0, 1) := by decide +kernel
theorem d_Lin_dropFirst_31 : decode cd_Lin_dropFirst 31 = .ok (.dup, 1) := by decide +kernel
theorem d_Lin_dropFirst_32 : decode cd_Lin_dropFirst 32 = .ok (.getfield 15, 3) := by decide +kernel
theorem d_Lin_dropFirst_35 : decode cd_Lin_dropFirst 35 = .ok (.iconst 1, 1) := by decide +kernel
theorem d_Lin_dropFirst_36 : decode cd_Lin_dropFirst 36 = .ok (.isub, 1) := by decide +kernel
theorem d_Lin_dropFirst_37 : decode cd_Lin_dropFirst 37 = .ok (.putfield 15, 3) := by decide +kernel
theorem d_Lin_dropFirst_40 : decode cd_Lin_dropFirst 40 = .ok (.return_, 1) := by decide +kernel
set_option maxRecDepth 100000 in
set_option maxHeartbeats 4000000 in
theorem s_Lin_dropFirst_8_L2 {p : Program} {l : Launch} {e : Env} {s : State} {m : MethodId} {args : Array Value} {below : List Frame} {meth : Method} {c : Code} {V : xV} (C : xC p s m args c cd_Lin_dropFirst 2 R_Lin V) (hlocks : meth.locks = false) (hr : meth.sig.returnType = none) {Q : xS → Prop} {K2 : Int32 → xS → Prop} (hK2 : ∀ (x1 : Int32) (σ : xS) (H : Heap) (locs : List Loc) (ls : Array Slot), K2 x1 σ → xI V s.heap σ H locs → lv_has ls 2 [(0, .ref (V.2.2 8)), (1, .int x1)] → W p l e rm_Lin_dropFirst_8 s m args below meth c H locs 0 0 (xZv below V args s Q) (F0 m 2 ls [])) {x1 : Int32} {σ : xS} {H : Heap} {locs : List Loc} {ls : Array Slot} (h : b_Lin_dropFirst_8_L2 K2 Q x1 σ) (hI : xI V s.heap σ H locs) (hl : lv_has ls 2 [(0, .ref (V.2.2 8)), (1, .int x1)]) : W p l e rm_Lin_dropFirst_8 s m args below meth c H locs 0 0 (xZv below V args s Q) (F0 m 2 ls []) := by
  have hx := C.1
  have hb := C.2.1
  unfold b_Lin_dropFirst_8_L2 at h
  refine lv_iload_n hx hb d_Lin_dropFirst_2 rfl (lv_at hl 1 rfl) ?_
  refine lv_aload_n hx hb d_Lin_dropFirst_3 rfl (lv_at hl 0 rfl) ?_
  refine x_get C hI (d := 8) (by decide) (xE8 V _) fd_Lin_15 rfl d_Lin_dropFirst_4 ?_
  refine lv_icmp_ge (tgt := 30) hx hb d_Lin_dropFirst_7 (by decide) (fun c1 => ?_) (fun c1 => ?_)
  · have h := h.1 c1
    refine lv_aload_n hx hb d_Lin_dropFirst_30 rfl (lv_at hl 0 rfl) ?_
    refine lv_dup hx hb d_Lin_dropFirst_31 rfl ?_
    refine x_get C hI (d := 8) (by decide) (xE8 V _) fd_Lin_15 rfl d_Lin_dropFirst_32 ?_
    refine lv_iconst (v := 1) hx hb d_Lin_dropFirst_35 (by decide) ?_
    refine lv_isub hx hb d_Lin_dropFirst_36 ?_
    refine x_put C hI (d := 8) (by decide) (xE8 V _) (xP_8_1 V _ _) fw_Lin_15 (Nat.le_of_ble_eq_true rfl) d_Lin_dropFirst_37 (fun H locs hI => ?_)
    exact x_vret C hlocks hr hI h d_Lin_dropFirst_40
  · have h := h.2 c1
    refine lv_aload_n hx hb d_Lin_dropFirst_10 rfl (lv_at hl 0 rfl) ?_
    refine x_get C hI (d := 8) (by decide) (xE8 V _) fd_Lin_9 rfl d_Lin_dropFirst_11 ?_
    refine lv_iload_n hx hb d_Lin_dropFirst_14 rfl (lv_at hl 1 rfl) ?_
    refine lv_iconst (v := 1) hx hb d_Lin_dropFirst_15 (by decide) ?_
    refine lv_isub hx hb d_Lin_dropFirst_16 ?_
    refine lv_aload_n hx hb d_Lin_dropFirst_17 rfl (lv_at hl 0 rfl) ?_
    refine x_get C hI (d := 8) (by decide) (xE8 V _) fd_Lin_9 rfl d_Lin_dropFirst_18 ?_
    refine lv_iload_n hx hb d_Lin_dropFirst_21 rfl (lv_at hl 1 rfl) ?_
    obtain ⟨i2, h⟩ := h
    refine x_iald C hI (d := 24) (by decide) (xE24 V) i2 d_Lin_dropFirst_22 ?_
    obtain ⟨i3, h⟩ := h
    refine x_iast C hI (d := 24) (by decide) (xE24 V) i3 d_Lin_dropFirst_23 (fun H locs hI => ?_)
    obtain ⟨z4, ez4⟩ : ∃ y : Int32, y = x1 + 1 := ⟨_, rfl⟩
    have h := h z4 ez4
    refine lv_iinc (v := z4) (lv' := [(1, .int z4), (0, .ref (V.2.2 8))]) hx hb d_Lin_dropFirst_24 hl (k := 1) rfl (by rw [ez4]; rfl) (by decide) rfl (fun ls hl => ?_)
    refine lv_goto (tgt := 2) hx hb d_Lin_dropFirst_27 (by decide) ?_
    exact hK2 _ _ _ _ _ h hI (lv_sub hl [1, 0] rfl)
theorem w_Lin_dropFirst_8_L2 {p : Program} {l : Launch} {e : Env} {s : State} {m : MethodId} {args : Array Value} {below : List Frame} {meth : Method} {c : Code} {V : xV} (C : xC p s m args c cd_Lin_dropFirst 2 R_Lin V) (hlocks : meth.locks = false) (hr : meth.sig.returnType = none) {Q : xS → Prop} : ∀ (n : Nat) (x1 : Int32) (σ : xS) (H : Heap) (locs : List Loc) (ls : Array Slot), p_Lin_dropFirst_8_L2 Q n x1 σ → xI V s.heap σ H locs → lv_has ls 2 [(0, .ref (V.2.2 8)), (1, .int x1)] → W p l e rm_Lin_dropFirst_8 s m args below meth c H locs 0 0 (xZv below V args s Q) (F0 m 2 ls []) := by
  intro n
  induction n with
  | zero =>
    intro x1 σ H locs ls h
    exact False.elim h
  | succ n ih =>
    intro x1 σ H locs ls h hI hl
    exact s_Lin_dropFirst_8_L2 C hlocks hr (K2 := p_Lin_dropFirst_8_L2 Q n) (fun x1 σ H locs ls h hI hl => ih x1 σ H locs ls h hI hl) h hI hl
set_option maxRecDepth 100000 in
set_option maxHeartbeats 4000000 in
theorem c_Lin_dropFirst_8 {l : Launch} {V : xV} {σ : xS} {Q : xS → Prop} (h : p_Lin_dropFirst_8 σ Q) : xMv l y_Lin_dropFirst (.code y_Lin_dropFirst cd_Lin_dropFirst 2 none :: xG) rm_Lin_dropFirst_8 V [.ref (V.2.2 8)] σ Q := by
  refine x_beginv (by decide) (Nat.le_of_ble_eq_true rfl) (fun p e s m below meth c ls C hlocks hr hI hl => ?_)
  have C : xC p s m _ c cd_Lin_dropFirst 2 R_Lin V := C
  have hx := C.1
  have hb := C.2.1
  have hl : lv_has ls 2 [(0, .ref (V.2.2 8))] := hl
  unfold p_Lin_dropFirst_8 at h
  refine lv_iconst (v := 1) hx hb d_Lin_dropFirst_0 (by decide) ?_
  refine lv_istore_n (lv' := [(1, .int 1), (0, .ref (V.2.2 8))]) hx hb d_Lin_dropFirst_1 rfl hl (by decide) rfl (fun ls hl => ?_)
  obtain ⟨n, h⟩ := h
  exact w_Lin_dropFirst_8_L2 C hlocks hr n _ _ _ _ _ h hI (lv_sub hl [1, 0] rfl)
def y_Lin_dropRegion : MethodName := ⟨"RegionPool$Line", "dropRegion", "(LRegionPool$Regions;I)V"⟩
abbrev cd_Lin_dropRegion : ByteArray := prog_5_method_7_code
theorem yw_Reg_ofPlace : xY y_Reg_ofPlace cd_Reg_ofPlace 2 (some .int) 1 := ⟨xG_mem 334 (by decide +kernel) (by decide +kernel), xG_mem 335 (by decide +kernel) (by decide +kernel), xG_mem 59 (by decide +kernel) (by decide +kernel), xG_mem 336 (by decide +kernel) (by decide +kernel), by decide, by decide, by decide +kernel⟩
theorem ml_Lin_19 : Cond.methodLink R_Lin 19 y_Reg_ofPlace ∈ xG := xG_mem 349 (by decide +kernel) (by decide +kernel)
def b_Lin_dropRegion_8_7_L5 (K5 : Int32 → Int32 → Int32 → xS → Prop) (Q : xS → Prop) (x2 x3 x4 : Int32) (σ : xS) : Prop :=
  (((σ 8 1) ≤ x4 → Q (xu σ 8 1 x3)) ∧ (¬ (σ 8 1) ≤ x4 → (vp_in x4 640 ∧ p_Reg_ofPlace (σ 24 x4.toNatClampNeg) σ (fun r4 σ3 => ((r4 = x2 → (∀ z6 : Int32, z6 = x4 + 1 → K5 x2 x3 z6 σ3)) ∧ (¬ r4 = x2 → (vp_in x4 640 ∧ (vp_in x3 640 ∧ (∀ z9 : Int32, z9 = x3 + 1 → (∀ z10 : Int32, z10 = x4 + 1 → K5 x2 z9 z10 (xu σ3 24 x3.toNatClampNeg (σ3 24 x4.toNatClampNeg))))))))))))
def p_Lin_dropRegion_8_7_L5 (Q : xS → Prop) (n : Nat) : Int32 → Int32 → Int32 → xS → Prop := Nat.rec (motive := fun _ => Int32 → Int32 → Int32 → xS → Prop) (fun _ _ _ _ => False) (fun _ K x2 x3 x4 σ => b_Lin_dropRegion_8_7_L5 K Q x2 x3 x4 σ) n
def p_Lin_dropRegion_8_7 (x2 : Int32) (σ : xS) (Q : xS → Prop) : Prop :=
  (∃ n, p_Lin_dropRegion_8_7_L5 Q n x2 0 0 σ)
abbrev rm_Lin_dropRegion_8_7 : Room := { frames := 1, cells := 0, slots := 0, locals := 21 }
theorem d_Lin_dropRegion_0 : decode cd_Lin_dropRegion 0 = .ok (.iconst 0, 1) := by decide +kernel
theorem d_Lin_dropRegion_1 : decode cd_Lin_dropRegion 1 = .ok (.istore_n 3, 1) := by decide +kernel
theorem d_Lin_dropRegion_2 : decode cd_Lin_dropRegion 2 = .ok (.iconst 0, 1) := by decide +kernel
theorem d_Lin_dropRegion_3 : decode cd_Lin_dropRegion 3 = .ok (.istore 4, 2) := by decide +kernel
theorem d_Lin_dropRegion_5 : decode cd_Lin_dropRegion 5 = .ok (.iload 4, 2) := by decide +kernel
theorem d_Lin_dropRegion_7 : decode cd_Lin_dropRegion 7 = .ok (.aload_n 0, 1) := by decide +kernel
theorem d_Lin_dropRegion_8 : decode cd_Lin_dropRegion 8 = .ok (.getfield 15, 3) := by decide +kernel
theorem d_Lin_dropRegion_11 : decode cd_Lin_dropRegion 11 = .ok (.if_icmp .ge 40, 3) := by decide +kernel
theorem d_Lin_dropRegion_14 : decode cd_Lin_dropRegion 14 = .ok (.aload_n 1, 1) := by decide +kernel
theorem d_Lin_dropRegion_15 : decode cd_Lin_dropRegion 15 = .ok (.aload_n 0, 1) := by decide +kernel
theorem d_Lin_dropRegion_16 : decode cd_Lin_dropRegion 16 = .ok (.getfield 9, 3) := by decide +kernel
theorem d_Lin_dropRegion_19 : decode cd_Lin_dropRegion 19 = .ok (.iload 4, 2) := by decide +kernel
theorem d_Lin_dropRegion_21 : decode cd_Lin_dropRegion 21 = .ok (.iaload, 1) := by decide +kernel
theorem d_Lin_dropRegion_22 : decode cd_Lin_dropRegion 22 = .ok (.invokevirtual 19, 3) := by decide +kernel
theorem d_Lin_dropRegion_25 : decode cd_Lin_dropRegion 25 = .ok (.iload_n 2, 1) := by decide +kernel
theorem d_Lin_dropRegion_26 : decode cd_Lin_dropRegion 26 = .ok (.if_icmp .eq 19, 3) := by decide +kernel
theorem d_Lin_dropRegion_29 : decode cd_Lin_dropRegion 29 = .ok (.aload_n 0, 1) := by decide +kernel
theorem d_Lin_dropRegion_30 : decode cd_Lin_dropRegion 30 = .ok (.getfield 9, 3) := by decide +kernel
theorem d_Lin_dropRegion_33 : decode cd_Lin_dropRegion 33 = .ok (.iload_n 3, 1) := by decide +kernel
theorem d_Lin_dropRegion_34 : decode cd_Lin_dropRegion 34 = .ok (.aload_n 0, 1) := by decide +kernel
theorem d_Lin_dropRegion_35 : decode cd_Lin_dropRegion 35 = .ok (.getfield 9, 3) := by decide +kernel
theorem d_Lin_dropRegion_38 : decode cd_Lin_dropRegion 38 = .ok (.iload 4, 2) := by decide +kernel
theorem d_Lin_dropRegion_40 : decode cd_Lin_dropRegion 40 = .ok (.iaload, 1) := by decide +kernel
theorem d_Lin_dropRegion_41 : decode cd_Lin_dropRegion 41 = .ok (.iastore, 1) := by decide +kernel
theorem d_Lin_dropRegion_42 : decode cd_Lin_dropRegion 42 = .ok (.iinc 3 1, 3) := by decide +kernel
theorem d_Lin_dropRegion_45 : decode cd_Lin_dropRegion 45 = .ok (.iinc 4 1, 3) := by decide +kernel
theorem d_Lin_dropRegion_48 : decode cd_Lin_dropRegion 48 = .ok (.goto (-43), 3) := by decide +kernel
theorem d_Lin_dropRegion_51 : decode cd_Lin_dropRegion 51 = .ok (.aload_n 0, 1) := by decide +kernel
theorem d_Lin_dropRegion_52 : decode cd_Lin_dropRegion 52 = .ok (.iload_n 3, 1) := by decide +kernel
theorem d_Lin_dropRegion_53 : decode cd_Lin_dropRegion 53 = .ok (.putfield 15, 3) := by decide +kernel
theorem d_Lin_dropRegion_56 : decode cd_Lin_dropRegion 56 = .ok (.return_, 1) := by decide +kernel
set_option maxRecDepth 100000 in
set_option maxHeartbeats 4000000 in
theorem s_Lin_dropRegion_8_7_L5 {p : Program} {l : Launch} {e : Env} {s : State} {m : MethodId} {args : Array Value} {below : List Frame} {meth : Method} {c : Code} {V : xV} (C : xC p s m args c cd_Lin_dropRegion 5 R_Lin V) (hlocks : meth.locks = false) (hr : meth.sig.returnType = none) {Q : xS → Prop} {K5 : Int32 → Int32 → Int32 → xS → Prop} (hK5 : ∀ (x2 : Int32) (x3 : Int32) (x4 : Int32) (σ : xS) (H : Heap) (locs : List Loc) (ls : Array Slot), K5 x2 x3 x4 σ → xI V s.heap σ H locs → lv_has ls 5 [(0, .ref (V.2.2 8)), (1, .ref (V.2.2 7)), (2, .int x2), (3, .int x3), (4, .int x4)] → W p l e rm_Lin_dropRegion_8_7 s m args below meth c H locs 0 0 (xZv below V args s Q) (F0 m 5 ls [])) {x2 x3 x4 : Int32} {σ : xS} {H : Heap} {locs : List Loc} {ls : Array Slot} (h : b_Lin_dropRegion_8_7_L5 K5 Q x2 x3 x4 σ) (hI : xI V s.heap σ H locs) (hl : lv_has ls 5 [(0, .ref (V.2.2 8)), (1, .ref (V.2.2 7)), (2, .int x2), (3, .int x3), (4, .int x4)]) : W p l e rm_Lin_dropRegion_8_7 s m args below meth c H locs 0 0 (xZv below V args s Q) (F0 m 5 ls []) := by
  have hx := C.1
  have hb := C.2.1
  unfold b_Lin_dropRegion_8_7_L5 at h
  refine lv_iload hx hb d_Lin_dropRegion_5 (lv_at hl 4 rfl) ?_
  refine lv_aload_n hx hb d_Lin_dropRegion_7 rfl (lv_at hl 0 rfl) ?_
  refine x_get C hI (d := 8) (by decide) (xE8 V _) fd_Lin_15 rfl d_Lin_dropRegion_8 ?_
  refine lv_icmp_ge (tgt := 51) hx hb d_Lin_dropRegion_11 (by decide) (fun c1 => ?_) (fun c1 => ?_)
  · have h := h.1 c1
    refine lv_aload_n hx hb d_Lin_dropRegion_51 rfl (lv_at hl 0 rfl) ?_
    refine lv_iload_n hx hb d_Lin_dropRegion_52 rfl (lv_at hl 3 rfl) ?_
    refine x_put C hI (d := 8) (by decide) (xE8 V _) (xP_8_1 V _ _) fw_Lin_15 (Nat.le_of_ble_eq_true rfl) d_Lin_dropRegion_53 (fun H locs hI => ?_)
    exact x_vret C hlocks hr hI h d_Lin_dropRegion_56
  · have h := h.2 c1
    refine lv_aload_n hx hb d_Lin_dropRegion_14 rfl (lv_at hl 1 rfl) ?_
    refine lv_aload_n hx hb d_Lin_dropRegion_15 rfl (lv_at hl 0 rfl) ?_
    refine x_get C hI (d := 8) (by decide) (xE8 V _) fd_Lin_9 rfl d_Lin_dropRegion_16 ?_
    refine lv_iload hx hb d_Lin_dropRegion_19 (lv_at hl 4 rfl) ?_
    obtain ⟨i2, h⟩ := h
    refine x_iald C hI (d := 24) (by decide) (xE24 V) i2 d_Lin_dropRegion_21 ?_
    refine x_calli C hI hl.1 (d := 7) (As := [.int (σ 24 x4.toNatClampNeg)]) (rest := []) (by decide) (c_Reg_ofPlace h) (xE7 V _) rfl yw_Reg_ofPlace ml_Lin_19 rfl rfl ⟨Nat.le_of_ble_eq_true rfl, Nat.le_of_ble_eq_true rfl⟩ rfl rfl (Nat.le_of_ble_eq_true rfl) d_Lin_dropRegion_22 ⟨Nat.zero_le _, Nat.zero_le _⟩ (fun r4 σ3 H locs h hI => ?_)
    refine lv_iload_n hx hb d_Lin_dropRegion_25 rfl (lv_at hl 2 rfl) ?_
    refine lv_icmp_eq (tgt := 45) hx hb d_Lin_dropRegion_26 (by decide) (fun c5 => ?_) (fun c5 => ?_)
    · have h := h.1 c5
      obtain ⟨z6, ez6⟩ : ∃ y : Int32, y = x4 + 1 := ⟨_, rfl⟩
      have h := h z6 ez6
      refine lv_iinc (v := z6) (lv' := [(4, .int z6), (0, .ref (V.2.2 8)), (1, .ref (V.2.2 7)), (2, .int x2), (3, .int x3)]) hx hb d_Lin_dropRegion_45 hl (k := 4) rfl (by rw [ez6]; rfl) (by decide) rfl (fun ls hl => ?_)
      refine lv_goto (tgt := 5) hx hb d_Lin_dropRegion_48 (by decide) ?_
      exact hK5 _ _ _ _ _ _ _ h hI (lv_sub hl [1, 2, 3, 4, 0] rfl)
    · have h := h.2 c5
      refine lv_aload_n hx hb d_Lin_dropRegion_29 rfl (lv_at hl 0 rfl) ?_
      refine x_get C hI (d := 8) (by decide) (xE8 V _) fd_Lin_9 rfl d_Lin_dropRegion_30 ?_
      refine lv_iload_n hx hb d_Lin_dropRegion_33 rfl (lv_at hl 3 rfl) ?_
      refine lv_aload_n hx hb d_Lin_dropRegion_34 rfl (lv_at hl 0 rfl) ?_
      refine x_get C hI (d := 8) (by decide) (xE8 V _) fd_Lin_9 rfl d_Lin_dropRegion_35 ?_
      refine lv_iload hx hb d_Lin_dropRegion_38 (lv_at hl 4 rfl) ?_
      obtain ⟨i7, h⟩ := h
      refine x_iald C hI (d := 24) (by decide) (xE24 V) i7 d_Lin_dropRegion_40 ?_
      obtain ⟨i8, h⟩ := h
      refine x_iast C hI (d := 24) (by decide) (xE24 V) i8 d_Lin_dropRegion_41 (fun H locs hI => ?_)
      obtain ⟨z9, ez9⟩ : ∃ y : Int32, y = x3 + 1 := ⟨_, rfl⟩
      have h := h z9 ez9
      refine lv_iinc (v := z9) (lv' := [(3, .int z9), (0, .ref (V.2.2 8)), (1, .ref (V.2.2 7)), (2, .int x2), (4, .int x4)]) hx hb d_Lin_dropRegion_42 hl (k := 3) rfl (by rw [ez9]; rfl) (by decide) rfl (fun ls hl => ?_)
      obtain ⟨z10, ez10⟩ : ∃ y : Int32, y = x4 + 1 := ⟨_, rfl⟩
      have h := h z10 ez10
      refine lv_iinc (v := z10) (lv' := [(4, .int z10), (3, .int z9), (0, .ref (V.2.2 8)), (1, .ref (V.2.2 7)), (2, .int x2)]) hx hb d_Lin_dropRegion_45 hl (k := 4) rfl (by rw [ez10]; rfl) (by decide) rfl (fun ls hl => ?_)
      refine lv_goto (tgt := 5) hx hb d_Lin_dropRegion_48 (by decide) ?_
      exact hK5 _ _ _ _ _ _ _ h hI (lv_sub hl [2, 3, 4, 1, 0] rfl)
theorem w_Lin_dropRegion_8_7_L5 {p : Program} {l : Launch} {e : Env} {s : State} {m : MethodId} {args : Array Value} {below : List Frame} {meth : Method} {c : Code} {V : xV} (C : xC p s m args c cd_Lin_dropRegion 5 R_Lin V) (hlocks : meth.locks = false) (hr : meth.sig.returnType = none) {Q : xS → Prop} : ∀ (n : Nat) (x2 : Int32) (x3 : Int32) (x4 : Int32) (σ : xS) (H : Heap) (locs : List Loc) (ls : Array Slot), p_Lin_dropRegion_8_7_L5 Q n x2 x3 x4 σ → xI V s.heap σ H locs → lv_has ls 5 [(0, .ref (V.2.2 8)), (1, .ref (V.2.2 7)), (2, .int x2), (3, .int x3), (4, .int x4)] → W p l e rm_Lin_dropRegion_8_7 s m args below meth c H locs 0 0 (xZv below V args s Q) (F0 m 5 ls []) := by
  intro n
  induction n with
  | zero =>
    intro x2 x3 x4 σ H locs ls h
    exact False.elim h
  | succ n ih =>
    intro x2 x3 x4 σ H locs ls h hI hl
    exact s_Lin_dropRegion_8_7_L5 C hlocks hr (K5 := p_Lin_dropRegion_8_7_L5 Q n) (fun x2 x3 x4 σ H locs ls h hI hl => ih x2 x3 x4 σ H locs ls h hI hl) h hI hl
set_option maxRecDepth 100000 in
set_option maxHeartbeats 4000000 in
theorem c_Lin_dropRegion_8_7 {l : Launch} {V : xV} {σ : xS} {x2 : Int32} {Q : xS → Prop} (h : p_Lin_dropRegion_8_7 x2 σ Q) : xMv l y_Lin_dropRegion (.code y_Lin_dropRegion cd_Lin_dropRegion 5 none :: xG) rm_Lin_dropRegion_8_7 V [.ref (V.2.2 8), .ref (V.2.2 7), .int x2] σ Q := by
  refine x_beginv (by decide) (Nat.le_of_ble_eq_true rfl) (fun p e s m below meth c ls C hlocks hr hI hl => ?_)
  have C : xC p s m _ c cd_Lin_dropRegion 5 R_Lin V := C
  have hx := C.1
  have hb := C.2.1
  have hl : lv_has ls 5 [(0, .ref (V.2.2 8)), (1, .ref (V.2.2 7)), (2, .int x2)] := hl
  unfold p_Lin_dropRegion_8_7 at h
  refine lv_iconst (v := 0) hx hb d_Lin_dropRegion_0 (by decide) ?_
  refine lv_istore_n (lv' := [(3, .int 0), (0, .ref (V.2.2 8)), (1, .ref (V.2.2 7)), (2, .int x2)]) hx hb d_Lin_dropRegion_1 rfl hl (by decide) rfl (fun ls hl => ?_)
  refine lv_iconst (v := 0) hx hb d_Lin_dropRegion_2 (by decide) ?_
  refine lv_istore (lv' := [(4, .int 0), (3, .int 0), (0, .ref (V.2.2 8)), (1, .ref (V.2.2 7)), (2, .int x2)]) hx hb d_Lin_dropRegion_3 hl (by decide) rfl (fun ls hl => ?_)
  obtain ⟨n, h⟩ := h
  exact w_Lin_dropRegion_8_7_L5 C hlocks hr n _ _ _ _ _ _ _ h hI (lv_sub hl [2, 3, 4, 1, 0] rfl)
def b_Lin_dropRegion_9_7_L5 (K5 : Int32 → Int32 → Int32 → xS → Prop) (Q : xS → Prop) (x2 x3 x4 : Int32) (σ : xS) : Prop :=
  (((σ 9 1) ≤ x4 → Q (xu σ 9 1 x3)) ∧ (¬ (σ 9 1) ≤ x4 → (vp_in x4 640 ∧ p_Reg_ofPlace (σ 25 x4.toNatClampNeg) σ (fun r4 σ3 => ((r4 = x2 → (∀ z6 : Int32, z6 = x4 + 1 → K5 x2 x3 z6 σ3)) ∧ (¬ r4 = x2 → (vp_in x4 640 ∧ (vp_in x3 640 ∧ (∀ z9 : Int32, z9 = x3 + 1 → (∀ z10 : Int32, z10 = x4 + 1 → K5 x2 z9 z10 (xu σ3 25 x3.toNatClampNeg (σ3 25 x4.toNatClampNeg))))))))))))
def p_Lin_dropRegion_9_7_L5 (Q : xS → Prop) (n : Nat) : Int32 → Int32 → Int32 → xS → Prop := Nat.rec (motive := fun _ => Int32 → Int32 → Int32 → xS → Prop) (fun _ _ _ _ => False) (fun _ K x2 x3 x4 σ => b_Lin_dropRegion_9_7_L5 K Q x2 x3 x4 σ) n
def p_Lin_dropRegion_9_7 (x2 : Int32) (σ : xS) (Q : xS → Prop) : Prop :=
  (∃ n, p_Lin_dropRegion_9_7_L5 Q n x2 0 0 σ)
abbrev rm_Lin_dropRegion_9_7 : Room := { frames := 1, cells := 0, slots := 0, locals := 21 }
set_option maxRecDepth 100000 in
set_option maxHeartbeats 4000000 in
theorem s_Lin_dropRegion_9_7_L5 {p : Program} {l : Launch} {e : Env} {s : State} {m : MethodId} {args : Array Value} {below : List Frame} {meth : Method} {c : Code} {V : xV} (C : xC p s m args c cd_Lin_dropRegion 5 R_Lin V) (hlocks : meth.locks = false) (hr : meth.sig.returnType = none) {Q : xS → Prop} {K5 : Int32 → Int32 → Int32 → xS → Prop} (hK5 : ∀ (x2 : Int32) (x3 : Int32) (x4 : Int32) (σ : xS) (H : Heap) (locs : List Loc) (ls : Array Slot), K5 x2 x3 x4 σ → xI V s.heap σ H locs → lv_has ls 5 [(0, .ref (V.2.2 9)), (1, .ref (V.2.2 7)), (2, .int x2), (3, .int x3), (4, .int x4)] → W p l e rm_Lin_dropRegion_9_7 s m args below meth c H locs 0 0 (xZv below V args s Q) (F0 m 5 ls [])) {x2 x3 x4 : Int32} {σ : xS} {H : Heap} {locs : List Loc} {ls : Array Slot} (h : b_Lin_dropRegion_9_7_L5 K5 Q x2 x3 x4 σ) (hI : xI V s.heap σ H locs) (hl : lv_has ls 5 [(0, .ref (V.2.2 9)), (1, .ref (V.2.2 7)), (2, .int x2), (3, .int x3), (4, .int x4)]) : W p l e rm_Lin_dropRegion_9_7 s m args below meth c H locs 0 0 (xZv below V args s Q) (F0 m 5 ls []) := by
  have hx := C.1
  have hb := C.2.1
  unfold b_Lin_dropRegion_9_7_L5 at h
  refine lv_iload hx hb d_Lin_dropRegion_5 (lv_at hl 4 rfl) ?_
  refine lv_aload_n hx hb d_Lin_dropRegion_7 rfl (lv_at hl 0 rfl) ?_
  refine x_get C hI (d := 9) (by decide) (xE9 V _) fd_Lin_15 rfl d_Lin_dropRegion_8 ?_
  refine lv_icmp_ge (tgt := 51) hx hb d_Lin_dropRegion_11 (by decide) (fun c1 => ?_) (fun c1 => ?_)
  · have h := h.1 c1
    refine lv_aload_n hx hb d_Lin_dropRegion_51 rfl (lv_at hl 0 rfl) ?_
    refine lv_iload_n hx hb d_Lin_dropRegion_52 rfl (lv_at hl 3 rfl) ?_
    refine x_put C hI (d := 9) (by decide) (xE9 V _) (xP_9_1 V _ _) fw_Lin_15 (Nat.le_of_ble_eq_true rfl) d_Lin_dropRegion_53 (fun H locs hI => ?_)
    exact x_vret C hlocks hr hI h d_Lin_dropRegion_56
  · have h := h.2 c1
    refine lv_aload_n hx hb d_Lin_dropRegion_14 rfl (lv_at hl 1 rfl) ?_
    refine lv_aload_n hx hb d_Lin_dropRegion_15 rfl (lv_at hl 0 rfl) ?_
    refine x_get C hI (d := 9) (by decide) (xE9 V _) fd_Lin_9 rfl d_Lin_dropRegion_16 ?_
    refine lv_iload hx hb d_Lin_dropRegion_19 (lv_at hl 4 rfl) ?_
    obtain ⟨i2, h⟩ := h
    refine x_iald C hI (d := 25) (by decide) (xE25 V) i2 d_Lin_dropRegion_21 ?_
    refine x_calli C hI hl.1 (d := 7) (As := [.int (σ 25 x4.toNatClampNeg)]) (rest := []) (by decide) (c_Reg_ofPlace h) (xE7 V _) rfl yw_Reg_ofPlace ml_Lin_19 rfl rfl ⟨Nat.le_of_ble_eq_true rfl, Nat.le_of_ble_eq_true rfl⟩ rfl rfl (Nat.le_of_ble_eq_true rfl) d_Lin_dropRegion_22 ⟨Nat.zero_le _, Nat.zero_le _⟩ (fun r4 σ3 H locs h hI => ?_)
    refine lv_iload_n hx hb d_Lin_dropRegion_25 rfl (lv_at hl 2 rfl) ?_
    refine lv_icmp_eq (tgt := 45) hx hb d_Lin_dropRegion_26 (by decide) (fun c5 => ?_) (fun c5 => ?_)
    · have h := h.1 c5
      obtain ⟨z6, ez6⟩ : ∃ y : Int32, y = x4 + 1 := ⟨_, rfl⟩
      have h := h z6 ez6
      refine lv_iinc (v := z6) (lv' := [(4, .int z6), (0, .ref (V.2.2 9)), (1, .ref (V.2.2 7)), (2, .int x2), (3, .int x3)]) hx hb d_Lin_dropRegion_45 hl (k := 4) rfl (by rw [ez6]; rfl) (by decide) rfl (fun ls hl => ?_)
      refine lv_goto (tgt := 5) hx hb d_Lin_dropRegion_48 (by decide) ?_
      exact hK5 _ _ _ _ _ _ _ h hI (lv_sub hl [1, 2, 3, 4, 0] rfl)
    · have h := h.2 c5
      refine lv_aload_n hx hb d_Lin_dropRegion_29 rfl (lv_at hl 0 rfl) ?_
      refine x_get C hI (d := 9) (by decide) (xE9 V _) fd_Lin_9 rfl d_Lin_dropRegion_30 ?_
      refine lv_iload_n hx hb d_Lin_dropRegion_33 rfl (lv_at hl 3 rfl) ?_
      refine lv_aload_n hx hb d_Lin_dropRegion_34 rfl (lv_at hl 0 rfl) ?_
      refine x_get C hI (d := 9) (by decide) (xE9 V _) fd_Lin_9 rfl d_Lin_dropRegion_35 ?_
      refine lv_iload hx hb d_Lin_dropRegion_38 (lv_at hl 4 rfl) ?_
      obtain ⟨i7, h⟩ := h
      refine x_iald C hI (d := 25) (by decide) (xE25 V) i7 d_Lin_dropRegion_40 ?_
      obtain ⟨i8, h⟩ := h
      refine x_iast C hI (d := 25) (by decide) (xE25 V) i8 d_Lin_dropRegion_41 (fun H locs hI => ?_)
      obtain ⟨z9, ez9⟩ : ∃ y : Int32, y = x3 + 1 := ⟨_, rfl⟩
      have h := h z9 ez9
      refine lv_iinc (v := z9) (lv' := [(3, .int z9), (0, .ref (V.2.2 9)), (1, .ref (V.2.2 7)), (2, .int x2), (4, .int x4)]) hx hb d_Lin_dropRegion_42 hl (k := 3) rfl (by rw [ez9]; rfl) (by decide) rfl (fun ls hl => ?_)
      obtain ⟨z10, ez10⟩ : ∃ y : Int32, y = x4 + 1 := ⟨_, rfl⟩
      have h := h z10 ez10
      refine lv_iinc (v := z10) (lv' := [(4, .int z10), (3, .int z9), (0, .ref (V.2.2 9)), (1, .ref (V.2.2 7)), (2, .int x2)]) hx hb d_Lin_dropRegion_45 hl (k := 4) rfl (by rw [ez10]; rfl) (by decide) rfl (fun ls hl => ?_)
      refine lv_goto (tgt := 5) hx hb d_Lin_dropRegion_48 (by decide) ?_
      exact hK5 _ _ _ _ _ _ _ h hI (lv_sub hl [2, 3, 4, 1, 0] rfl)
theorem w_Lin_dropRegion_9_7_L5 {p : Program} {l : Launch} {e : Env} {s : State} {m : MethodId} {args : Array Value} {below : List Frame} {meth : Method} {c : Code} {V : xV} (C : xC p s m args c cd_Lin_dropRegion 5 R_Lin V) (hlocks : meth.locks = false) (hr : meth.sig.returnType = none) {Q : xS → Prop} : ∀ (n : Nat) (x2 : Int32) (x3 : Int32) (x4 : Int32) (σ : xS) (H : Heap) (locs : List Loc) (ls : Array Slot), p_Lin_dropRegion_9_7_L5 Q n x2 x3 x4 σ → xI V s.heap σ H locs → lv_has ls 5 [(0, .ref (V.2.2 9)), (1, .ref (V.2.2 7)), (2, .int x2), (3, .int x3), (4, .int x4)] → W p l e rm_Lin_dropRegion_9_7 s m args below meth c H locs 0 0 (xZv below V args s Q) (F0 m 5 ls []) := by
  intro n
  induction n with
  | zero =>
    intro x2 x3 x4 σ H locs ls h
    exact False.elim h
  | succ n ih =>
    intro x2 x3 x4 σ H locs ls h hI hl
    exact s_Lin_dropRegion_9_7_L5 C hlocks hr (K5 := p_Lin_dropRegion_9_7_L5 Q n) (fun x2 x3 x4 σ H locs ls h hI hl => ih x2 x3 x4 σ H locs ls h hI hl) h hI hl
set_option maxRecDepth 100000 in
set_option maxHeartbeats 4000000 in
theorem c_Lin_dropRegion_9_7 {l : Launch} {V : xV} {σ : xS} {x2 : Int32} {Q : xS → Prop} (h : p_Lin_dropRegion_9_7 x2 σ Q) : xMv l y_Lin_dropRegion (.code y_Lin_dropRegion cd_Lin_dropRegion 5 none :: xG) rm_Lin_dropRegion_9_7 V [.ref (V.2.2 9), .ref (V.2.2 7), .int x2] σ Q := by
  refine x_beginv (by decide) (Nat.le_of_ble_eq_true rfl) (fun p e s m below meth c ls C hlocks hr hI hl => ?_)
  have C : xC p s m _ c cd_Lin_dropRegion 5 R_Lin V := C
  have hx := C.1
  have hb := C.2.1
  have hl : lv_has ls 5 [(0, .ref (V.2.2 9)), (1, .ref (V.2.2 7)), (2, .int x2)] := hl
  unfold p_Lin_dropRegion_9_7 at h
  refine lv_iconst (v := 0) hx hb d_Lin_dropRegion_0 (by decide) ?_
  refine lv_istore_n (lv' := [(3, .int 0), (0, .ref (V.2.2 9)), (1, .ref (V.2.2 7)), (2, .int x2)]) hx hb d_Lin_dropRegion_1 rfl hl (by decide) rfl (fun ls hl => ?_)
  refine lv_iconst (v := 0) hx hb d_Lin_dropRegion_2 (by decide) ?_
  refine lv_istore (lv' := [(4, .int 0), (3, .int 0), (0, .ref (V.2.2 9)), (1, .ref (V.2.2 7)), (2, .int x2)]) hx hb d_Lin_dropRegion_3 hl (by decide) rfl (fun ls hl => ?_)
  obtain ⟨n, h⟩ := h
  exact w_Lin_dropRegion_9_7_L5 C hlocks hr n _ _ _ _ _ _ _ h hI (lv_sub hl [2, 3, 4, 1, 0] rfl)
def y_Mar_isLive : MethodName := ⟨"RegionPool$Marker", "isLive", "(I)Z"⟩
abbrev cd_Mar_isLive : ByteArray := prog_6_method_2_code
theorem fd_Mar_15 : xFd R_Mar 15 9 1 := ⟨R_Mar, T_Mar, 4, rfl, in_Mar, by decide, xG_mem 208 (by decide +kernel) (by decide +kernel)⟩
def p_Mar_isLive (x1 : Int32) (σ : xS) (Q : Int32 → xS → Prop) : Prop :=
  (vp_in x1 640 ∧ (narrow .boolean (.int (σ 26 x1.toNatClampNeg)) = .int (σ 26 x1.toNatClampNeg) ∧ Q (σ 26 x1.toNatClampNeg) σ))
abbrev rm_Mar_isLive : Room := { frames := 0, cells := 0, slots := 0, locals := 0 }
theorem d_Mar_isLive_0 : decode cd_Mar_isLive 0 = .ok (.aload_n 0, 1) := by decide +kernel
theorem d_Mar_isLive_1 : decode cd_Mar_isLive 1 = .ok (.getfield 15, 3) := by decide +kernel
theorem d_Mar_isLive_4 : decode cd_Mar_isLive 4 = .ok (.iload_n 1, 1) := by decide +kernel
theorem d_Mar_isLive_5 : decode cd_Mar_isLive 5 = .ok (.baload, 1) := by decide +kernel
theorem d_Mar_isLive_6 : decode cd_Mar_isLive 6 = .ok (.ireturn, 1) := by decide +kernel
set_option maxRecDepth 100000 in
set_option maxHeartbeats 4000000 in
theorem c_Mar_isLive {l : Launch} {V : xV} {σ : xS} {x1 : Int32} {Q : Int32 → xS → Prop} (h : p_Mar_isLive x1 σ Q) : xMi l y_Mar_isLive (.code y_Mar_isLive cd_Mar_isLive 2 (some .boolean) :: xG) rm_Mar_isLive V [.ref (V.2.2 11), .int x1] σ Q := by
  refine x_begini (by decide) (Nat.le_of_ble_eq_true rfl) (fun p e s m below meth c ls C hlocks hr hI hl => ?_)
  have C : xC p s m _ c cd_Mar_isLive 2 R_Mar V := C
  have hx := C.1
  have hb := C.2.1
  have hl : lv_has ls 2 [(0, .ref (V.2.2 11)), (1, .int x1)] := hl
  unfold p_Mar_isLive at h
  refine lv_aload_n hx hb d_Mar_isLive_0 rfl (lv_at hl 0 rfl) ?_
  refine x_get C hI (d := 11) (by decide) (xE11 V _) fd_Mar_15 rfl d_Mar_isLive_1 ?_
  refine lv_iload_n hx hb d_Mar_isLive_4 rfl (lv_at hl 1 rfl) ?_
  obtain ⟨i1, h⟩ := h
  refine x_zald C hI (d := 26) (by decide) (xE26 V) i1 d_Mar_isLive_5 ?_
  exact x_zret C hlocks hr hI h d_Mar_isLive_6
def y_Lin_handOverDead : MethodName := ⟨"RegionPool$Line", "handOverDead", "(LRegionPool$Marker;LRegionPool$Line;)V"⟩
abbrev cd_Lin_handOverDead : ByteArray := prog_5_method_8_code
theorem yw_Mar_isLive : xY y_Mar_isLive cd_Mar_isLive 2 (some .boolean) 1 := ⟨xG_mem 598 (by decide +kernel) (by decide +kernel), xG_mem 599 (by decide +kernel) (by decide +kernel), xG_mem 62 (by decide +kernel) (by decide +kernel), xG_mem 600 (by decide +kernel) (by decide +kernel), by decide, by decide, by decide +kernel⟩
theorem ml_Lin_25 : Cond.methodLink R_Lin 25 y_Mar_isLive ∈ xG := xG_mem 613 (by decide +kernel) (by decide +kernel)
theorem yw_Lin_append : xY y_Lin_append cd_Lin_append 2 none 1 := ⟨xG_mem 615 (by decide +kernel) (by decide +kernel), xG_mem 616 (by decide +kernel) (by decide +kernel), xG_mem 60 (by decide +kernel) (by decide +kernel), xG_mem 617 (by decide +kernel) (by decide +kernel), by decide, by decide, by decide +kernel⟩
theorem ml_Lin_31 : Cond.methodLink R_Lin 31 y_Lin_append ∈ xG := xG_mem 614 (by decide +kernel) (by decide +kernel)
def b_Lin_handOverDead_9_11_8_L5 (K5 : Int32 → Int32 → xS → Prop) (Q : xS → Prop) (x3 x4 : Int32) (σ : xS) : Prop :=
  (((σ 9 1) ≤ x4 → Q (xu σ 9 1 x3)) ∧ (¬ (σ 9 1) ≤ x4 → (vp_in x4 640 ∧ p_Mar_isLive (σ 25 x4.toNatClampNeg) σ (fun r4 σ3 => ((r4 = 0 → (vp_in x4 640 ∧ p_Lin_append_8 (σ3 25 x4.toNatClampNeg) σ3 (fun σ7 => (∀ z8 : Int32, z8 = x4 + 1 → K5 x3 z8 σ7)))) ∧ (¬ r4 = 0 → (vp_in x4 640 ∧ (vp_in x3 640 ∧ (∀ z11 : Int32, z11 = x3 + 1 → (∀ z12 : Int32, z12 = x4 + 1 → K5 z11 z12 (xu σ3 25 x3.toNatClampNeg (σ3 25 x4.toNatClampNeg))))))))))))
def p_Lin_handOverDead_9_11_8_L5 (Q : xS → Prop) (n : Nat) : Int32 → Int32 → xS → Prop := Nat.rec (motive := fun _ => Int32 → Int32 → xS → Prop) (fun _ _ _ => False) (fun _ K x3 x4 σ => b_Lin_handOverDead_9_11_8_L5 K Q x3 x4 σ) n
def p_Lin_handOverDead_9_11_8 (σ : xS) (Q : xS → Prop) : Prop :=
  (∃ n, p_Lin_handOverDead_9_11_8_L5 Q n 0 0 σ)
abbrev rm_Lin_handOverDead_9_11_8 : Room := { frames := 1, cells := 0, slots := 0, locals := 21 }
theorem d_Lin_handOverDead_0 : decode cd_Lin_handOverDead 0 = .ok (.iconst 0, 1) := by decide +kernel
theorem d_Lin_handOverDead_1 : decode cd_Lin_handOverDead 1 = .ok (.istore_n 3, 1) := by decide +kernel
theorem d_Lin_handOverDead_2 : decode cd_Lin_handOverDead 2 = .ok (.iconst 0, 1) := by decide +kernel
theorem d_Lin_handOverDead_3 : decode cd_Lin_handOverDead 3 = .ok (.istore 4, 2) := by decide +kernel
theorem d_Lin_handOverDead_5 : decode cd_Lin_handOverDead 5 = .ok (.iload 4, 2) := by decide +kernel
theorem d_Lin_handOverDead_7 : decode cd_Lin_handOverDead 7 = .ok (.aload_n 0, 1) := by decide +kernel
theorem d_Lin_handOverDead_8 : decode cd_Lin_handOverDead 8 = .ok (.getfield 15, 3) := by decide +kernel
theorem d_Lin_handOverDead_11 : decode cd_Lin_handOverDead 11 = .ok (.if_icmp .ge 53, 3) := by decide +kernel
theorem d_Lin_handOverDead_14 : decode cd_Lin_handOverDead 14 = .ok (.aload_n 1, 1) := by decide +kernel
theorem d_Lin_handOverDead_15 : decode cd_Lin_handOverDead 15 = .ok (.aload_n 0, 1) := by decide +kernel
theorem d_Lin_handOverDead_16 : decode cd_Lin_handOverDead 16 = .ok (.getfield 9, 3) := by decide +kernel
theorem d_Lin_handOverDead_19 : decode cd_Lin_handOverDead 19 = .ok (.iload 4, 2) := by decide +kernel
theorem d_Lin_handOverDead_21 : decode cd_Lin_handOverDead 21 = .ok (.iaload, 1) := by decide +kernel
theorem d_Lin_handOverDead_22 : decode cd_Lin_handOverDead 22 = .ok (.invokevirtual 25, 3) := by decide +kernel
theorem d_Lin_handOverDead_25 : decode cd_Lin_handOverDead 25 = .ok (.ifCond .eq 22, 3) := by decide +kernel
theorem d_Lin_handOverDead_28 : decode cd_Lin_handOverDead 28 = .ok (.aload_n 0, 1) := by decide +kernel
theorem d_Lin_handOverDead_29 : decode cd_Lin_handOverDead 29 = .ok (.getfield 9, 3) := by decide +kernel
theorem d_Lin_handOverDead_32 : decode cd_Lin_handOverDead 32 = .ok (.iload_n 3, 1) := by decide +kernel
theorem d_Lin_handOverDead_33 : decode cd_Lin_handOverDead 33 = .ok (.aload_n 0, 1) := by decide +kernel
theorem d_Lin_handOverDead_34 : decode cd_Lin_handOverDead 34 = .ok (.getfield 9, 3) := by decide +kernel
theorem d_Lin_handOverDead_37 : decode cd_Lin_handOverDead 37 = .ok (.iload 4, 2) := by decide +kernel
theorem d_Lin_handOverDead_39 : decode cd_Lin_handOverDead 39 = .ok (.iaload, 1) := by decide +kernel
theorem d_Lin_handOverDead_40 : decode cd_Lin_handOverDead 40 = .ok (.iastore, 1) := by decide +kernel
theorem d_Lin_handOverDead_41 : decode cd_Lin_handOverDead 41 = .ok (.iinc 3 1, 3) := by decide +kernel
theorem d_Lin_handOverDead_44 : decode cd_Lin_handOverDead 44 = .ok (.goto 14, 3) := by decide +kernel
theorem d_Lin_handOverDead_47 : decode cd_Lin_handOverDead 47 = .ok (.aload_n 2, 1) := by decide +kernel
theorem d_Lin_handOverDead_48 : decode cd_Lin_handOverDead 48 = .ok (.aload_n 0, 1) := by decide +kernel
theorem d_Lin_handOverDead_49 : decode cd_Lin_handOverDead 49 = .ok (.getfield 9, 3) := by decide +kernel
theorem d_Lin_handOverDead_52 : decode cd_Lin_handOverDead 52 = .ok (.iload 4, 2) := by decide +kernel
theorem d_Lin_handOverDead_54 : decode cd_Lin_handOverDead 54 = .ok (.iaload, 1) := by decide +kernel
theorem d_Lin_handOverDead_55 : decode cd_Lin_handOverDead 55 = .ok (.invokevirtual 31, 3) := by decide +kernel
theorem d_Lin_handOverDead_58 : decode cd_Lin_handOverDead 58 = .ok (.iinc 4 1, 3) := by decide +kernel
theorem d_Lin_handOverDead_61 : decode cd_Lin_handOverDead 61 = .ok (.goto (-56), 3) := by decide +kernel
theorem d_Lin_handOverDead_64 : decode cd_Lin_handOverDead 64 = .ok (.aload_n 0, 1) := by decide +kernel
theorem d_Lin_handOverDead_65 : decode cd_Lin_handOverDead 65 = .ok (.iload_n 3, 1) := by decide +kernel
theorem d_Lin_handOverDead_66 : decode cd_Lin_handOverDead 66 = .ok (.putfield 15, 3) := by decide +kernel
theorem d_Lin_handOverDead_69 : decode cd_Lin_handOverDead 69 = .ok (.return_, 1) := by decide +kernel
set_option maxRecDepth 100000 in
set_option maxHeartbeats 4000000 in
theorem s_Lin_handOverDead_9_11_8_L5 {p : Program} {l : Launch} {e : Env} {s : State} {m : MethodId} {args : Array Value} {below : List Frame} {meth : Method} {c : Code} {V : xV} (C : xC p s m args c cd_Lin_handOverDead 5 R_Lin V) (hlocks : meth.locks = false) (hr : meth.sig.returnType = none) {Q : xS → Prop} {K5 : Int32 → Int32 → xS → Prop} (hK5 : ∀ (x3 : Int32) (x4 : Int32) (σ : xS) (H : Heap) (locs : List Loc) (ls : Array Slot), K5 x3 x4 σ → xI V s.heap σ H locs → lv_has ls 5 [(0, .ref (V.2.2 9)), (1, .ref (V.2.2 11)), (2, .ref (V.2.2 8)), (3, .int x3), (4, .int x4)] → W p l e rm_Lin_handOverDead_9_11_8 s m args below meth c H locs 0 0 (xZv below V args s Q) (F0 m 5 ls [])) {x3 x4 : Int32} {σ : xS} {H : Heap} {locs : List Loc} {ls : Array Slot} (h : b_Lin_handOverDead_9_11_8_L5 K5 Q x3 x4 σ) (hI : xI V s.heap σ H locs) (hl : lv_has ls 5 [(0, .ref (V.2.2 9)), (1, .ref (V.2.2 11)), (2, .ref (V.2.2 8)), (3, .int x3), (4, .int x4)]) : W p l e rm_Lin_handOverDead_9_11_8 s m args below meth c H locs 0 0 (xZv below V args s Q) (F0 m 5 ls []) := by
  have hx := C.1
  have hb := C.2.1
  unfold b_Lin_handOverDead_9_11_8_L5 at h
  refine lv_iload hx hb d_Lin_handOverDead_5 (lv_at hl 4 rfl) ?_
  refine lv_aload_n hx hb d_Lin_handOverDead_7 rfl (lv_at hl 0 rfl) ?_
  refine x_get C hI (d := 9) (by decide) (xE9 V _) fd_Lin_15 rfl d_Lin_handOverDead_8 ?_
  refine lv_icmp_ge (tgt := 64) hx hb d_Lin_handOverDead_11 (by decide) (fun c1 => ?_) (fun c1 => ?_)
  · have h := h.1 c1
    refine lv_aload_n hx hb d_Lin_handOverDead_64 rfl (lv_at hl 0 rfl) ?_
    refine lv_iload_n hx hb d_Lin_handOverDead_65 rfl (lv_at hl 3 rfl) ?_
    refine x_put C hI (d := 9) (by decide) (xE9 V _) (xP_9_1 V _ _) fw_Lin_15 (Nat.le_of_ble_eq_true rfl) d_Lin_handOverDead_66 (fun H locs hI => ?_)
    exact x_vret C hlocks hr hI h d_Lin_handOverDead_69
  · have h := h.2 c1
    refine lv_aload_n hx hb d_Lin_handOverDead_14 rfl (lv_at hl 1 rfl) ?_
    refine lv_aload_n hx hb d_Lin_handOverDead_15 rfl (lv_at hl 0 rfl) ?_
    refine x_get C hI (d := 9) (by decide) (xE9 V _) fd_Lin_9 rfl d_Lin_handOverDead_16 ?_
    refine lv_iload hx hb d_Lin_handOverDead_19 (lv_at hl 4 rfl) ?_
    obtain ⟨i2, h⟩ := h
    refine x_iald C hI (d := 25) (by decide) (xE25 V) i2 d_Lin_handOverDead_21 ?_
    refine x_calli C hI hl.1 (d := 11) (As := [.int (σ 25 x4.toNatClampNeg)]) (rest := []) (by decide) (c_Mar_isLive h) (xE11 V _) rfl yw_Mar_isLive ml_Lin_25 rfl rfl ⟨Nat.le_of_ble_eq_true rfl, Nat.le_of_ble_eq_true rfl⟩ rfl rfl (Nat.le_of_ble_eq_true rfl) d_Lin_handOverDead_22 ⟨Nat.zero_le _, Nat.zero_le _⟩ (fun r4 σ3 H locs h hI => ?_)
    refine lv_if_eq (tgt := 47) hx hb d_Lin_handOverDead_25 (by decide) (fun c5 => ?_) (fun c5 => ?_)
    · have h := h.1 c5
      refine lv_aload_n hx hb d_Lin_handOverDead_47 rfl (lv_at hl 2 rfl) ?_
      refine lv_aload_n hx hb d_Lin_handOverDead_48 rfl (lv_at hl 0 rfl) ?_
      refine x_get C hI (d := 9) (by decide) (xE9 V _) fd_Lin_9 rfl d_Lin_handOverDead_49 ?_
      refine lv_iload hx hb d_Lin_handOverDead_52 (lv_at hl 4 rfl) ?_
      obtain ⟨i6, h⟩ := h
      refine x_iald C hI (d := 25) (by decide) (xE25 V) i6 d_Lin_handOverDead_54 ?_
      refine x_callv C hI hl.1 (d := 8) (As := [.int (σ3 25 x4.toNatClampNeg)]) (rest := []) (by decide) (c_Lin_append_8 h) (xE8 V _) rfl yw_Lin_append ml_Lin_31 rfl rfl ⟨Nat.le_of_ble_eq_true rfl, Nat.le_of_ble_eq_true rfl⟩ rfl rfl (Nat.le_of_ble_eq_true rfl) d_Lin_handOverDead_55 ⟨Nat.zero_le _, Nat.zero_le _⟩ (fun σ7 H locs h hI => ?_)
      obtain ⟨z8, ez8⟩ : ∃ y : Int32, y = x4 + 1 := ⟨_, rfl⟩
      have h := h z8 ez8
      refine lv_iinc (v := z8) (lv' := [(4, .int z8), (0, .ref (V.2.2 9)), (1, .ref (V.2.2 11)), (2, .ref (V.2.2 8)), (3, .int x3)]) hx hb d_Lin_handOverDead_58 hl (k := 4) rfl (by rw [ez8]; rfl) (by decide) rfl (fun ls hl => ?_)
      refine lv_goto (tgt := 5) hx hb d_Lin_handOverDead_61 (by decide) ?_
      exact hK5 _ _ _ _ _ _ h hI (lv_sub hl [1, 2, 3, 4, 0] rfl)
    · have h := h.2 c5
      refine lv_aload_n hx hb d_Lin_handOverDead_28 rfl (lv_at hl 0 rfl) ?_
      refine x_get C hI (d := 9) (by decide) (xE9 V _) fd_Lin_9 rfl d_Lin_handOverDead_29 ?_
      refine lv_iload_n hx hb d_Lin_handOverDead_32 rfl (lv_at hl 3 rfl) ?_
      refine lv_aload_n hx hb d_Lin_handOverDead_33 rfl (lv_at hl 0 rfl) ?_
      refine x_get C hI (d := 9) (by decide) (xE9 V _) fd_Lin_9 rfl d_Lin_handOverDead_34 ?_
      refine lv_iload hx hb d_Lin_handOverDead_37 (lv_at hl 4 rfl) ?_
      obtain ⟨i9, h⟩ := h
      refine x_iald C hI (d := 25) (by decide) (xE25 V) i9 d_Lin_handOverDead_39 ?_
      obtain ⟨i10, h⟩ := h
      refine x_iast C hI (d := 25) (by decide) (xE25 V) i10 d_Lin_handOverDead_40 (fun H locs hI => ?_)
      obtain ⟨z11, ez11⟩ : ∃ y : Int32, y = x3 + 1 := ⟨_, rfl⟩
      have h := h z11 ez11
      refine lv_iinc (v := z11) (lv' := [(3, .int z11), (0, .ref (V.2.2 9)), (1, .ref (V.2.2 11)), (2, .ref (V.2.2 8)), (4, .int x4)]) hx hb d_Lin_handOverDead_41 hl (k := 3) rfl (by rw [ez11]; rfl) (by decide) rfl (fun ls hl => ?_)
      refine lv_goto (tgt := 58) hx hb d_Lin_handOverDead_44 (by decide) ?_
      obtain ⟨z12, ez12⟩ : ∃ y : Int32, y = x4 + 1 := ⟨_, rfl⟩
      have h := h z12 ez12
      refine lv_iinc (v := z12) (lv' := [(4, .int z12), (3, .int z11), (0, .ref (V.2.2 9)), (1, .ref (V.2.2 11)), (2, .ref (V.2.2 8))]) hx hb d_Lin_handOverDead_58 hl (k := 4) rfl (by rw [ez12]; rfl) (by decide) rfl (fun ls hl => ?_)
      refine lv_goto (tgt := 5) hx hb d_Lin_handOverDead_61 (by decide) ?_
      exact hK5 _ _ _ _ _ _ h hI (lv_sub hl [2, 3, 4, 1, 0] rfl)
theorem w_Lin_handOverDead_9_11_8_L5 {p : Program} {l : Launch} {e : Env} {s : State} {m : MethodId} {args : Array Value} {below : List Frame} {meth : Method} {c : Code} {V : xV} (C : xC p s m args c cd_Lin_handOverDead 5 R_Lin V) (hlocks : meth.locks = false) (hr : meth.sig.returnType = none) {Q : xS → Prop} : ∀ (n : Nat) (x3 : Int32) (x4 : Int32) (σ : xS) (H : Heap) (locs : List Loc) (ls : Array Slot), p_Lin_handOverDead_9_11_8_L5 Q n x3 x4 σ → xI V s.heap σ H locs → lv_has ls 5 [(0, .ref (V.2.2 9)), (1, .ref (V.2.2 11)), (2, .ref (V.2.2 8)), (3, .int x3), (4, .int x4)] → W p l e rm_Lin_handOverDead_9_11_8 s m args below meth c H locs 0 0 (xZv below V args s Q) (F0 m 5 ls []) := by
  intro n
  induction n with
  | zero =>
    intro x3 x4 σ H locs ls h
    exact False.elim h
  | succ n ih =>
    intro x3 x4 σ H locs ls h hI hl
    exact s_Lin_handOverDead_9_11_8_L5 C hlocks hr (K5 := p_Lin_handOverDead_9_11_8_L5 Q n) (fun x3 x4 σ H locs ls h hI hl => ih x3 x4 σ H locs ls h hI hl) h hI hl
set_option maxRecDepth 100000 in
set_option maxHeartbeats 4000000 in
theorem c_Lin_handOverDead_9_11_8 {l : Launch} {V : xV} {σ : xS} {Q : xS → Prop} (h : p_Lin_handOverDead_9_11_8 σ Q) : xMv l y_Lin_handOverDead (.code y_Lin_handOverDead cd_Lin_handOverDead 5 none :: xG) rm_Lin_handOverDead_9_11_8 V [.ref (V.2.2 9), .ref (V.2.2 11), .ref (V.2.2 8)] σ Q := by
  refine x_beginv (by decide) (Nat.le_of_ble_eq_true rfl) (fun p e s m below meth c ls C hlocks hr hI hl => ?_)
  have C : xC p s m _ c cd_Lin_handOverDead 5 R_Lin V := C
  have hx := C.1
  have hb := C.2.1
  have hl : lv_has ls 5 [(0, .ref (V.2.2 9)), (1, .ref (V.2.2 11)), (2, .ref (V.2.2 8))] := hl
  unfold p_Lin_handOverDead_9_11_8 at h
  refine lv_iconst (v := 0) hx hb d_Lin_handOverDead_0 (by decide) ?_
  refine lv_istore_n (lv' := [(3, .int 0), (0, .ref (V.2.2 9)), (1, .ref (V.2.2 11)), (2, .ref (V.2.2 8))]) hx hb d_Lin_handOverDead_1 rfl hl (by decide) rfl (fun ls hl => ?_)
  refine lv_iconst (v := 0) hx hb d_Lin_handOverDead_2 (by decide) ?_
  refine lv_istore (lv' := [(4, .int 0), (3, .int 0), (0, .ref (V.2.2 9)), (1, .ref (V.2.2 11)), (2, .ref (V.2.2 8))]) hx hb d_Lin_handOverDead_3 hl (by decide) rfl (fun ls hl => ?_)
  obtain ⟨n, h⟩ := h
  exact w_Lin_handOverDead_9_11_8_L5 C hlocks hr n _ _ _ _ _ _ h hI (lv_sub hl [2, 3, 4, 1, 0] rfl)
def y_Lin_follow : MethodName := ⟨"RegionPool$Line", "follow", "([I)V"⟩
abbrev cd_Lin_follow : ByteArray := prog_5_method_9_code
def b_Lin_follow_8_10_L2 (K2 : Int32 → xS → Prop) (Q : xS → Prop) (x2 : Int32) (σ : xS) : Prop :=
  (((σ 8 1) ≤ x2 → Q σ) ∧ (¬ (σ 8 1) ≤ x2 → (vp_in x2 640 ∧ (vp_in (σ 24 x2.toNatClampNeg) 640 ∧ (vp_in x2 640 ∧ (∀ z5 : Int32, z5 = x2 + 1 → K2 z5 (xu σ 24 x2.toNatClampNeg (σ 10 (σ 24 x2.toNatClampNeg).toNatClampNeg))))))))
def p_Lin_follow_8_10_L2 (Q : xS → Prop) (n : Nat) : Int32 → xS → Prop := Nat.rec (motive := fun _ => Int32 → xS → Prop) (fun _ _ => False) (fun _ K x2 σ => b_Lin_follow_8_10_L2 K Q x2 σ) n
def p_Lin_follow_8_10 (σ : xS) (Q : xS → Prop) : Prop :=
  (∃ n, p_Lin_follow_8_10_L2 Q n 0 σ)
abbrev rm_Lin_follow_8_10 : Room := { frames := 0, cells := 0, slots := 0, locals := 0 }
theorem d_Lin_follow_0 : decode cd_Lin_follow 0 = .ok (.iconst 0, 1) := by decide +kernel
theorem d_Lin_follow_1 : decode cd_Lin_follow 1 = .ok (.istore_n 2, 1) := by decide +kernel
theorem d_Lin_follow_2 : decode cd_Lin_follow 2 = .ok (.iload_n 2, 1) := by decide +kernel
theorem d_Lin_follow_3 : decode cd_Lin_follow 3 = .ok (.aload_n 0, 1) := by decide +kernel
theorem d_Lin_follow_4 : decode cd_Lin_follow 4 = .ok (.getfield 15, 3) := by decide +kernel
theorem d_Lin_follow_7 : decode cd_Lin_follow 7 = .ok (.if_icmp .ge 23, 3) := by decide +kernel
theorem d_Lin_follow_10 : decode cd_Lin_follow 10 = .ok (.aload_n 0, 1) := by decide +kernel
theorem d_Lin_follow_11 : decode cd_Lin_follow 11 = .ok (.getfield 9, 3) := by decide +kernel
theorem d_Lin_follow_14 : decode cd_Lin_follow 14 = .ok (.iload_n 2, 1) := by decide +kernel
theorem d_Lin_follow_15 : decode cd_Lin_follow 15 = .ok (.aload_n 1, 1) := by decide +kernel
theorem d_Lin_follow_16 : decode cd_Lin_follow 16 = .ok (.aload_n 0, 1) := by decide +kernel
theorem d_Lin_follow_17 : decode cd_Lin_follow 17 = .ok (.getfield 9, 3) := by decide +kernel
theorem d_Lin_follow_20 : decode cd_Lin_follow 20 = .ok (.iload_n 2, 1) := by decide +kernel
theorem d_Lin_follow_21 : decode cd_Lin_follow 21 = .ok (.iaload, 1) := by decide +kernel
theorem d_Lin_follow_22 : decode cd_Lin_follow 22 = .ok (.iaload, 1) := by decide +kernel
theorem d_Lin_follow_23 : decode cd_Lin_follow 23 = .ok (.iastore, 1) := by decide +kernel
theorem d_Lin_follow_24 : decode cd_Lin_follow 24 = .ok (.iinc 2 1, 3) := by decide +kernel
theorem d_Lin_follow_27 : decode cd_Lin_follow 27 = .ok (.goto (-25), 3) := by decide +kernel
theorem d_Lin_follow_30 : decode cd_Lin_follow 30 = .ok (.return_, 1) := by decide +kernel
set_option maxRecDepth 100000 in
set_option maxHeartbeats 4000000 in
theorem s_Lin_follow_8_10_L2 {p : Program} {l : Launch} {e : Env} {s : State} {m : MethodId} {args : Array Value} {below : List Frame} {meth : Method} {c : Code} {V : xV} (C : xC p s m args c cd_Lin_follow 3 R_Lin V) (hlocks : meth.locks = false) (hr : meth.sig.returnType = none) {Q : xS → Prop} {K2 : Int32 → xS → Prop} (hK2 : ∀ (x2 : Int32) (σ : xS) (H : Heap) (locs : List Loc) (ls : Array Slot), K2 x2 σ → xI V s.heap σ H locs → lv_has ls 3 [(0, .ref (V.2.2 8)), (1, .ref (V.2.2 10)), (2, .int x2)] → W p l e rm_Lin_follow_8_10 s m args below meth c H locs 0 0 (xZv below V args s Q) (F0 m 2 ls [])) {x2 : Int32} {σ : xS} {H : Heap} {locs : List Loc} {ls : Array Slot} (h : b_Lin_follow_8_10_L2 K2 Q x2 σ) (hI : xI V s.heap σ H locs) (hl : lv_has ls 3 [(0, .ref (V.2.2 8)), (1, .ref (V.2.2 10)), (2, .int x2)]) : W p l e rm_Lin_follow_8_10 s m args below meth c H locs 0 0 (xZv below V args s Q) (F0 m 2 ls []) := by
  have hx := C.1
  have hb := C.2.1
  unfold b_Lin_follow_8_10_L2 at h
  refine lv_iload_n hx hb d_Lin_follow_2 rfl (lv_at hl 2 rfl) ?_
  refine lv_aload_n hx hb d_Lin_follow_3 rfl (lv_at hl 0 rfl) ?_
  refine x_get C hI (d := 8) (by decide) (xE8 V _) fd_Lin_15 rfl d_Lin_follow_4 ?_
  refine lv_icmp_ge (tgt := 30) hx hb d_Lin_follow_7 (by decide) (fun c1 => ?_) (fun c1 => ?_)
  · have h := h.1 c1
    exact x_vret C hlocks hr hI h d_Lin_follow_30
  · have h := h.2 c1
    refine lv_aload_n hx hb d_Lin_follow_10 rfl (lv_at hl 0 rfl) ?_
    refine x_get C hI (d := 8) (by decide) (xE8 V _) fd_Lin_9 rfl d_Lin_follow_11 ?_
    refine lv_iload_n hx hb d_Lin_follow_14 rfl (lv_at hl 2 rfl) ?_
    refine lv_aload_n hx hb d_Lin_follow_15 rfl (lv_at hl 1 rfl) ?_
    refine lv_aload_n hx hb d_Lin_follow_16 rfl (lv_at hl 0 rfl) ?_
    refine x_get C hI (d := 8) (by decide) (xE8 V _) fd_Lin_9 rfl d_Lin_follow_17 ?_
    refine lv_iload_n hx hb d_Lin_follow_20 rfl (lv_at hl 2 rfl) ?_
    obtain ⟨i2, h⟩ := h
    refine x_iald C hI (d := 24) (by decide) (xE24 V) i2 d_Lin_follow_21 ?_
    obtain ⟨i3, h⟩ := h
    refine x_iald C hI (d := 10) (by decide) (xE10 V) i3 d_Lin_follow_22 ?_
    obtain ⟨i4, h⟩ := h
    refine x_iast C hI (d := 24) (by decide) (xE24 V) i4 d_Lin_follow_23 (fun H locs hI => ?_)
    obtain ⟨z5, ez5⟩ : ∃ y : Int32, y = x2 + 1 := ⟨_, rfl⟩
    have h := h z5 ez5
    refine lv_iinc (v := z5) (lv' := [(2, .int z5), (0, .ref (V.2.2 8)), (1, .ref (V.2.2 10))]) hx hb d_Lin_follow_24 hl (k := 2) rfl (by rw [ez5]; rfl) (by decide) rfl (fun ls hl => ?_)
    refine lv_goto (tgt := 2) hx hb d_Lin_follow_27 (by decide) ?_
    exact hK2 _ _ _ _ _ h hI (lv_sub hl [1, 2, 0] rfl)
theorem w_Lin_follow_8_10_L2 {p : Program} {l : Launch} {e : Env} {s : State} {m : MethodId} {args : Array Value} {below : List Frame} {meth : Method} {c : Code} {V : xV} (C : xC p s m args c cd_Lin_follow 3 R_Lin V) (hlocks : meth.locks = false) (hr : meth.sig.returnType = none) {Q : xS → Prop} : ∀ (n : Nat) (x2 : Int32) (σ : xS) (H : Heap) (locs : List Loc) (ls : Array Slot), p_Lin_follow_8_10_L2 Q n x2 σ → xI V s.heap σ H locs → lv_has ls 3 [(0, .ref (V.2.2 8)), (1, .ref (V.2.2 10)), (2, .int x2)] → W p l e rm_Lin_follow_8_10 s m args below meth c H locs 0 0 (xZv below V args s Q) (F0 m 2 ls []) := by
  intro n
  induction n with
  | zero =>
    intro x2 σ H locs ls h
    exact False.elim h
  | succ n ih =>
    intro x2 σ H locs ls h hI hl
    exact s_Lin_follow_8_10_L2 C hlocks hr (K2 := p_Lin_follow_8_10_L2 Q n) (fun x2 σ H locs ls h hI hl => ih x2 σ H locs ls h hI hl) h hI hl
set_option maxRecDepth 100000 in
set_option maxHeartbeats 4000000 in
theorem c_Lin_follow_8_10 {l : Launch} {V : xV} {σ : xS} {Q : xS → Prop} (h : p_Lin_follow_8_10 σ Q) : xMv l y_Lin_follow (.code y_Lin_follow cd_Lin_follow 3 none :: xG) rm_Lin_follow_8_10 V [.ref (V.2.2 8), .ref (V.2.2 10)] σ Q := by
  refine x_beginv (by decide) (Nat.le_of_ble_eq_true rfl) (fun p e s m below meth c ls C hlocks hr hI hl => ?_)
  have C : xC p s m _ c cd_Lin_follow 3 R_Lin V := C
  have hx := C.1
  have hb := C.2.1
  have hl : lv_has ls 3 [(0, .ref (V.2.2 8)), (1, .ref (V.2.2 10))] := hl
  unfold p_Lin_follow_8_10 at h
  refine lv_iconst (v := 0) hx hb d_Lin_follow_0 (by decide) ?_
  refine lv_istore_n (lv' := [(2, .int 0), (0, .ref (V.2.2 8)), (1, .ref (V.2.2 10))]) hx hb d_Lin_follow_1 rfl hl (by decide) rfl (fun ls hl => ?_)
  obtain ⟨n, h⟩ := h
  exact w_Lin_follow_8_10_L2 C hlocks hr n _ _ _ _ _ h hI (lv_sub hl [1, 2, 0] rfl)
def b_Lin_follow_9_10_L2 (K2 : Int32 → xS → Prop) (Q : xS → Prop) (x2 : Int32) (σ : xS) : Prop :=
  (((σ 9 1) ≤ x2 → Q σ) ∧ (¬ (σ 9 1) ≤ x2 → (vp_in x2 640 ∧ (vp_in (σ 25 x2.toNatClampNeg) 640 ∧ (vp_in x2 640 ∧ (∀ z5 : Int32, z5 = x2 + 1 → K2 z5 (xu σ 25 x2.toNatClampNeg (σ 10 (σ 25 x2.toNatClampNeg).toNatClampNeg))))))))
def p_Lin_follow_9_10_L2 (Q : xS → Prop) (n : Nat) : Int32 → xS → Prop := Nat.rec (motive := fun _ => Int32 → xS → Prop) (fun _ _ => False) (fun _ K x2 σ => b_Lin_follow_9_10_L2 K Q x2 σ) n
def p_Lin_follow_9_10 (σ : xS) (Q : xS → Prop) : Prop :=
  (∃ n, p_Lin_follow_9_10_L2 Q n 0 σ)
abbrev rm_Lin_follow_9_10 : Room := { frames := 0, cells := 0, slots := 0, locals := 0 }
set_option maxRecDepth 100000 in
set_option maxHeartbeats 4000000 in
theorem s_Lin_follow_9_10_L2 {p : Program} {l : Launch} {e : Env} {s : State} {m : MethodId} {args : Array Value} {below : List Frame} {meth : Method} {c : Code} {V : xV} (C : xC p s m args c cd_Lin_follow 3 R_Lin V) (hlocks : meth.locks = false) (hr : meth.sig.returnType = none) {Q : xS → Prop} {K2 : Int32 → xS → Prop} (hK2 : ∀ (x2 : Int32) (σ : xS) (H : Heap) (locs : List Loc) (ls : Array Slot), K2 x2 σ → xI V s.heap σ H locs → lv_has ls 3 [(0, .ref (V.2.2 9)), (1, .ref (V.2.2 10)), (2, .int x2)] → W p l e rm_Lin_follow_9_10 s m args below meth c H locs 0 0 (xZv below V args s Q) (F0 m 2 ls [])) {x2 : Int32} {σ : xS} {H : Heap} {locs : List Loc} {ls : Array Slot} (h : b_Lin_follow_9_10_L2 K2 Q x2 σ) (hI : xI V s.heap σ H locs) (hl : lv_has ls 3 [(0, .ref (V.2.2 9)), (1, .ref (V.2.2 10)), (2, .int x2)]) : W p l e rm_Lin_follow_9_10 s m args below meth c H locs 0 0 (xZv below V args s Q) (F0 m 2 ls []) := by
  have hx := C.1
  have hb := C.2.1
  unfold b_Lin_follow_9_10_L2 at h
  refine lv_iload_n hx hb d_Lin_follow_2 rfl (lv_at hl 2 rfl) ?_
  refine lv_aload_n hx hb d_Lin_follow_3 rfl (lv_at hl 0 rfl) ?_
  refine x_get C hI (d := 9) (by decide) (xE9 V _) fd_Lin_15 rfl d_Lin_follow_4 ?_
  refine lv_icmp_ge (tgt := 30) hx hb d_Lin_follow_7 (by decide) (fun c1 => ?_) (fun c1 => ?_)
  · have h := h.1 c1
    exact x_vret C hlocks hr hI h d_Lin_follow_30
  · have h := h.2 c1
    refine lv_aload_n hx hb d_Lin_follow_10 rfl (lv_at hl 0 rfl) ?_
    refine x_get C hI (d := 9) (by decide) (xE9 V _) fd_Lin_9 rfl d_Lin_follow_11 ?_
    refine lv_iload_n hx hb d_Lin_follow_14 rfl (lv_at hl 2 rfl) ?_
    refine lv_aload_n hx hb d_Lin_follow_15 rfl (lv_at hl 1 rfl) ?_
    refine lv_aload_n hx hb d_Lin_follow_16 rfl (lv_at hl 0 rfl) ?_
    refine x_get C hI (d := 9) (by decide) (xE9 V _) fd_Lin_9 rfl d_Lin_follow_17 ?_
    refine lv_iload_n hx hb d_Lin_follow_20 rfl (lv_at hl 2 rfl) ?_
    obtain ⟨i2, h⟩ := h
    refine x_iald C hI (d := 25) (by decide) (xE25 V) i2 d_Lin_follow_21 ?_
    obtain ⟨i3, h⟩ := h
    refine x_iald C hI (d := 10) (by decide) (xE10 V) i3 d_Lin_follow_22 ?_
    obtain ⟨i4, h⟩ := h
    refine x_iast C hI (d := 25) (by decide) (xE25 V) i4 d_Lin_follow_23 (fun H locs hI => ?_)
    obtain ⟨z5, ez5⟩ : ∃ y : Int32, y = x2 + 1 := ⟨_, rfl⟩
    have h := h z5 ez5
    refine lv_iinc (v := z5) (lv' := [(2, .int z5), (0, .ref (V.2.2 9)), (1, .ref (V.2.2 10))]) hx hb d_Lin_follow_24 hl (k := 2) rfl (by rw [ez5]; rfl) (by decide) rfl (fun ls hl => ?_)
    refine lv_goto (tgt := 2) hx hb d_Lin_follow_27 (by decide) ?_
    exact hK2 _ _ _ _ _ h hI (lv_sub hl [1, 2, 0] rfl)
theorem w_Lin_follow_9_10_L2 {p : Program} {l : Launch} {e : Env} {s : State} {m : MethodId} {args : Array Value} {below : List Frame} {meth : Method} {c : Code} {V : xV} (C : xC p s m args c cd_Lin_follow 3 R_Lin V) (hlocks : meth.locks = false) (hr : meth.sig.returnType = none) {Q : xS → Prop} : ∀ (n : Nat) (x2 : Int32) (σ : xS) (H : Heap) (locs : List Loc) (ls : Array Slot), p_Lin_follow_9_10_L2 Q n x2 σ → xI V s.heap σ H locs → lv_has ls 3 [(0, .ref (V.2.2 9)), (1, .ref (V.2.2 10)), (2, .int x2)] → W p l e rm_Lin_follow_9_10 s m args below meth c H locs 0 0 (xZv below V args s Q) (F0 m 2 ls []) := by
  intro n
  induction n with
  | zero =>
    intro x2 σ H locs ls h
    exact False.elim h
  | succ n ih =>
    intro x2 σ H locs ls h hI hl
    exact s_Lin_follow_9_10_L2 C hlocks hr (K2 := p_Lin_follow_9_10_L2 Q n) (fun x2 σ H locs ls h hI hl => ih x2 σ H locs ls h hI hl) h hI hl
set_option maxRecDepth 100000 in
set_option maxHeartbeats 4000000 in
theorem c_Lin_follow_9_10 {l : Launch} {V : xV} {σ : xS} {Q : xS → Prop} (h : p_Lin_follow_9_10 σ Q) : xMv l y_Lin_follow (.code y_Lin_follow cd_Lin_follow 3 none :: xG) rm_Lin_follow_9_10 V [.ref (V.2.2 9), .ref (V.2.2 10)] σ Q := by
  refine x_beginv (by decide) (Nat.le_of_ble_eq_true rfl) (fun p e s m below meth c ls C hlocks hr hI hl => ?_)
  have C : xC p s m _ c cd_Lin_follow 3 R_Lin V := C
  have hx := C.1
  have hb := C.2.1
  have hl : lv_has ls 3 [(0, .ref (V.2.2 9)), (1, .ref (V.2.2 10))] := hl
  unfold p_Lin_follow_9_10 at h
  refine lv_iconst (v := 0) hx hb d_Lin_follow_0 (by decide) ?_
  refine lv_istore_n (lv' := [(2, .int 0), (0, .ref (V.2.2 9)), (1, .ref (V.2.2 10))]) hx hb d_Lin_follow_1 rfl hl (by decide) rfl (fun ls hl => ?_)
  obtain ⟨n, h⟩ := h
  exact w_Lin_follow_9_10_L2 C hlocks hr n _ _ _ _ _ h hI (lv_sub hl [1, 2, 0] rfl)
