def y_Lik_ofRoots : MethodName := ⟨"RegionPool$Likeness", "ofRoots", "(LRegionPool$Values;II)Z"⟩
abbrev cd_Lik_ofRoots : ByteArray := prog_4_method_2_code
theorem fw_Lik_25 : xFw R_Lik 25 4 4 := ⟨R_Lik, T_Lik, 5, t_Lik, rfl, in_Lik, by decide, xG_mem 266 (by decide +kernel) (by decide +kernel), tk_Lik, nm_Lik, rfl, by decide +kernel⟩
theorem xP_4_4 (V : xV) (f : Nat → Int32) (x : Int32) : xE V 4 (upd f 4 x) = .inr (4, [.ref (V.2.2 6), .ref (V.2.2 14), .ref (V.2.2 15), .ref (V.2.2 16), .int (f 4)].set 4 (.int x)) := rfl
def y_Lik_mayBeAlike : MethodName := ⟨"RegionPool$Likeness", "mayBeAlike", "(LRegionPool$Values;II)Z"⟩
abbrev cd_Lik_mayBeAlike : ByteArray := prog_4_method_4_code
theorem ml_Lik_47 : Cond.methodLink R_Lik 47 y_Val_sortOf ∈ xG := xG_mem 932 (by decide +kernel) (by decide +kernel)
theorem ml_Lik_52 : Cond.methodLink R_Lik 52 y_Val_isReference ∈ xG := xG_mem 933 (by decide +kernel) (by decide +kernel)
theorem ml_Lik_56 : Cond.methodLink R_Lik 56 y_Val_contentOf ∈ xG := xG_mem 934 (by decide +kernel) (by decide +kernel)
def y_Lik_takeForAlike : MethodName := ⟨"RegionPool$Likeness", "takeForAlike", "(II)Z"⟩
abbrev cd_Lik_takeForAlike : ByteArray := prog_4_method_5_code
def y_Lik_lastLeader : MethodName := ⟨"RegionPool$Likeness", "lastLeader", "(I)I"⟩
abbrev cd_Lik_lastLeader : ByteArray := prog_4_method_6_code
theorem fd_Lik_15 : xFd R_Lik 15 4 1 := ⟨R_Lik, T_Lik, 5, rfl, in_Lik, by decide, xG_mem 263 (by decide +kernel) (by decide +kernel)⟩
def b_Lik_lastLeader_L4 (K4 : Int32 → Int32 → xS → Prop) (Q : Int32 → xS → Prop) (x2 x3 : Int32) (σ : xS) : Prop :=
  ((640 ≤ x3 → Q x2 σ) ∧ (¬ 640 ≤ x3 → (vp_in x2 640 ∧ (((σ 14 x2.toNatClampNeg) = x2 → Q x2 σ) ∧ (¬ (σ 14 x2.toNatClampNeg) = x2 → (vp_in x2 640 ∧ (vp_in (σ 14 x2.toNatClampNeg) 640 ∧ (vp_in x2 640 ∧ (vp_in x2 640 ∧ (∀ z8 : Int32, z8 = ((xu σ 14 x2.toNatClampNeg (σ 14 (σ 14 x2.toNatClampNeg).toNatClampNeg)) 14 x2.toNatClampNeg) → (∀ z9 : Int32, z9 = x3 + 1 → K4 z8 z9 (xu σ 14 x2.toNatClampNeg (σ 14 (σ 14 x2.toNatClampNeg).toNatClampNeg)))))))))))))
def p_Lik_lastLeader_L4 (Q : Int32 → xS → Prop) (n : Nat) : Int32 → Int32 → xS → Prop := Nat.rec (motive := fun _ => Int32 → Int32 → xS → Prop) (fun _ _ _ => False) (fun _ K x2 x3 σ => b_Lik_lastLeader_L4 K Q x2 x3 σ) n
def p_Lik_lastLeader (x1 : Int32) (σ : xS) (Q : Int32 → xS → Prop) : Prop :=
  (∃ n, p_Lik_lastLeader_L4 Q n x1 0 σ)
abbrev rm_Lik_lastLeader : Room := { frames := 0, cells := 0, slots := 0, locals := 0 }
theorem d_Lik_lastLeader_0 : decode cd_Lik_lastLeader 0 = .ok (.iload_n 1, 1) := by decide +kernel
theorem d_Lik_lastLeader_1 : decode cd_Lik_lastLeader 1 = .ok (.istore_n 2, 1) := by decide +kernel
theorem d_Lik_lastLeader_2 : decode cd_Lik_lastLeader 2 = .ok (.iconst 0, 1) := by decide +kernel
theorem d_Lik_lastLeader_3 : decode cd_Lik_lastLeader 3 = .ok (.istore_n 3, 1) := by decide +kernel
theorem d_Lik_lastLeader_4 : decode cd_Lik_lastLeader 4 = .ok (.iload_n 3, 1) := by decide +kernel
theorem d_Lik_lastLeader_5 : decode cd_Lik_lastLeader 5 = .ok (.sipush 640, 3) := by decide +kernel
theorem d_Lik_lastLeader_8 : decode cd_Lik_lastLeader 8 = .ok (.if_icmp .ge 43, 3) := by decide +kernel
theorem d_Lik_lastLeader_11 : decode cd_Lik_lastLeader 11 = .ok (.aload_n 0, 1) := by decide +kernel
theorem d_Lik_lastLeader_12 : decode cd_Lik_lastLeader 12 = .ok (.getfield 15, 3) := by decide +kernel
theorem d_Lik_lastLeader_15 : decode cd_Lik_lastLeader 15 = .ok (.iload_n 2, 1) := by decide +kernel
theorem d_Lik_lastLeader_16 : decode cd_Lik_lastLeader 16 = .ok (.iaload, 1) := by decide +kernel
theorem d_Lik_lastLeader_17 : decode cd_Lik_lastLeader 17 = .ok (.iload_n 2, 1) := by decide +kernel
theorem d_Lik_lastLeader_18 : decode cd_Lik_lastLeader 18 = .ok (.if_icmp .eq 33, 3) := by decide +kernel
theorem d_Lik_lastLeader_21 : decode cd_Lik_lastLeader 21 = .ok (.aload_n 0, 1) := by decide +kernel
theorem d_Lik_lastLeader_22 : decode cd_Lik_lastLeader 22 = .ok (.getfield 15, 3) := by decide +kernel
theorem d_Lik_lastLeader_25 : decode cd_Lik_lastLeader 25 = .ok (.iload_n 2, 1) := by decide +kernel
theorem d_Lik_lastLeader_26 : decode cd_Lik_lastLeader 26 = .ok (.aload_n 0, 1) := by decide +kernel
theorem d_Lik_lastLeader_27 : decode cd_Lik_lastLeader 27 = .ok (.getfield 15, 3) := by decide +kernel
theorem d_Lik_lastLeader_30 : decode cd_Lik_lastLeader 30 = .ok (.aload_n 0, 1) := by decide +kernel
theorem d_Lik_lastLeader_31 : decode cd_Lik_lastLeader 31 = .ok (.getfield 15, 3) := by decide +kernel
theorem d_Lik_lastLeader_34 : decode cd_Lik_lastLeader 34 = .ok (.iload_n 2, 1) := by decide +kernel
theorem d_Lik_lastLeader_35 : decode cd_Lik_lastLeader 35 = .ok (.iaload, 1) := by decide +kernel
theorem d_Lik_lastLeader_36 : decode cd_Lik_lastLeader 36 = .ok (.iaload, 1) := by decide +kernel
theorem d_Lik_lastLeader_37 : decode cd_Lik_lastLeader 37 = .ok (.iastore, 1) := by decide +kernel
theorem d_Lik_lastLeader_38 : decode cd_Lik_lastLeader 38 = .ok (.aload_n 0, 1) := by decide +kernel
theorem d_Lik_lastLeader_39 : decode cd_Lik_lastLeader 39 = .ok (.getfield 15, 3) := by decide +kernel
theorem d_Lik_lastLeader_42 : decode cd_Lik_lastLeader 42 = .ok (.iload_n 2, 1) := by decide +kernel
theorem d_Lik_lastLeader_43 : decode cd_Lik_lastLeader 43 = .ok (.iaload, 1) := by decide +kernel
theorem d_Lik_lastLeader_44 : decode cd_Lik_lastLeader 44 = .ok (.istore_n 2, 1) := by decide +kernel
theorem d_Lik_lastLeader_45 : decode cd_Lik_lastLeader 45 = .ok (.iinc 3 1, 3) := by decide +kernel
theorem d_Lik_lastLeader_48 : decode cd_Lik_lastLeader 48 = .ok (.goto (-44), 3) := by decide +kernel
theorem d_Lik_lastLeader_51 : decode cd_Lik_lastLeader 51 = .ok (.iload_n 2, 1) := by decide +kernel
theorem d_Lik_lastLeader_52 : decode cd_Lik_lastLeader 52 = .ok (.ireturn, 1) := by decide +kernel
set_option maxRecDepth 100000 in
set_option maxHeartbeats 4000000 in
theorem s_Lik_lastLeader_L4 {p : Program} {l : Launch} {e : Env} {s : State} {m : MethodId} {args : Array Value} {below : List Frame} {meth : Method} {c : Code} {V : xV} (C : xC p s m args c cd_Lik_lastLeader 4 R_Lik V) (hlocks : meth.locks = false) (hr : meth.sig.returnType = (some .int)) {Q : Int32 → xS → Prop} {K4 : Int32 → Int32 → xS → Prop} (hK4 : ∀ (x2 : Int32) (x3 : Int32) (σ : xS) (H : Heap) (locs : List Loc) (ls : Array Slot), K4 x2 x3 σ → xI V s.heap σ H locs → lv_has ls 4 [(0, .ref (V.2.2 4)), (2, .int x2), (3, .int x3)] → W p l e rm_Lik_lastLeader s m args below meth c H locs 0 0 (xZi below V args s Q) (F0 m 4 ls [])) {x2 x3 : Int32} {σ : xS} {H : Heap} {locs : List Loc} {ls : Array Slot} (h : b_Lik_lastLeader_L4 K4 Q x2 x3 σ) (hI : xI V s.heap σ H locs) (hl : lv_has ls 4 [(0, .ref (V.2.2 4)), (2, .int x2), (3, .int x3)]) : W p l e rm_Lik_lastLeader s m args below meth c H locs 0 0 (xZi below V args s Q) (F0 m 4 ls []) := by
  have hx := C.1
  have hb := C.2.1
  unfold b_Lik_lastLeader_L4 at h
  refine lv_iload_n hx hb d_Lik_lastLeader_4 rfl (lv_at hl 2 rfl) ?_
  refine lv_sipush (v := 640) hx hb d_Lik_lastLeader_5 (by decide) ?_
  refine lv_icmp_ge (tgt := 51) hx hb d_Lik_lastLeader_8 (by decide) (fun c1 => ?_) (fun c1 => ?_)
  · have h := h.1 c1
    refine lv_iload_n hx hb d_Lik_lastLeader_51 rfl (lv_at hl 1 rfl) ?_
    exact x_iret C hlocks hr hI h d_Lik_lastLeader_52
  · have h := h.2 c1
    refine lv_aload_n hx hb d_Lik_lastLeader_11 rfl (lv_at hl 0 rfl) ?_
    refine x_get C hI (d := 4) (by decide) (xE4 V _) fd_Lik_15 rfl d_Lik_lastLeader_12 ?_
    refine lv_iload_n hx hb d_Lik_lastLeader_15 rfl (lv_at hl 1 rfl) ?_
    obtain ⟨i2, h⟩ := h
    refine x_iald C hI (d := 14) (by decide) (xE14 V) i2 d_Lik_lastLeader_16 ?_
    refine lv_iload_n hx hb d_Lik_lastLeader_17 rfl (lv_at hl 1 rfl) ?_
    refine lv_icmp_eq (tgt := 51) hx hb d_Lik_lastLeader_18 (by decide) (fun c3 => ?_) (fun c3 => ?_)
    · have h := h.1 c3
      refine lv_iload_n hx hb d_Lik_lastLeader_51 rfl (lv_at hl 1 rfl) ?_
      exact x_iret C hlocks hr hI h d_Lik_lastLeader_52
    · have h := h.2 c3
      refine lv_aload_n hx hb d_Lik_lastLeader_21 rfl (lv_at hl 0 rfl) ?_
      refine x_get C hI (d := 4) (by decide) (xE4 V _) fd_Lik_15 rfl d_Lik_lastLeader_22 ?_
      refine lv_iload_n hx hb d_Lik_lastLeader_25 rfl (lv_at hl 1 rfl) ?_
      refine lv_aload_n hx hb d_Lik_lastLeader_26 rfl (lv_at hl 0 rfl) ?_
      refine x_get C hI (d := 4) (by decide) (xE4 V _) fd_Lik_15 rfl d_Lik_lastLeader_27 ?_
      refine lv_aload_n hx hb d_Lik_lastLeader_30 rfl (lv_at hl 0 rfl) ?_
      refine x_get C hI (d := 4) (by decide) (xE4 V _) fd_Lik_15 rfl d_Lik_lastLeader_31 ?_
      refine lv_iload_n hx hb d_Lik_lastLeader_34 rfl (lv_at hl 1 rfl) ?_
      obtain ⟨i4, h⟩ := h
      refine x_iald C hI (d := 14) (by decide) (xE14 V) i4 d_Lik_lastLeader_35 ?_
      obtain ⟨i5, h⟩ := h
      refine x_iald C hI (d := 14) (by decide) (xE14 V) i5 d_Lik_lastLeader_36 ?_
      obtain ⟨i6, h⟩ := h
      refine x_iast C hI (d := 14) (by decide) (xE14 V) i6 d_Lik_lastLeader_37 (fun H locs hI => ?_)
      refine lv_aload_n hx hb d_Lik_lastLeader_38 rfl (lv_at hl 0 rfl) ?_
      refine x_get C hI (d := 4) (by decide) (xE4 V _) fd_Lik_15 rfl d_Lik_lastLeader_39 ?_
      refine lv_iload_n hx hb d_Lik_lastLeader_42 rfl (lv_at hl 1 rfl) ?_
      obtain ⟨i7, h⟩ := h
      refine x_iald C hI (d := 14) (by decide) (xE14 V) i7 d_Lik_lastLeader_43 ?_
      refine lv_topi (fun z8 ez8 => ?_)
      have h := h z8 ez8
      refine lv_istore_n (lv' := [(2, .int z8), (0, .ref (V.2.2 4)), (3, .int x3)]) hx hb d_Lik_lastLeader_44 rfl hl (by decide) rfl (fun ls hl => ?_)
      obtain ⟨z9, ez9⟩ : ∃ y : Int32, y = x3 + 1 := ⟨_, rfl⟩
      have h := h z9 ez9
      refine lv_iinc (v := z9) (lv' := [(3, .int z9), (2, .int z8), (0, .ref (V.2.2 4))]) hx hb d_Lik_lastLeader_45 hl (k := 2) rfl (by rw [ez9]; rfl) (by decide) rfl (fun ls hl => ?_)
      refine lv_goto (tgt := 4) hx hb d_Lik_lastLeader_48 (by decide) ?_
      exact hK4 _ _ _ _ _ _ h hI (lv_sub hl [2, 1, 0] rfl)
theorem w_Lik_lastLeader_L4 {p : Program} {l : Launch} {e : Env} {s : State} {m : MethodId} {args : Array Value} {below : List Frame} {meth : Method} {c : Code} {V : xV} (C : xC p s m args c cd_Lik_lastLeader 4 R_Lik V) (hlocks : meth.locks = false) (hr : meth.sig.returnType = (some .int)) {Q : Int32 → xS → Prop} : ∀ (n : Nat) (x2 : Int32) (x3 : Int32) (σ : xS) (H : Heap) (locs : List Loc) (ls : Array Slot), p_Lik_lastLeader_L4 Q n x2 x3 σ → xI V s.heap σ H locs → lv_has ls 4 [(0, .ref (V.2.2 4)), (2, .int x2), (3, .int x3)] → W p l e rm_Lik_lastLeader s m args below meth c H locs 0 0 (xZi below V args s Q) (F0 m 4 ls []) := by
  intro n
  induction n with
  | zero =>
    intro x2 x3 σ H locs ls h
    exact False.elim h
  | succ n ih =>
    intro x2 x3 σ H locs ls h hI hl
    exact s_Lik_lastLeader_L4 C hlocks hr (K4 := p_Lik_lastLeader_L4 Q n) (fun x2 x3 σ H locs ls h hI hl => ih x2 x3 σ H locs ls h hI hl) h hI hl
set_option maxRecDepth 100000 in
set_option maxHeartbeats 4000000 in
theorem c_Lik_lastLeader {l : Launch} {V : xV} {σ : xS} {x1 : Int32} {Q : Int32 → xS → Prop} (h : p_Lik_lastLeader x1 σ Q) : xMi l y_Lik_lastLeader (.code y_Lik_lastLeader cd_Lik_lastLeader 4 (some .int) :: xG) rm_Lik_lastLeader V [.ref (V.2.2 4), .int x1] σ Q := by
  refine x_begini (by decide) (Nat.le_of_ble_eq_true rfl) (fun p e s m below meth c ls C hlocks hr hI hl => ?_)
  have C : xC p s m _ c cd_Lik_lastLeader 4 R_Lik V := C
  have hx := C.1
  have hb := C.2.1
  have hl : lv_has ls 4 [(0, .ref (V.2.2 4)), (1, .int x1)] := hl
  unfold p_Lik_lastLeader at h
  refine lv_iload_n hx hb d_Lik_lastLeader_0 rfl (lv_at hl 1 rfl) ?_
  refine lv_istore_n (lv' := [(2, .int x1), (0, .ref (V.2.2 4)), (1, .int x1)]) hx hb d_Lik_lastLeader_1 rfl hl (by decide) rfl (fun ls hl => ?_)
  refine lv_iconst (v := 0) hx hb d_Lik_lastLeader_2 (by decide) ?_
  refine lv_istore_n (lv' := [(3, .int 0), (2, .int x1), (0, .ref (V.2.2 4)), (1, .int x1)]) hx hb d_Lik_lastLeader_3 rfl hl (by decide) rfl (fun ls hl => ?_)
  obtain ⟨n, h⟩ := h
  exact w_Lik_lastLeader_L4 C hlocks hr n _ _ _ _ _ _ h hI (lv_sub hl [2, 1, 0] rfl)
theorem yw_Lik_lastLeader : xY y_Lik_lastLeader cd_Lik_lastLeader 4 (some .int) 1 := ⟨xG_mem 941 (by decide +kernel) (by decide +kernel), xG_mem 27 (by decide +kernel) (by decide +kernel), xG_mem 64 (by decide +kernel) (by decide +kernel), xG_mem 942 (by decide +kernel) (by decide +kernel), by decide, by decide, by decide +kernel⟩
theorem ml_Lik_62 : Cond.methodLink R_Lik 62 y_Lik_lastLeader ∈ xG := xG_mem 939 (by decide +kernel) (by decide +kernel)
theorem fd_Lik_9 : xFd R_Lik 9 4 0 := ⟨R_Lik, T_Lik, 5, rfl, in_Lik, by decide, xG_mem 262 (by decide +kernel) (by decide +kernel)⟩
theorem yw_Hea_headOf : xY y_Hea_headOf cd_Hea_headOf 2 (some .int) 1 := ⟨xG_mem 944 (by decide +kernel) (by decide +kernel), xG_mem 945 (by decide +kernel) (by decide +kernel), xG_mem 57 (by decide +kernel) (by decide +kernel), xG_mem 946 (by decide +kernel) (by decide +kernel), by decide, by decide, by decide +kernel⟩
theorem ml_Lik_65 : Cond.methodLink R_Lik 65 y_Hea_headOf ∈ xG := xG_mem 943 (by decide +kernel) (by decide +kernel)
theorem fd_Lik_19 : xFd R_Lik 19 4 2 := ⟨R_Lik, T_Lik, 5, rfl, in_Lik, by decide, xG_mem 264 (by decide +kernel) (by decide +kernel)⟩
theorem fd_Lik_25 : xFd R_Lik 25 4 4 := ⟨R_Lik, T_Lik, 5, rfl, in_Lik, by decide, xG_mem 266 (by decide +kernel) (by decide +kernel)⟩
theorem fd_Lik_22 : xFd R_Lik 22 4 3 := ⟨R_Lik, T_Lik, 5, rfl, in_Lik, by decide, xG_mem 265 (by decide +kernel) (by decide +kernel)⟩
def p_Lik_takeForAlike (x1 x2 : Int32) (σ : xS) (Q : Int32 → xS → Prop) : Prop :=
  p_Lik_lastLeader x1 σ (fun r2 σ1 => p_Lik_lastLeader x2 σ1 (fun r4 σ3 => ((¬ r2 = r4 → p_Hea_headOf x1 σ3 (fun r7 σ6 => p_Hea_headOf x2 σ6 (fun r9 σ8 => ((r7 = r9 → (vp_in r2 640 ∧ (vp_in ((xu σ8 14 r2.toNatClampNeg r4) 4 4) 640 ∧ (vp_in ((xu (xu σ8 14 r2.toNatClampNeg r4) 15 ((xu σ8 14 r2.toNatClampNeg r4) 4 4).toNatClampNeg x1) 4 4) 640 ∧ Q 1 (xu (xu (xu (xu σ8 14 r2.toNatClampNeg r4) 15 ((xu σ8 14 r2.toNatClampNeg r4) 4 4).toNatClampNeg x1) 16 ((xu (xu σ8 14 r2.toNatClampNeg r4) 15 ((xu σ8 14 r2.toNatClampNeg r4) 4 4).toNatClampNeg x1) 4 4).toNatClampNeg x2) 4 4 (((xu (xu (xu σ8 14 r2.toNatClampNeg r4) 15 ((xu σ8 14 r2.toNatClampNeg r4) 4 4).toNatClampNeg x1) 16 ((xu (xu σ8 14 r2.toNatClampNeg r4) 15 ((xu σ8 14 r2.toNatClampNeg r4) 4 4).toNatClampNeg x1) 4 4).toNatClampNeg x2) 4 4) + 1)))))) ∧ (¬ r7 = r9 → Q 0 σ8))))) ∧ (r2 = r4 → Q 1 σ3))))
abbrev rm_Lik_takeForAlike : Room := { frames := 1, cells := 0, slots := 0, locals := 23 }
theorem d_Lik_takeForAlike_0 : decode cd_Lik_takeForAlike 0 = .ok (.aload_n 0, 1) := by decide +kernel
theorem d_Lik_takeForAlike_1 : decode cd_Lik_takeForAlike 1 = .ok (.iload_n 1, 1) := by decide +kernel
theorem d_Lik_takeForAlike_2 : decode cd_Lik_takeForAlike 2 = .ok (.invokevirtual 62, 3) := by decide +kernel
theorem d_Lik_takeForAlike_5 : decode cd_Lik_takeForAlike 5 = .ok (.istore_n 3, 1) := by decide +kernel
theorem d_Lik_takeForAlike_6 : decode cd_Lik_takeForAlike 6 = .ok (.aload_n 0, 1) := by decide +kernel
theorem d_Lik_takeForAlike_7 : decode cd_Lik_takeForAlike 7 = .ok (.iload_n 2, 1) := by decide +kernel
theorem d_Lik_takeForAlike_8 : decode cd_Lik_takeForAlike 8 = .ok (.invokevirtual 62, 3) := by decide +kernel
theorem d_Lik_takeForAlike_11 : decode cd_Lik_takeForAlike 11 = .ok (.istore 4, 2) := by decide +kernel
theorem d_Lik_takeForAlike_13 : decode cd_Lik_takeForAlike 13 = .ok (.iload_n 3, 1) := by decide +kernel
theorem d_Lik_takeForAlike_14 : decode cd_Lik_takeForAlike 14 = .ok (.iload 4, 2) := by decide +kernel
theorem d_Lik_takeForAlike_16 : decode cd_Lik_takeForAlike 16 = .ok (.if_icmp .ne 5, 3) := by decide +kernel
theorem d_Lik_takeForAlike_19 : decode cd_Lik_takeForAlike 19 = .ok (.iconst 1, 1) := by decide +kernel
theorem d_Lik_takeForAlike_20 : decode cd_Lik_takeForAlike 20 = .ok (.ireturn, 1) := by decide +kernel
theorem d_Lik_takeForAlike_21 : decode cd_Lik_takeForAlike 21 = .ok (.aload_n 0, 1) := by decide +kernel
theorem d_Lik_takeForAlike_22 : decode cd_Lik_takeForAlike 22 = .ok (.getfield 9, 3) := by decide +kernel
theorem d_Lik_takeForAlike_25 : decode cd_Lik_takeForAlike 25 = .ok (.iload_n 1, 1) := by decide +kernel
theorem d_Lik_takeForAlike_26 : decode cd_Lik_takeForAlike 26 = .ok (.invokevirtual 65, 3) := by decide +kernel
theorem d_Lik_takeForAlike_29 : decode cd_Lik_takeForAlike 29 = .ok (.aload_n 0, 1) := by decide +kernel
theorem d_Lik_takeForAlike_30 : decode cd_Lik_takeForAlike 30 = .ok (.getfield 9, 3) := by decide +kernel
theorem d_Lik_takeForAlike_33 : decode cd_Lik_takeForAlike 33 = .ok (.iload_n 2, 1) := by decide +kernel
theorem d_Lik_takeForAlike_34 : decode cd_Lik_takeForAlike 34 = .ok (.invokevirtual 65, 3) := by decide +kernel
theorem d_Lik_takeForAlike_37 : decode cd_Lik_takeForAlike 37 = .ok (.if_icmp .eq 5, 3) := by decide +kernel
theorem d_Lik_takeForAlike_40 : decode cd_Lik_takeForAlike 40 = .ok (.iconst 0, 1) := by decide +kernel
theorem d_Lik_takeForAlike_41 : decode cd_Lik_takeForAlike 41 = .ok (.ireturn, 1) := by decide +kernel
theorem d_Lik_takeForAlike_42 : decode cd_Lik_takeForAlike 42 = .ok (.aload_n 0, 1) := by decide +kernel
theorem d_Lik_takeForAlike_43 : decode cd_Lik_takeForAlike 43 = .ok (.getfield 15, 3) := by decide +kernel
theorem d_Lik_takeForAlike_46 : decode cd_Lik_takeForAlike 46 = .ok (.iload_n 3, 1) := by decide +kernel
theorem d_Lik_takeForAlike_47 : decode cd_Lik_takeForAlike 47 = .ok (.iload 4, 2) := by decide +kernel
theorem d_Lik_takeForAlike_49 : decode cd_Lik_takeForAlike 49 = .ok (.iastore, 1) := by decide +kernel
theorem d_Lik_takeForAlike_50 : decode cd_Lik_takeForAlike 50 = .ok (.aload_n 0, 1) := by decide +kernel
theorem d_Lik_takeForAlike_51 : decode cd_Lik_takeForAlike 51 = .ok (.getfield 19, 3) := by decide +kernel
theorem d_Lik_takeForAlike_54 : decode cd_Lik_takeForAlike 54 = .ok (.aload_n 0, 1) := by decide +kernel
theorem d_Lik_takeForAlike_55 : decode cd_Lik_takeForAlike 55 = .ok (.getfield 25, 3) := by decide +kernel
theorem d_Lik_takeForAlike_58 : decode cd_Lik_takeForAlike 58 = .ok (.iload_n 1, 1) := by decide +kernel
theorem d_Lik_takeForAlike_59 : decode cd_Lik_takeForAlike 59 = .ok (.iastore, 1) := by decide +kernel
theorem d_Lik_takeForAlike_60 : decode cd_Lik_takeForAlike 60 = .ok (.aload_n 0, 1) := by decide +kernel
theorem d_Lik_takeForAlike_61 : decode cd_Lik_takeForAlike 61 = .ok (.getfield 22, 3) := by decide +kernel
theorem d_Lik_takeForAlike_64 : decode cd_Lik_takeForAlike 64 = .ok (.aload_n 0, 1) := by decide +kernel
theorem d_Lik_takeForAlike_65 : decode cd_Lik_takeForAlike 65 = .ok (.getfield 25, 3) := by decide +kernel
theorem d_Lik_takeForAlike_68 : decode cd_Lik_takeForAlike 68 = .ok (.iload_n 2, 1) := by decide +kernel
theorem d_Lik_takeForAlike_69 : decode cd_Lik_takeForAlike 69 = .ok (.iastore, 1) := by decide +kernel
theorem d_Lik_takeForAlike_70 : decode cd_Lik_takeForAlike 70 = .ok (.aload_n 0, 1) := by decide +kernel
theorem d_Lik_takeForAlike_71 : decode cd_Lik_takeForAlike 71 = .ok (.dup, 1) := by decide +kernel
theorem d_Lik_takeForAlike_72 : decode cd_Lik_takeForAlike 72 = .ok (.getfield 25, 3) := by decide +kernel
theorem d_Lik_takeForAlike_75 : decode cd_Lik_takeForAlike 75 = .ok (.iconst 1, 1) := by decide +kernel
theorem d_Lik_takeForAlike_76 : decode cd_Lik_takeForAlike 76 = .ok (.iadd, 1) := by decide +kernel
theorem d_Lik_takeForAlike_77 : decode cd_Lik_takeForAlike 77 = .ok (.putfield 25, 3) := by decide +kernel
theorem d_Lik_takeForAlike_80 : decode cd_Lik_takeForAlike 80 = .ok (.iconst 1, 1) := by decide +kernel
theorem d_Lik_takeForAlike_81 : decode cd_Lik_takeForAlike 81 = .ok (.ireturn, 1) := by decide +kernel
set_option maxRecDepth 100000 in
set_option maxHeartbeats 4000000 in
theorem c_Lik_takeForAlike {l : Launch} {V : xV} {σ : xS} {x1 x2 : Int32} {Q : Int32 → xS → Prop} (h : p_Lik_takeForAlike x1 x2 σ Q) : xMi l y_Lik_takeForAlike (.code y_Lik_takeForAlike cd_Lik_takeForAlike 5 (some .boolean) :: xG) rm_Lik_takeForAlike V [.ref (V.2.2 4), .int x1, .int x2] σ Q := by
  refine x_begini (by decide) (Nat.le_of_ble_eq_true rfl) (fun p e s m below meth c ls C hlocks hr hI hl => ?_)
  have C : xC p s m _ c cd_Lik_takeForAlike 5 R_Lik V := C
  have hx := C.1
  have hb := C.2.1
  have hl : lv_has ls 5 [(0, .ref (V.2.2 4)), (1, .int x1), (2, .int x2)] := hl
  unfold p_Lik_takeForAlike at h
  refine lv_aload_n hx hb d_Lik_takeForAlike_0 rfl (lv_at hl 0 rfl) ?_
  refine lv_iload_n hx hb d_Lik_takeForAlike_1 rfl (lv_at hl 1 rfl) ?_
  refine x_calli C hI hl.1 (d := 4) (As := [.int x1]) (rest := []) (by decide) (c_Lik_lastLeader h) (xE4 V _) rfl yw_Lik_lastLeader ml_Lik_62 rfl rfl ⟨Nat.le_of_ble_eq_true rfl, Nat.le_of_ble_eq_true rfl⟩ rfl rfl (Nat.le_of_ble_eq_true rfl) d_Lik_takeForAlike_2 ⟨Nat.zero_le _, Nat.zero_le _⟩ (fun r2 σ1 H locs h hI => ?_)
  refine lv_istore_n (lv' := [(3, .int r2), (0, .ref (V.2.2 4)), (1, .int x1), (2, .int x2)]) hx hb d_Lik_takeForAlike_5 rfl hl (by decide) rfl (fun ls hl => ?_)
  refine lv_aload_n hx hb d_Lik_takeForAlike_6 rfl (lv_at hl 1 rfl) ?_
  refine lv_iload_n hx hb d_Lik_takeForAlike_7 rfl (lv_at hl 3 rfl) ?_
  refine x_calli C hI hl.1 (d := 4) (As := [.int x2]) (rest := []) (by decide) (c_Lik_lastLeader h) (xE4 V _) rfl yw_Lik_lastLeader ml_Lik_62 rfl rfl ⟨Nat.le_of_ble_eq_true rfl, Nat.le_of_ble_eq_true rfl⟩ rfl rfl (Nat.le_of_ble_eq_true rfl) d_Lik_takeForAlike_8 ⟨Nat.zero_le _, Nat.zero_le _⟩ (fun r4 σ3 H locs h hI => ?_)
  refine lv_istore (lv' := [(4, .int r4), (3, .int r2), (0, .ref (V.2.2 4)), (1, .int x1), (2, .int x2)]) hx hb d_Lik_takeForAlike_11 hl (by decide) rfl (fun ls hl => ?_)
  refine lv_iload_n hx hb d_Lik_takeForAlike_13 rfl (lv_at hl 1 rfl) ?_
  refine lv_iload hx hb d_Lik_takeForAlike_14 (lv_at hl 0 rfl) ?_
  refine lv_icmp_ne (tgt := 21) hx hb d_Lik_takeForAlike_16 (by decide) (fun c5 => ?_) (fun c5 => ?_)
  · have h := h.1 c5
    refine lv_aload_n hx hb d_Lik_takeForAlike_21 rfl (lv_at hl 2 rfl) ?_
    refine x_get C hI (d := 4) (by decide) (xE4 V _) fd_Lik_9 rfl d_Lik_takeForAlike_22 ?_
    refine lv_iload_n hx hb d_Lik_takeForAlike_25 rfl (lv_at hl 3 rfl) ?_
    refine x_calli C hI hl.1 (d := 6) (As := [.int x1]) (rest := []) (by decide) (c_Hea_headOf h) (xE6 V _) rfl yw_Hea_headOf ml_Lik_65 rfl rfl ⟨Nat.le_of_ble_eq_true rfl, Nat.le_of_ble_eq_true rfl⟩ rfl rfl (Nat.le_of_ble_eq_true rfl) d_Lik_takeForAlike_26 ⟨Nat.zero_le _, Nat.zero_le _⟩ (fun r7 σ6 H locs h hI => ?_)
    refine lv_aload_n hx hb d_Lik_takeForAlike_29 rfl (lv_at hl 2 rfl) ?_
    refine x_get C hI (d := 4) (by decide) (xE4 V _) fd_Lik_9 rfl d_Lik_takeForAlike_30 ?_
    refine lv_iload_n hx hb d_Lik_takeForAlike_33 rfl (lv_at hl 4 rfl) ?_
    refine x_calli C hI hl.1 (d := 6) (As := [.int x2]) (rest := [.int r7]) (by decide) (c_Hea_headOf h) (xE6 V _) rfl yw_Hea_headOf ml_Lik_65 rfl rfl ⟨Nat.le_of_ble_eq_true rfl, Nat.le_of_ble_eq_true rfl⟩ rfl rfl (Nat.le_of_ble_eq_true rfl) d_Lik_takeForAlike_34 ⟨Nat.zero_le _, Nat.zero_le _⟩ (fun r9 σ8 H locs h hI => ?_)
    refine lv_icmp_eq (tgt := 42) hx hb d_Lik_takeForAlike_37 (by decide) (fun c10 => ?_) (fun c10 => ?_)
    · have h := h.1 c10
      refine lv_aload_n hx hb d_Lik_takeForAlike_42 rfl (lv_at hl 2 rfl) ?_
      refine x_get C hI (d := 4) (by decide) (xE4 V _) fd_Lik_15 rfl d_Lik_takeForAlike_43 ?_
      refine lv_iload_n hx hb d_Lik_takeForAlike_46 rfl (lv_at hl 1 rfl) ?_
      refine lv_iload hx hb d_Lik_takeForAlike_47 (lv_at hl 0 rfl) ?_
      obtain ⟨i11, h⟩ := h
      refine x_iast C hI (d := 14) (by decide) (xE14 V) i11 d_Lik_takeForAlike_49 (fun H locs hI => ?_)
      refine lv_aload_n hx hb d_Lik_takeForAlike_50 rfl (lv_at hl 2 rfl) ?_
      refine x_get C hI (d := 4) (by decide) (xE4 V _) fd_Lik_19 rfl d_Lik_takeForAlike_51 ?_
      refine lv_aload_n hx hb d_Lik_takeForAlike_54 rfl (lv_at hl 2 rfl) ?_
      refine x_get C hI (d := 4) (by decide) (xE4 V _) fd_Lik_25 rfl d_Lik_takeForAlike_55 ?_
      refine lv_iload_n hx hb d_Lik_takeForAlike_58 rfl (lv_at hl 3 rfl) ?_
      obtain ⟨i12, h⟩ := h
      refine x_iast C hI (d := 15) (by decide) (xE15 V) i12 d_Lik_takeForAlike_59 (fun H locs hI => ?_)
      refine lv_aload_n hx hb d_Lik_takeForAlike_60 rfl (lv_at hl 2 rfl) ?_
      refine x_get C hI (d := 4) (by decide) (xE4 V _) fd_Lik_22 rfl d_Lik_takeForAlike_61 ?_
      refine lv_aload_n hx hb d_Lik_takeForAlike_64 rfl (lv_at hl 2 rfl) ?_
      refine x_get C hI (d := 4) (by decide) (xE4 V _) fd_Lik_25 rfl d_Lik_takeForAlike_65 ?_
      refine lv_iload_n hx hb d_Lik_takeForAlike_68 rfl (lv_at hl 4 rfl) ?_
      obtain ⟨i13, h⟩ := h
      refine x_iast C hI (d := 16) (by decide) (xE16 V) i13 d_Lik_takeForAlike_69 (fun H locs hI => ?_)
      refine lv_aload_n hx hb d_Lik_takeForAlike_70 rfl (lv_at hl 2 rfl) ?_
      refine lv_dup hx hb d_Lik_takeForAlike_71 rfl ?_
      refine x_get C hI (d := 4) (by decide) (xE4 V _) fd_Lik_25 rfl d_Lik_takeForAlike_72 ?_
      refine lv_iconst (v := 1) hx hb d_Lik_takeForAlike_75 (by decide) ?_
      refine lv_iadd hx hb d_Lik_takeForAlike_76 ?_
      refine x_put C hI (d := 4) (by decide) (xE4 V _) (xP_4_4 V _ _) fw_Lik_25 (Nat.le_of_ble_eq_true rfl) d_Lik_takeForAlike_77 (fun H locs hI => ?_)
      refine lv_iconst (v := 1) hx hb d_Lik_takeForAlike_80 (by decide) ?_
      exact x_zret C hlocks hr hI ⟨rfl, h⟩ d_Lik_takeForAlike_81
    · have h := h.2 c10
      refine lv_iconst (v := 0) hx hb d_Lik_takeForAlike_40 (by decide) ?_
      exact x_zret C hlocks hr hI ⟨rfl, h⟩ d_Lik_takeForAlike_41
  · have h := h.2 c5
    refine lv_iconst (v := 1) hx hb d_Lik_takeForAlike_19 (by decide) ?_
    exact x_zret C hlocks hr hI ⟨rfl, h⟩ d_Lik_takeForAlike_20
theorem yw_Lik_takeForAlike : xY y_Lik_takeForAlike cd_Lik_takeForAlike 5 (some .boolean) 2 := ⟨xG_mem 937 (by decide +kernel) (by decide +kernel), xG_mem 26 (by decide +kernel) (by decide +kernel), xG_mem 64 (by decide +kernel) (by decide +kernel), xG_mem 938 (by decide +kernel) (by decide +kernel), by decide, by decide, by decide +kernel⟩
theorem ml_Lik_59 : Cond.methodLink R_Lik 59 y_Lik_takeForAlike ∈ xG := xG_mem 935 (by decide +kernel) (by decide +kernel)
def p_Lik_mayBeAlike_4_5 (x2 x3 : Int32) (σ : xS) (Q : Int32 → xS → Prop) : Prop :=
  p_Val_sortOf_5 x2 σ (fun r2 σ1 => p_Val_sortOf_5 x3 σ1 (fun r4 σ3 => ((r2 = r4 → p_Val_isReference_5 x2 σ3 (fun r7 σ6 => ((r7 = 0 → p_Val_contentOf_5 x2 σ6 (fun r10 σ9 => p_Val_contentOf_5 x3 σ9 (fun r12 σ11 => ((¬ r10 = r12 → Q 0 σ11) ∧ (r10 = r12 → Q 1 σ11))))) ∧ (¬ r7 = 0 → p_Val_contentOf_5 x2 σ6 (fun r15 σ14 => p_Val_contentOf_5 x3 σ14 (fun r17 σ16 => p_Lik_takeForAlike r15 r17 σ16 (fun r19 σ18 => (narrow .boolean (.int r19) = .int r19 ∧ Q r19 σ18)))))))) ∧ (¬ r2 = r4 → Q 0 σ3))))
abbrev rm_Lik_mayBeAlike_4_5 : Room := { frames := 2, cells := 0, slots := 0, locals := 47 }
theorem d_Lik_mayBeAlike_0 : decode cd_Lik_mayBeAlike 0 = .ok (.aload_n 1, 1) := by decide +kernel
theorem d_Lik_mayBeAlike_1 : decode cd_Lik_mayBeAlike 1 = .ok (.iload_n 2, 1) := by decide +kernel
theorem d_Lik_mayBeAlike_2 : decode cd_Lik_mayBeAlike 2 = .ok (.invokevirtual 47, 3) := by decide +kernel
theorem d_Lik_mayBeAlike_5 : decode cd_Lik_mayBeAlike 5 = .ok (.aload_n 1, 1) := by decide +kernel
theorem d_Lik_mayBeAlike_6 : decode cd_Lik_mayBeAlike 6 = .ok (.iload_n 3, 1) := by decide +kernel
theorem d_Lik_mayBeAlike_7 : decode cd_Lik_mayBeAlike 7 = .ok (.invokevirtual 47, 3) := by decide +kernel
theorem d_Lik_mayBeAlike_10 : decode cd_Lik_mayBeAlike 10 = .ok (.if_icmp .eq 5, 3) := by decide +kernel
theorem d_Lik_mayBeAlike_13 : decode cd_Lik_mayBeAlike 13 = .ok (.iconst 0, 1) := by decide +kernel
theorem d_Lik_mayBeAlike_14 : decode cd_Lik_mayBeAlike 14 = .ok (.ireturn, 1) := by decide +kernel
theorem d_Lik_mayBeAlike_15 : decode cd_Lik_mayBeAlike 15 = .ok (.aload_n 1, 1) := by decide +kernel
theorem d_Lik_mayBeAlike_16 : decode cd_Lik_mayBeAlike 16 = .ok (.iload_n 2, 1) := by decide +kernel
theorem d_Lik_mayBeAlike_17 : decode cd_Lik_mayBeAlike 17 = .ok (.invokevirtual 52, 3) := by decide +kernel
theorem d_Lik_mayBeAlike_20 : decode cd_Lik_mayBeAlike 20 = .ok (.ifCond .eq 18, 3) := by decide +kernel
theorem d_Lik_mayBeAlike_23 : decode cd_Lik_mayBeAlike 23 = .ok (.aload_n 0, 1) := by decide +kernel
theorem d_Lik_mayBeAlike_24 : decode cd_Lik_mayBeAlike 24 = .ok (.aload_n 1, 1) := by decide +kernel
theorem d_Lik_mayBeAlike_25 : decode cd_Lik_mayBeAlike 25 = .ok (.iload_n 2, 1) := by decide +kernel
theorem d_Lik_mayBeAlike_26 : decode cd_Lik_mayBeAlike 26 = .ok (.invokevirtual 56, 3) := by decide +kernel
theorem d_Lik_mayBeAlike_29 : decode cd_Lik_mayBeAlike 29 = .ok (.aload_n 1, 1) := by decide +kernel
theorem d_Lik_mayBeAlike_30 : decode cd_Lik_mayBeAlike 30 = .ok (.iload_n 3, 1) := by decide +kernel
theorem d_Lik_mayBeAlike_31 : decode cd_Lik_mayBeAlike 31 = .ok (.invokevirtual 56, 3) := by decide +kernel
theorem d_Lik_mayBeAlike_34 : decode cd_Lik_mayBeAlike 34 = .ok (.invokevirtual 59, 3) := by decide +kernel
theorem d_Lik_mayBeAlike_37 : decode cd_Lik_mayBeAlike 37 = .ok (.ireturn, 1) := by decide +kernel
theorem d_Lik_mayBeAlike_38 : decode cd_Lik_mayBeAlike 38 = .ok (.aload_n 1, 1) := by decide +kernel
theorem d_Lik_mayBeAlike_39 : decode cd_Lik_mayBeAlike 39 = .ok (.iload_n 2, 1) := by decide +kernel
theorem d_Lik_mayBeAlike_40 : decode cd_Lik_mayBeAlike 40 = .ok (.invokevirtual 56, 3) := by decide +kernel
theorem d_Lik_mayBeAlike_43 : decode cd_Lik_mayBeAlike 43 = .ok (.aload_n 1, 1) := by decide +kernel
theorem d_Lik_mayBeAlike_44 : decode cd_Lik_mayBeAlike 44 = .ok (.iload_n 3, 1) := by decide +kernel
theorem d_Lik_mayBeAlike_45 : decode cd_Lik_mayBeAlike 45 = .ok (.invokevirtual 56, 3) := by decide +kernel
theorem d_Lik_mayBeAlike_48 : decode cd_Lik_mayBeAlike 48 = .ok (.if_icmp .ne 7, 3) := by decide +kernel
theorem d_Lik_mayBeAlike_51 : decode cd_Lik_mayBeAlike 51 = .ok (.iconst 1, 1) := by decide +kernel
theorem d_Lik_mayBeAlike_52 : decode cd_Lik_mayBeAlike 52 = .ok (.goto 4, 3) := by decide +kernel
theorem d_Lik_mayBeAlike_55 : decode cd_Lik_mayBeAlike 55 = .ok (.iconst 0, 1) := by decide +kernel
theorem d_Lik_mayBeAlike_56 : decode cd_Lik_mayBeAlike 56 = .ok (.ireturn, 1) := by decide +kernel
set_option maxRecDepth 100000 in
set_option maxHeartbeats 4000000 in
theorem c_Lik_mayBeAlike_4_5 {l : Launch} {V : xV} {σ : xS} {x2 x3 : Int32} {Q : Int32 → xS → Prop} (h : p_Lik_mayBeAlike_4_5 x2 x3 σ Q) : xMi l y_Lik_mayBeAlike (.code y_Lik_mayBeAlike cd_Lik_mayBeAlike 4 (some .boolean) :: xG) rm_Lik_mayBeAlike_4_5 V [.ref (V.2.2 4), .ref (V.2.2 5), .int x2, .int x3] σ Q := by
  refine x_begini (by decide) (Nat.le_of_ble_eq_true rfl) (fun p e s m below meth c ls C hlocks hr hI hl => ?_)
  have C : xC p s m _ c cd_Lik_mayBeAlike 4 R_Lik V := C
  have hx := C.1
  have hb := C.2.1
  have hl : lv_has ls 4 [(0, .ref (V.2.2 4)), (1, .ref (V.2.2 5)), (2, .int x2), (3, .int x3)] := hl
  unfold p_Lik_mayBeAlike_4_5 at h
  refine lv_aload_n hx hb d_Lik_mayBeAlike_0 rfl (lv_at hl 1 rfl) ?_
  refine lv_iload_n hx hb d_Lik_mayBeAlike_1 rfl (lv_at hl 2 rfl) ?_
  refine x_calli C hI hl.1 (d := 5) (As := [.int x2]) (rest := []) (by decide) (c_Val_sortOf_5 h) (xE5 V _) rfl yw_Val_sortOf ml_Lik_47 rfl rfl ⟨Nat.le_of_ble_eq_true rfl, Nat.le_of_ble_eq_true rfl⟩ rfl rfl (Nat.le_of_ble_eq_true rfl) d_Lik_mayBeAlike_2 ⟨Nat.zero_le _, Nat.zero_le _⟩ (fun r2 σ1 H locs h hI => ?_)
  refine lv_aload_n hx hb d_Lik_mayBeAlike_5 rfl (lv_at hl 1 rfl) ?_
  refine lv_iload_n hx hb d_Lik_mayBeAlike_6 rfl (lv_at hl 3 rfl) ?_
  refine x_calli C hI hl.1 (d := 5) (As := [.int x3]) (rest := [.int r2]) (by decide) (c_Val_sortOf_5 h) (xE5 V _) rfl yw_Val_sortOf ml_Lik_47 rfl rfl ⟨Nat.le_of_ble_eq_true rfl, Nat.le_of_ble_eq_true rfl⟩ rfl rfl (Nat.le_of_ble_eq_true rfl) d_Lik_mayBeAlike_7 ⟨Nat.zero_le _, Nat.zero_le _⟩ (fun r4 σ3 H locs h hI => ?_)
  refine lv_icmp_eq (tgt := 15) hx hb d_Lik_mayBeAlike_10 (by decide) (fun c5 => ?_) (fun c5 => ?_)
  · have h := h.1 c5
    refine lv_aload_n hx hb d_Lik_mayBeAlike_15 rfl (lv_at hl 1 rfl) ?_
    refine lv_iload_n hx hb d_Lik_mayBeAlike_16 rfl (lv_at hl 2 rfl) ?_
    refine x_calli C hI hl.1 (d := 5) (As := [.int x2]) (rest := []) (by decide) (c_Val_isReference_5 h) (xE5 V _) rfl yw_Val_isReference ml_Lik_52 rfl rfl ⟨Nat.le_of_ble_eq_true rfl, Nat.le_of_ble_eq_true rfl⟩ rfl rfl (Nat.le_of_ble_eq_true rfl) d_Lik_mayBeAlike_17 ⟨Nat.zero_le _, Nat.zero_le _⟩ (fun r7 σ6 H locs h hI => ?_)
    refine lv_if_eq (tgt := 38) hx hb d_Lik_mayBeAlike_20 (by decide) (fun c8 => ?_) (fun c8 => ?_)
    · have h := h.1 c8
      refine lv_aload_n hx hb d_Lik_mayBeAlike_38 rfl (lv_at hl 1 rfl) ?_
      refine lv_iload_n hx hb d_Lik_mayBeAlike_39 rfl (lv_at hl 2 rfl) ?_
      refine x_calli C hI hl.1 (d := 5) (As := [.int x2]) (rest := []) (by decide) (c_Val_contentOf_5 h) (xE5 V _) rfl yw_Val_contentOf ml_Lik_56 rfl rfl ⟨Nat.le_of_ble_eq_true rfl, Nat.le_of_ble_eq_true rfl⟩ rfl rfl (Nat.le_of_ble_eq_true rfl) d_Lik_mayBeAlike_40 ⟨Nat.zero_le _, Nat.zero_le _⟩ (fun r10 σ9 H locs h hI => ?_)
      refine lv_aload_n hx hb d_Lik_mayBeAlike_43 rfl (lv_at hl 1 rfl) ?_
      refine lv_iload_n hx hb d_Lik_mayBeAlike_44 rfl (lv_at hl 3 rfl) ?_
      refine x_calli C hI hl.1 (d := 5) (As := [.int x3]) (rest := [.int r10]) (by decide) (c_Val_contentOf_5 h) (xE5 V _) rfl yw_Val_contentOf ml_Lik_56 rfl rfl ⟨Nat.le_of_ble_eq_true rfl, Nat.le_of_ble_eq_true rfl⟩ rfl rfl (Nat.le_of_ble_eq_true rfl) d_Lik_mayBeAlike_45 ⟨Nat.zero_le _, Nat.zero_le _⟩ (fun r12 σ11 H locs h hI => ?_)
      refine lv_icmp_ne (tgt := 55) hx hb d_Lik_mayBeAlike_48 (by decide) (fun c13 => ?_) (fun c13 => ?_)
      · have h := h.1 c13
        refine lv_iconst (v := 0) hx hb d_Lik_mayBeAlike_55 (by decide) ?_
        exact x_zret C hlocks hr hI ⟨rfl, h⟩ d_Lik_mayBeAlike_56
      · have h := h.2 c13
        refine lv_iconst (v := 1) hx hb d_Lik_mayBeAlike_51 (by decide) ?_
        refine lv_goto (tgt := 56) hx hb d_Lik_mayBeAlike_52 (by decide) ?_
        exact x_zret C hlocks hr hI ⟨rfl, h⟩ d_Lik_mayBeAlike_56
    · have h := h.2 c8
      refine lv_aload_n hx hb d_Lik_mayBeAlike_23 rfl (lv_at hl 0 rfl) ?_
      refine lv_aload_n hx hb d_Lik_mayBeAlike_24 rfl (lv_at hl 1 rfl) ?_
      refine lv_iload_n hx hb d_Lik_mayBeAlike_25 rfl (lv_at hl 2 rfl) ?_
      refine x_calli C hI hl.1 (d := 5) (As := [.int x2]) (rest := [.ref (V.2.2 4)]) (by decide) (c_Val_contentOf_5 h) (xE5 V _) rfl yw_Val_contentOf ml_Lik_56 rfl rfl ⟨Nat.le_of_ble_eq_true rfl, Nat.le_of_ble_eq_true rfl⟩ rfl rfl (Nat.le_of_ble_eq_true rfl) d_Lik_mayBeAlike_26 ⟨Nat.zero_le _, Nat.zero_le _⟩ (fun r15 σ14 H locs h hI => ?_)
      refine lv_aload_n hx hb d_Lik_mayBeAlike_29 rfl (lv_at hl 1 rfl) ?_
      refine lv_iload_n hx hb d_Lik_mayBeAlike_30 rfl (lv_at hl 3 rfl) ?_
      refine x_calli C hI hl.1 (d := 5) (As := [.int x3]) (rest := [.int r15, .ref (V.2.2 4)]) (by decide) (c_Val_contentOf_5 h) (xE5 V _) rfl yw_Val_contentOf ml_Lik_56 rfl rfl ⟨Nat.le_of_ble_eq_true rfl, Nat.le_of_ble_eq_true rfl⟩ rfl rfl (Nat.le_of_ble_eq_true rfl) d_Lik_mayBeAlike_31 ⟨Nat.zero_le _, Nat.zero_le _⟩ (fun r17 σ16 H locs h hI => ?_)
      refine x_calli C hI hl.1 (d := 4) (As := [.int r15, .int r17]) (rest := []) (by decide) (c_Lik_takeForAlike h) (xE4 V _) rfl yw_Lik_takeForAlike ml_Lik_59 rfl rfl ⟨Nat.le_of_ble_eq_true rfl, Nat.le_of_ble_eq_true rfl⟩ rfl rfl (Nat.le_of_ble_eq_true rfl) d_Lik_mayBeAlike_34 ⟨Nat.zero_le _, Nat.zero_le _⟩ (fun r19 σ18 H locs h hI => ?_)
      exact x_zret C hlocks hr hI h d_Lik_mayBeAlike_37
  · have h := h.2 c5
    refine lv_iconst (v := 0) hx hb d_Lik_mayBeAlike_13 (by decide) ?_
    exact x_zret C hlocks hr hI ⟨rfl, h⟩ d_Lik_mayBeAlike_14
theorem yw_Lik_mayBeAlike : xY y_Lik_mayBeAlike cd_Lik_mayBeAlike 4 (some .boolean) 3 := ⟨xG_mem 930 (by decide +kernel) (by decide +kernel), xG_mem 25 (by decide +kernel) (by decide +kernel), xG_mem 64 (by decide +kernel) (by decide +kernel), xG_mem 931 (by decide +kernel) (by decide +kernel), by decide, by decide, by decide +kernel⟩
theorem ml_Lik_29 : Cond.methodLink R_Lik 29 y_Lik_mayBeAlike ∈ xG := xG_mem 928 (by decide +kernel) (by decide +kernel)
def y_Lik_fieldsMayBeAlike : MethodName := ⟨"RegionPool$Likeness", "fieldsMayBeAlike", "(II)Z"⟩
abbrev cd_Lik_fieldsMayBeAlike : ByteArray := prog_4_method_3_code
theorem ml_Lik_37 : Cond.methodLink R_Lik 37 y_Hea_fieldsOf ∈ xG := xG_mem 951 (by decide +kernel) (by decide +kernel)
theorem fd_Lik_43 : xFd R_Lik 43 6 0 := ⟨R_Hea, T_Hea, 1, rfl, in_Hea, by decide, xG_mem 114 (by decide +kernel) (by decide +kernel)⟩
def p_Lik_mayBeAlike_4_19 (x2 x3 : Int32) (σ : xS) (Q : Int32 → xS → Prop) : Prop :=
  p_Val_sortOf_19 x2 σ (fun r2 σ1 => p_Val_sortOf_19 x3 σ1 (fun r4 σ3 => ((r2 = r4 → p_Val_isReference_19 x2 σ3 (fun r7 σ6 => ((r7 = 0 → p_Val_contentOf_19 x2 σ6 (fun r10 σ9 => p_Val_contentOf_19 x3 σ9 (fun r12 σ11 => ((¬ r10 = r12 → Q 0 σ11) ∧ (r10 = r12 → Q 1 σ11))))) ∧ (¬ r7 = 0 → p_Val_contentOf_19 x2 σ6 (fun r15 σ14 => p_Val_contentOf_19 x3 σ14 (fun r17 σ16 => p_Lik_takeForAlike r15 r17 σ16 (fun r19 σ18 => (narrow .boolean (.int r19) = .int r19 ∧ Q r19 σ18)))))))) ∧ (¬ r2 = r4 → Q 0 σ3))))
abbrev rm_Lik_mayBeAlike_4_19 : Room := { frames := 2, cells := 0, slots := 0, locals := 47 }
set_option maxRecDepth 100000 in
set_option maxHeartbeats 4000000 in
theorem c_Lik_mayBeAlike_4_19 {l : Launch} {V : xV} {σ : xS} {x2 x3 : Int32} {Q : Int32 → xS → Prop} (h : p_Lik_mayBeAlike_4_19 x2 x3 σ Q) : xMi l y_Lik_mayBeAlike (.code y_Lik_mayBeAlike cd_Lik_mayBeAlike 4 (some .boolean) :: xG) rm_Lik_mayBeAlike_4_19 V [.ref (V.2.2 4), .ref (V.2.2 19), .int x2, .int x3] σ Q := by
  refine x_begini (by decide) (Nat.le_of_ble_eq_true rfl) (fun p e s m below meth c ls C hlocks hr hI hl => ?_)
  have C : xC p s m _ c cd_Lik_mayBeAlike 4 R_Lik V := C
  have hx := C.1
  have hb := C.2.1
  have hl : lv_has ls 4 [(0, .ref (V.2.2 4)), (1, .ref (V.2.2 19)), (2, .int x2), (3, .int x3)] := hl
  unfold p_Lik_mayBeAlike_4_19 at h
  refine lv_aload_n hx hb d_Lik_mayBeAlike_0 rfl (lv_at hl 1 rfl) ?_
  refine lv_iload_n hx hb d_Lik_mayBeAlike_1 rfl (lv_at hl 2 rfl) ?_
  refine x_calli C hI hl.1 (d := 19) (As := [.int x2]) (rest := []) (by decide) (c_Val_sortOf_19 h) (xE19 V _) rfl yw_Val_sortOf ml_Lik_47 rfl rfl ⟨Nat.le_of_ble_eq_true rfl, Nat.le_of_ble_eq_true rfl⟩ rfl rfl (Nat.le_of_ble_eq_true rfl) d_Lik_mayBeAlike_2 ⟨Nat.zero_le _, Nat.zero_le _⟩ (fun r2 σ1 H locs h hI => ?_)
  refine lv_aload_n hx hb d_Lik_mayBeAlike_5 rfl (lv_at hl 1 rfl) ?_
  refine lv_iload_n hx hb d_Lik_mayBeAlike_6 rfl (lv_at hl 3 rfl) ?_
  refine x_calli C hI hl.1 (d := 19) (As := [.int x3]) (rest := [.int r2]) (by decide) (c_Val_sortOf_19 h) (xE19 V _) rfl yw_Val_sortOf ml_Lik_47 rfl rfl ⟨Nat.le_of_ble_eq_true rfl, Nat.le_of_ble_eq_true rfl⟩ rfl rfl (Nat.le_of_ble_eq_true rfl) d_Lik_mayBeAlike_7 ⟨Nat.zero_le _, Nat.zero_le _⟩ (fun r4 σ3 H locs h hI => ?_)
  refine lv_icmp_eq (tgt := 15) hx hb d_Lik_mayBeAlike_10 (by decide) (fun c5 => ?_) (fun c5 => ?_)
  · have h := h.1 c5
    refine lv_aload_n hx hb d_Lik_mayBeAlike_15 rfl (lv_at hl 1 rfl) ?_
    refine lv_iload_n hx hb d_Lik_mayBeAlike_16 rfl (lv_at hl 2 rfl) ?_
    refine x_calli C hI hl.1 (d := 19) (As := [.int x2]) (rest := []) (by decide) (c_Val_isReference_19 h) (xE19 V _) rfl yw_Val_isReference ml_Lik_52 rfl rfl ⟨Nat.le_of_ble_eq_true rfl, Nat.le_of_ble_eq_true rfl⟩ rfl rfl (Nat.le_of_ble_eq_true rfl) d_Lik_mayBeAlike_17 ⟨Nat.zero_le _, Nat.zero_le _⟩ (fun r7 σ6 H locs h hI => ?_)
    refine lv_if_eq (tgt := 38) hx hb d_Lik_mayBeAlike_20 (by decide) (fun c8 => ?_) (fun c8 => ?_)
    · have h := h.1 c8
      refine lv_aload_n hx hb d_Lik_mayBeAlike_38 rfl (lv_at hl 1 rfl) ?_
      refine lv_iload_n hx hb d_Lik_mayBeAlike_39 rfl (lv_at hl 2 rfl) ?_
      refine x_calli C hI hl.1 (d := 19) (As := [.int x2]) (rest := []) (by decide) (c_Val_contentOf_19 h) (xE19 V _) rfl yw_Val_contentOf ml_Lik_56 rfl rfl ⟨Nat.le_of_ble_eq_true rfl, Nat.le_of_ble_eq_true rfl⟩ rfl rfl (Nat.le_of_ble_eq_true rfl) d_Lik_mayBeAlike_40 ⟨Nat.zero_le _, Nat.zero_le _⟩ (fun r10 σ9 H locs h hI => ?_)
      refine lv_aload_n hx hb d_Lik_mayBeAlike_43 rfl (lv_at hl 1 rfl) ?_
      refine lv_iload_n hx hb d_Lik_mayBeAlike_44 rfl (lv_at hl 3 rfl) ?_
      refine x_calli C hI hl.1 (d := 19) (As := [.int x3]) (rest := [.int r10]) (by decide) (c_Val_contentOf_19 h) (xE19 V _) rfl yw_Val_contentOf ml_Lik_56 rfl rfl ⟨Nat.le_of_ble_eq_true rfl, Nat.le_of_ble_eq_true rfl⟩ rfl rfl (Nat.le_of_ble_eq_true rfl) d_Lik_mayBeAlike_45 ⟨Nat.zero_le _, Nat.zero_le _⟩ (fun r12 σ11 H locs h hI => ?_)
      refine lv_icmp_ne (tgt := 55) hx hb d_Lik_mayBeAlike_48 (by decide) (fun c13 => ?_) (fun c13 => ?_)
      · have h := h.1 c13
        refine lv_iconst (v := 0) hx hb d_Lik_mayBeAlike_55 (by decide) ?_
        exact x_zret C hlocks hr hI ⟨rfl, h⟩ d_Lik_mayBeAlike_56
      · have h := h.2 c13
        refine lv_iconst (v := 1) hx hb d_Lik_mayBeAlike_51 (by decide) ?_
        refine lv_goto (tgt := 56) hx hb d_Lik_mayBeAlike_52 (by decide) ?_
        exact x_zret C hlocks hr hI ⟨rfl, h⟩ d_Lik_mayBeAlike_56
    · have h := h.2 c8
      refine lv_aload_n hx hb d_Lik_mayBeAlike_23 rfl (lv_at hl 0 rfl) ?_
      refine lv_aload_n hx hb d_Lik_mayBeAlike_24 rfl (lv_at hl 1 rfl) ?_
      refine lv_iload_n hx hb d_Lik_mayBeAlike_25 rfl (lv_at hl 2 rfl) ?_
      refine x_calli C hI hl.1 (d := 19) (As := [.int x2]) (rest := [.ref (V.2.2 4)]) (by decide) (c_Val_contentOf_19 h) (xE19 V _) rfl yw_Val_contentOf ml_Lik_56 rfl rfl ⟨Nat.le_of_ble_eq_true rfl, Nat.le_of_ble_eq_true rfl⟩ rfl rfl (Nat.le_of_ble_eq_true rfl) d_Lik_mayBeAlike_26 ⟨Nat.zero_le _, Nat.zero_le _⟩ (fun r15 σ14 H locs h hI => ?_)
      refine lv_aload_n hx hb d_Lik_mayBeAlike_29 rfl (lv_at hl 1 rfl) ?_
      refine lv_iload_n hx hb d_Lik_mayBeAlike_30 rfl (lv_at hl 3 rfl) ?_
      refine x_calli C hI hl.1 (d := 19) (As := [.int x3]) (rest := [.int r15, .ref (V.2.2 4)]) (by decide) (c_Val_contentOf_19 h) (xE19 V _) rfl yw_Val_contentOf ml_Lik_56 rfl rfl ⟨Nat.le_of_ble_eq_true rfl, Nat.le_of_ble_eq_true rfl⟩ rfl rfl (Nat.le_of_ble_eq_true rfl) d_Lik_mayBeAlike_31 ⟨Nat.zero_le _, Nat.zero_le _⟩ (fun r17 σ16 H locs h hI => ?_)
      refine x_calli C hI hl.1 (d := 4) (As := [.int r15, .int r17]) (rest := []) (by decide) (c_Lik_takeForAlike h) (xE4 V _) rfl yw_Lik_takeForAlike ml_Lik_59 rfl rfl ⟨Nat.le_of_ble_eq_true rfl, Nat.le_of_ble_eq_true rfl⟩ rfl rfl (Nat.le_of_ble_eq_true rfl) d_Lik_mayBeAlike_34 ⟨Nat.zero_le _, Nat.zero_le _⟩ (fun r19 σ18 H locs h hI => ?_)
      exact x_zret C hlocks hr hI h d_Lik_mayBeAlike_37
  · have h := h.2 c5
    refine lv_iconst (v := 0) hx hb d_Lik_mayBeAlike_13 (by decide) ?_
    exact x_zret C hlocks hr hI ⟨rfl, h⟩ d_Lik_mayBeAlike_14
def b_Lik_fieldsMayBeAlike_L12 (K12 : Int32 → Int32 → Int32 → Int32 → xS → Prop) (Q : Int32 → xS → Prop) (x1 x2 x3 x4 : Int32) (σ : xS) : Prop :=
  ((x3 ≤ x4 → Q 1 σ) ∧ (¬ x3 ≤ x4 → p_Lik_mayBeAlike_4_19 ((x1 + 1) + x4) ((x2 + 1) + x4) σ (fun r5 σ4 => ((¬ r5 = 0 → (∀ z7 : Int32, z7 = x4 + 1 → K12 x1 x2 x3 z7 σ4)) ∧ (r5 = 0 → Q 0 σ4)))))
def p_Lik_fieldsMayBeAlike_L12 (Q : Int32 → xS → Prop) (n : Nat) : Int32 → Int32 → Int32 → Int32 → xS → Prop := Nat.rec (motive := fun _ => Int32 → Int32 → Int32 → Int32 → xS → Prop) (fun _ _ _ _ _ => False) (fun _ K x1 x2 x3 x4 σ => b_Lik_fieldsMayBeAlike_L12 K Q x1 x2 x3 x4 σ) n
def p_Lik_fieldsMayBeAlike (x1 x2 : Int32) (σ : xS) (Q : Int32 → xS → Prop) : Prop :=
  p_Hea_fieldsOf x1 σ (fun r2 σ1 => (∃ n, p_Lik_fieldsMayBeAlike_L12 Q n x1 x2 r2 0 σ1))
abbrev rm_Lik_fieldsMayBeAlike : Room := { frames := 3, cells := 0, slots := 0, locals := 70 }
theorem d_Lik_fieldsMayBeAlike_0 : decode cd_Lik_fieldsMayBeAlike 0 = .ok (.aload_n 0, 1) := by decide +kernel
theorem d_Lik_fieldsMayBeAlike_1 : decode cd_Lik_fieldsMayBeAlike 1 = .ok (.getfield 9, 3) := by decide +kernel
theorem d_Lik_fieldsMayBeAlike_4 : decode cd_Lik_fieldsMayBeAlike 4 = .ok (.iload_n 1, 1) := by decide +kernel
theorem d_Lik_fieldsMayBeAlike_5 : decode cd_Lik_fieldsMayBeAlike 5 = .ok (.invokevirtual 37, 3) := by decide +kernel
theorem d_Lik_fieldsMayBeAlike_8 : decode cd_Lik_fieldsMayBeAlike 8 = .ok (.istore_n 3, 1) := by decide +kernel
theorem d_Lik_fieldsMayBeAlike_9 : decode cd_Lik_fieldsMayBeAlike 9 = .ok (.iconst 0, 1) := by decide +kernel
theorem d_Lik_fieldsMayBeAlike_10 : decode cd_Lik_fieldsMayBeAlike 10 = .ok (.istore 4, 2) := by decide +kernel
theorem d_Lik_fieldsMayBeAlike_12 : decode cd_Lik_fieldsMayBeAlike 12 = .ok (.iload 4, 2) := by decide +kernel
theorem d_Lik_fieldsMayBeAlike_14 : decode cd_Lik_fieldsMayBeAlike 14 = .ok (.iload_n 3, 1) := by decide +kernel
theorem d_Lik_fieldsMayBeAlike_15 : decode cd_Lik_fieldsMayBeAlike 15 = .ok (.if_icmp .ge 37, 3) := by decide +kernel
theorem d_Lik_fieldsMayBeAlike_18 : decode cd_Lik_fieldsMayBeAlike 18 = .ok (.aload_n 0, 1) := by decide +kernel
theorem d_Lik_fieldsMayBeAlike_19 : decode cd_Lik_fieldsMayBeAlike 19 = .ok (.aload_n 0, 1) := by decide +kernel
theorem d_Lik_fieldsMayBeAlike_20 : decode cd_Lik_fieldsMayBeAlike 20 = .ok (.getfield 9, 3) := by decide +kernel
theorem d_Lik_fieldsMayBeAlike_23 : decode cd_Lik_fieldsMayBeAlike 23 = .ok (.getfield 43, 3) := by decide +kernel
theorem d_Lik_fieldsMayBeAlike_26 : decode cd_Lik_fieldsMayBeAlike 26 = .ok (.iload_n 1, 1) := by decide +kernel
theorem d_Lik_fieldsMayBeAlike_27 : decode cd_Lik_fieldsMayBeAlike 27 = .ok (.iconst 1, 1) := by decide +kernel
theorem d_Lik_fieldsMayBeAlike_28 : decode cd_Lik_fieldsMayBeAlike 28 = .ok (.iadd, 1) := by decide +kernel
theorem d_Lik_fieldsMayBeAlike_29 : decode cd_Lik_fieldsMayBeAlike 29 = .ok (.iload 4, 2) := by decide +kernel
theorem d_Lik_fieldsMayBeAlike_31 : decode cd_Lik_fieldsMayBeAlike 31 = .ok (.iadd, 1) := by decide +kernel
theorem d_Lik_fieldsMayBeAlike_32 : decode cd_Lik_fieldsMayBeAlike 32 = .ok (.iload_n 2, 1) := by decide +kernel
theorem d_Lik_fieldsMayBeAlike_33 : decode cd_Lik_fieldsMayBeAlike 33 = .ok (.iconst 1, 1) := by decide +kernel
theorem d_Lik_fieldsMayBeAlike_34 : decode cd_Lik_fieldsMayBeAlike 34 = .ok (.iadd, 1) := by decide +kernel
theorem d_Lik_fieldsMayBeAlike_35 : decode cd_Lik_fieldsMayBeAlike 35 = .ok (.iload 4, 2) := by decide +kernel
theorem d_Lik_fieldsMayBeAlike_37 : decode cd_Lik_fieldsMayBeAlike 37 = .ok (.iadd, 1) := by decide +kernel
theorem d_Lik_fieldsMayBeAlike_38 : decode cd_Lik_fieldsMayBeAlike 38 = .ok (.invokevirtual 29, 3) := by decide +kernel
theorem d_Lik_fieldsMayBeAlike_41 : decode cd_Lik_fieldsMayBeAlike 41 = .ok (.ifCond .ne 5, 3) := by decide +kernel
theorem d_Lik_fieldsMayBeAlike_44 : decode cd_Lik_fieldsMayBeAlike 44 = .ok (.iconst 0, 1) := by decide +kernel
theorem d_Lik_fieldsMayBeAlike_45 : decode cd_Lik_fieldsMayBeAlike 45 = .ok (.ireturn, 1) := by decide +kernel
theorem d_Lik_fieldsMayBeAlike_46 : decode cd_Lik_fieldsMayBeAlike 46 = .ok (.iinc 4 1, 3) := by decide +kernel
theorem d_Lik_fieldsMayBeAlike_49 : decode cd_Lik_fieldsMayBeAlike 49 = .ok (.goto (-37), 3) := by decide +kernel
theorem d_Lik_fieldsMayBeAlike_52 : decode cd_Lik_fieldsMayBeAlike 52 = .ok (.iconst 1, 1) := by decide +kernel
theorem d_Lik_fieldsMayBeAlike_53 : decode cd_Lik_fieldsMayBeAlike 53 = .ok (.ireturn, 1) := by decide +kernel
set_option maxRecDepth 100000 in
set_option maxHeartbeats 4000000 in
theorem s_Lik_fieldsMayBeAlike_L12 {p : Program} {l : Launch} {e : Env} {s : State} {m : MethodId} {args : Array Value} {below : List Frame} {meth : Method} {c : Code} {V : xV} (C : xC p s m args c cd_Lik_fieldsMayBeAlike 5 R_Lik V) (hlocks : meth.locks = false) (hr : meth.sig.returnType = (some .boolean)) {Q : Int32 → xS → Prop} {K12 : Int32 → Int32 → Int32 → Int32 → xS → Prop} (hK12 : ∀ (x1 : Int32) (x2 : Int32) (x3 : Int32) (x4 : Int32) (σ : xS) (H : Heap) (locs : List Loc) (ls : Array Slot), K12 x1 x2 x3 x4 σ → xI V s.heap σ H locs → lv_has ls 5 [(0, .ref (V.2.2 4)), (1, .int x1), (2, .int x2), (3, .int x3), (4, .int x4)] → W p l e rm_Lik_fieldsMayBeAlike s m args below meth c H locs 0 0 (xZi below V args s Q) (F0 m 12 ls [])) {x1 x2 x3 x4 : Int32} {σ : xS} {H : Heap} {locs : List Loc} {ls : Array Slot} (h : b_Lik_fieldsMayBeAlike_L12 K12 Q x1 x2 x3 x4 σ) (hI : xI V s.heap σ H locs) (hl : lv_has ls 5 [(0, .ref (V.2.2 4)), (1, .int x1), (2, .int x2), (3, .int x3), (4, .int x4)]) : W p l e rm_Lik_fieldsMayBeAlike s m args below meth c H locs 0 0 (xZi below V args s Q) (F0 m 12 ls []) := by
  have hx := C.1
  have hb := C.2.1
  unfold b_Lik_fieldsMayBeAlike_L12 at h
  refine lv_iload hx hb d_Lik_fieldsMayBeAlike_12 (lv_at hl 4 rfl) ?_
  refine lv_iload_n hx hb d_Lik_fieldsMayBeAlike_14 rfl (lv_at hl 3 rfl) ?_
  refine lv_icmp_ge (tgt := 52) hx hb d_Lik_fieldsMayBeAlike_15 (by decide) (fun c3 => ?_) (fun c3 => ?_)
  · have h := h.1 c3
    refine lv_iconst (v := 1) hx hb d_Lik_fieldsMayBeAlike_52 (by decide) ?_
    exact x_zret C hlocks hr hI ⟨rfl, h⟩ d_Lik_fieldsMayBeAlike_53
  · have h := h.2 c3
    refine lv_aload_n hx hb d_Lik_fieldsMayBeAlike_18 rfl (lv_at hl 0 rfl) ?_
    refine lv_aload_n hx hb d_Lik_fieldsMayBeAlike_19 rfl (lv_at hl 0 rfl) ?_
    refine x_get C hI (d := 4) (by decide) (xE4 V _) fd_Lik_9 rfl d_Lik_fieldsMayBeAlike_20 ?_
    refine x_get C hI (d := 6) (by decide) (xE6 V _) fd_Lik_43 rfl d_Lik_fieldsMayBeAlike_23 ?_
    refine lv_iload_n hx hb d_Lik_fieldsMayBeAlike_26 rfl (lv_at hl 1 rfl) ?_
    refine lv_iconst (v := 1) hx hb d_Lik_fieldsMayBeAlike_27 (by decide) ?_
    refine lv_iadd hx hb d_Lik_fieldsMayBeAlike_28 ?_
    refine lv_iload hx hb d_Lik_fieldsMayBeAlike_29 (lv_at hl 4 rfl) ?_
    refine lv_iadd hx hb d_Lik_fieldsMayBeAlike_31 ?_
    refine lv_iload_n hx hb d_Lik_fieldsMayBeAlike_32 rfl (lv_at hl 2 rfl) ?_
    refine lv_iconst (v := 1) hx hb d_Lik_fieldsMayBeAlike_33 (by decide) ?_
    refine lv_iadd hx hb d_Lik_fieldsMayBeAlike_34 ?_
    refine lv_iload hx hb d_Lik_fieldsMayBeAlike_35 (lv_at hl 4 rfl) ?_
    refine lv_iadd hx hb d_Lik_fieldsMayBeAlike_37 ?_
    refine x_calli C hI hl.1 (d := 4) (As := [.ref (V.2.2 19), .int ((x1 + 1) + x4), .int ((x2 + 1) + x4)]) (rest := []) (by decide) (c_Lik_mayBeAlike_4_19 h) (xE4 V _) rfl yw_Lik_mayBeAlike ml_Lik_29 rfl rfl ⟨Nat.le_of_ble_eq_true rfl, Nat.le_of_ble_eq_true rfl⟩ rfl rfl (Nat.le_of_ble_eq_true rfl) d_Lik_fieldsMayBeAlike_38 ⟨Nat.zero_le _, Nat.zero_le _⟩ (fun r5 σ4 H locs h hI => ?_)
    refine lv_if_ne (tgt := 46) hx hb d_Lik_fieldsMayBeAlike_41 (by decide) (fun c6 => ?_) (fun c6 => ?_)
    · have h := h.1 c6
      obtain ⟨z7, ez7⟩ : ∃ y : Int32, y = x4 + 1 := ⟨_, rfl⟩
      have h := h z7 ez7
      refine lv_iinc (v := z7) (lv' := [(4, .int z7), (0, .ref (V.2.2 4)), (1, .int x1), (2, .int x2), (3, .int x3)]) hx hb d_Lik_fieldsMayBeAlike_46 hl (k := 4) rfl (by rw [ez7]; rfl) (by decide) rfl (fun ls hl => ?_)
      refine lv_goto (tgt := 12) hx hb d_Lik_fieldsMayBeAlike_49 (by decide) ?_
      exact hK12 _ _ _ _ _ _ _ _ h hI (lv_sub hl [1, 2, 3, 4, 0] rfl)
    · have h := h.2 c6
      refine lv_iconst (v := 0) hx hb d_Lik_fieldsMayBeAlike_44 (by decide) ?_
      exact x_zret C hlocks hr hI ⟨rfl, h⟩ d_Lik_fieldsMayBeAlike_45
theorem w_Lik_fieldsMayBeAlike_L12 {p : Program} {l : Launch} {e : Env} {s : State} {m : MethodId} {args : Array Value} {below : List Frame} {meth : Method} {c : Code} {V : xV} (C : xC p s m args c cd_Lik_fieldsMayBeAlike 5 R_Lik V) (hlocks : meth.locks = false) (hr : meth.sig.returnType = (some .boolean)) {Q : Int32 → xS → Prop} : ∀ (n : Nat) (x1 : Int32) (x2 : Int32) (x3 : Int32) (x4 : Int32) (σ : xS) (H : Heap) (locs : List Loc) (ls : Array Slot), p_Lik_fieldsMayBeAlike_L12 Q n x1 x2 x3 x4 σ → xI V s.heap σ H locs → lv_has ls 5 [(0, .ref (V.2.2 4)), (1, .int x1), (2, .int x2), (3, .int x3), (4, .int x4)] → W p l e rm_Lik_fieldsMayBeAlike s m args below meth c H locs 0 0 (xZi below V args s Q) (F0 m 12 ls []) := by
  intro n
  induction n with
  | zero =>
    intro x1 x2 x3 x4 σ H locs ls h
    exact False.elim h
  | succ n ih =>
    intro x1 x2 x3 x4 σ H locs ls h hI hl
    exact s_Lik_fieldsMayBeAlike_L12 C hlocks hr (K12 := p_Lik_fieldsMayBeAlike_L12 Q n) (fun x1 x2 x3 x4 σ H locs ls h hI hl => ih x1 x2 x3 x4 σ H locs ls h hI hl) h hI hl
set_option maxRecDepth 100000 in
set_option maxHeartbeats 4000000 in
theorem c_Lik_fieldsMayBeAlike {l : Launch} {V : xV} {σ : xS} {x1 x2 : Int32} {Q : Int32 → xS → Prop} (h : p_Lik_fieldsMayBeAlike x1 x2 σ Q) : xMi l y_Lik_fieldsMayBeAlike (.code y_Lik_fieldsMayBeAlike cd_Lik_fieldsMayBeAlike 5 (some .boolean) :: xG) rm_Lik_fieldsMayBeAlike V [.ref (V.2.2 4), .int x1, .int x2] σ Q := by
  refine x_begini (by decide) (Nat.le_of_ble_eq_true rfl) (fun p e s m below meth c ls C hlocks hr hI hl => ?_)
  have C : xC p s m _ c cd_Lik_fieldsMayBeAlike 5 R_Lik V := C
  have hx := C.1
  have hb := C.2.1
  have hl : lv_has ls 5 [(0, .ref (V.2.2 4)), (1, .int x1), (2, .int x2)] := hl
  unfold p_Lik_fieldsMayBeAlike at h
  refine lv_aload_n hx hb d_Lik_fieldsMayBeAlike_0 rfl (lv_at hl 0 rfl) ?_
  refine x_get C hI (d := 4) (by decide) (xE4 V _) fd_Lik_9 rfl d_Lik_fieldsMayBeAlike_1 ?_
  refine lv_iload_n hx hb d_Lik_fieldsMayBeAlike_4 rfl (lv_at hl 1 rfl) ?_
  refine x_calli C hI hl.1 (d := 6) (As := [.int x1]) (rest := []) (by decide) (c_Hea_fieldsOf h) (xE6 V _) rfl yw_Hea_fieldsOf ml_Lik_37 rfl rfl ⟨Nat.le_of_ble_eq_true rfl, Nat.le_of_ble_eq_true rfl⟩ rfl rfl (Nat.le_of_ble_eq_true rfl) d_Lik_fieldsMayBeAlike_5 ⟨Nat.zero_le _, Nat.zero_le _⟩ (fun r2 σ1 H locs h hI => ?_)
  refine lv_istore_n (lv' := [(3, .int r2), (0, .ref (V.2.2 4)), (1, .int x1), (2, .int x2)]) hx hb d_Lik_fieldsMayBeAlike_8 rfl hl (by decide) rfl (fun ls hl => ?_)
  refine lv_iconst (v := 0) hx hb d_Lik_fieldsMayBeAlike_9 (by decide) ?_
  refine lv_istore (lv' := [(4, .int 0), (3, .int r2), (0, .ref (V.2.2 4)), (1, .int x1), (2, .int x2)]) hx hb d_Lik_fieldsMayBeAlike_10 hl (by decide) rfl (fun ls hl => ?_)
  obtain ⟨n, h⟩ := h
  exact w_Lik_fieldsMayBeAlike_L12 C hlocks hr n _ _ _ _ _ _ _ _ h hI (lv_sub hl [2, 3, 4, 1, 0] rfl)
theorem yw_Lik_fieldsMayBeAlike : xY y_Lik_fieldsMayBeAlike cd_Lik_fieldsMayBeAlike 5 (some .boolean) 2 := ⟨xG_mem 949 (by decide +kernel) (by decide +kernel), xG_mem 28 (by decide +kernel) (by decide +kernel), xG_mem 64 (by decide +kernel) (by decide +kernel), xG_mem 950 (by decide +kernel) (by decide +kernel), by decide, by decide, by decide +kernel⟩
theorem ml_Lik_33 : Cond.methodLink R_Lik 33 y_Lik_fieldsMayBeAlike ∈ xG := xG_mem 947 (by decide +kernel) (by decide +kernel)
def b_Lik_ofRoots_4_5_L43 (K43 : Int32 → Int32 → xS → Prop) (Q : Int32 → xS → Prop) (x4 x5 : Int32) (σ : xS) : Prop :=
  ((x4 = 0 → (narrow .boolean (.int x4) = .int x4 ∧ Q x4 σ)) ∧ (¬ x4 = 0 → (((σ 4 4) ≤ x5 → (narrow .boolean (.int x4) = .int x4 ∧ Q x4 σ)) ∧ (¬ (σ 4 4) ≤ x5 → ((640 ≤ x5 → (narrow .boolean (.int x4) = .int x4 ∧ Q x4 σ)) ∧ (¬ 640 ≤ x5 → (vp_in x5 640 ∧ (vp_in x5 640 ∧ p_Lik_fieldsMayBeAlike (σ 15 x5.toNatClampNeg) (σ 16 x5.toNatClampNeg) σ (fun r10 σ9 => (∀ z11 : Int32, z11 = x5 + 1 → K43 r10 z11 σ9))))))))))
def p_Lik_ofRoots_4_5_L43 (Q : Int32 → xS → Prop) (n : Nat) : Int32 → Int32 → xS → Prop := Nat.rec (motive := fun _ => Int32 → Int32 → xS → Prop) (fun _ _ _ => False) (fun _ K x4 x5 σ => b_Lik_ofRoots_4_5_L43 K Q x4 x5 σ) n
def b_Lik_ofRoots_4_5_L3 (K3 : Int32 → Int32 → Int32 → xS → Prop) (Q : Int32 → xS → Prop) (x2 x3 x4 : Int32) (σ : xS) : Prop :=
  ((640 ≤ x4 → p_Lik_mayBeAlike_4_5 x2 x3 (xu σ 4 4 0) (fun r3 σ2 => (∃ n, p_Lik_ofRoots_4_5_L43 Q n r3 0 σ2))) ∧ (¬ 640 ≤ x4 → (vp_in x4 640 ∧ (∀ z13 : Int32, z13 = x4 + 1 → K3 x2 x3 z13 (xu σ 14 x4.toNatClampNeg x4)))))
def p_Lik_ofRoots_4_5_L3 (Q : Int32 → xS → Prop) (n : Nat) : Int32 → Int32 → Int32 → xS → Prop := Nat.rec (motive := fun _ => Int32 → Int32 → Int32 → xS → Prop) (fun _ _ _ _ => False) (fun _ K x2 x3 x4 σ => b_Lik_ofRoots_4_5_L3 K Q x2 x3 x4 σ) n
def p_Lik_ofRoots_4_5 (x2 x3 : Int32) (σ : xS) (Q : Int32 → xS → Prop) : Prop :=
  (∃ n, p_Lik_ofRoots_4_5_L3 Q n x2 x3 0 σ)
abbrev rm_Lik_ofRoots_4_5 : Room := { frames := 4, cells := 0, slots := 0, locals := 94 }
theorem d_Lik_ofRoots_0 : decode cd_Lik_ofRoots 0 = .ok (.iconst 0, 1) := by decide +kernel
theorem d_Lik_ofRoots_1 : decode cd_Lik_ofRoots 1 = .ok (.istore 4, 2) := by decide +kernel
theorem d_Lik_ofRoots_3 : decode cd_Lik_ofRoots 3 = .ok (.iload 4, 2) := by decide +kernel
theorem d_Lik_ofRoots_5 : decode cd_Lik_ofRoots 5 = .ok (.sipush 640, 3) := by decide +kernel
theorem d_Lik_ofRoots_8 : decode cd_Lik_ofRoots 8 = .ok (.if_icmp .ge 18, 3) := by decide +kernel
theorem d_Lik_ofRoots_11 : decode cd_Lik_ofRoots 11 = .ok (.aload_n 0, 1) := by decide +kernel
theorem d_Lik_ofRoots_12 : decode cd_Lik_ofRoots 12 = .ok (.getfield 15, 3) := by decide +kernel
theorem d_Lik_ofRoots_15 : decode cd_Lik_ofRoots 15 = .ok (.iload 4, 2) := by decide +kernel
theorem d_Lik_ofRoots_17 : decode cd_Lik_ofRoots 17 = .ok (.iload 4, 2) := by decide +kernel
theorem d_Lik_ofRoots_19 : decode cd_Lik_ofRoots 19 = .ok (.iastore, 1) := by decide +kernel
theorem d_Lik_ofRoots_20 : decode cd_Lik_ofRoots 20 = .ok (.iinc 4 1, 3) := by decide +kernel
theorem d_Lik_ofRoots_23 : decode cd_Lik_ofRoots 23 = .ok (.goto (-20), 3) := by decide +kernel
theorem d_Lik_ofRoots_26 : decode cd_Lik_ofRoots 26 = .ok (.aload_n 0, 1) := by decide +kernel
theorem d_Lik_ofRoots_27 : decode cd_Lik_ofRoots 27 = .ok (.iconst 0, 1) := by decide +kernel
theorem d_Lik_ofRoots_28 : decode cd_Lik_ofRoots 28 = .ok (.putfield 25, 3) := by decide +kernel
theorem d_Lik_ofRoots_31 : decode cd_Lik_ofRoots 31 = .ok (.aload_n 0, 1) := by decide +kernel
theorem d_Lik_ofRoots_32 : decode cd_Lik_ofRoots 32 = .ok (.aload_n 1, 1) := by decide +kernel
theorem d_Lik_ofRoots_33 : decode cd_Lik_ofRoots 33 = .ok (.iload_n 2, 1) := by decide +kernel
theorem d_Lik_ofRoots_34 : decode cd_Lik_ofRoots 34 = .ok (.iload_n 3, 1) := by decide +kernel
theorem d_Lik_ofRoots_35 : decode cd_Lik_ofRoots 35 = .ok (.invokevirtual 29, 3) := by decide +kernel
theorem d_Lik_ofRoots_38 : decode cd_Lik_ofRoots 38 = .ok (.istore 4, 2) := by decide +kernel
theorem d_Lik_ofRoots_40 : decode cd_Lik_ofRoots 40 = .ok (.iconst 0, 1) := by decide +kernel
theorem d_Lik_ofRoots_41 : decode cd_Lik_ofRoots 41 = .ok (.istore 5, 2) := by decide +kernel
theorem d_Lik_ofRoots_43 : decode cd_Lik_ofRoots 43 = .ok (.iload 4, 2) := by decide +kernel
theorem d_Lik_ofRoots_45 : decode cd_Lik_ofRoots 45 = .ok (.ifCond .eq 46, 3) := by decide +kernel
theorem d_Lik_ofRoots_48 : decode cd_Lik_ofRoots 48 = .ok (.iload 5, 2) := by decide +kernel
theorem d_Lik_ofRoots_50 : decode cd_Lik_ofRoots 50 = .ok (.aload_n 0, 1) := by decide +kernel
theorem d_Lik_ofRoots_51 : decode cd_Lik_ofRoots 51 = .ok (.getfield 25, 3) := by decide +kernel
theorem d_Lik_ofRoots_54 : decode cd_Lik_ofRoots 54 = .ok (.if_icmp .ge 37, 3) := by decide +kernel
theorem d_Lik_ofRoots_57 : decode cd_Lik_ofRoots 57 = .ok (.iload 5, 2) := by decide +kernel
theorem d_Lik_ofRoots_59 : decode cd_Lik_ofRoots 59 = .ok (.sipush 640, 3) := by decide +kernel
theorem d_Lik_ofRoots_62 : decode cd_Lik_ofRoots 62 = .ok (.if_icmp .ge 29, 3) := by decide +kernel
theorem d_Lik_ofRoots_65 : decode cd_Lik_ofRoots 65 = .ok (.aload_n 0, 1) := by decide +kernel
theorem d_Lik_ofRoots_66 : decode cd_Lik_ofRoots 66 = .ok (.aload_n 0, 1) := by decide +kernel
theorem d_Lik_ofRoots_67 : decode cd_Lik_ofRoots 67 = .ok (.getfield 19, 3) := by decide +kernel
theorem d_Lik_ofRoots_70 : decode cd_Lik_ofRoots 70 = .ok (.iload 5, 2) := by decide +kernel
theorem d_Lik_ofRoots_72 : decode cd_Lik_ofRoots 72 = .ok (.iaload, 1) := by decide +kernel
theorem d_Lik_ofRoots_73 : decode cd_Lik_ofRoots 73 = .ok (.aload_n 0, 1) := by decide +kernel
theorem d_Lik_ofRoots_74 : decode cd_Lik_ofRoots 74 = .ok (.getfield 22, 3) := by decide +kernel
theorem d_Lik_ofRoots_77 : decode cd_Lik_ofRoots 77 = .ok (.iload 5, 2) := by decide +kernel
theorem d_Lik_ofRoots_79 : decode cd_Lik_ofRoots 79 = .ok (.iaload, 1) := by decide +kernel
theorem d_Lik_ofRoots_80 : decode cd_Lik_ofRoots 80 = .ok (.invokevirtual 33, 3) := by decide +kernel
theorem d_Lik_ofRoots_83 : decode cd_Lik_ofRoots 83 = .ok (.istore 4, 2) := by decide +kernel
theorem d_Lik_ofRoots_85 : decode cd_Lik_ofRoots 85 = .ok (.iinc 5 1, 3) := by decide +kernel
theorem d_Lik_ofRoots_88 : decode cd_Lik_ofRoots 88 = .ok (.goto (-45), 3) := by decide +kernel
theorem d_Lik_ofRoots_91 : decode cd_Lik_ofRoots 91 = .ok (.iload 4, 2) := by decide +kernel
theorem d_Lik_ofRoots_93 : decode cd_Lik_ofRoots 93 = .ok (.ireturn, 1) := by decide +kernel
set_option maxRecDepth 100000 in
set_option maxHeartbeats 4000000 in
theorem s_Lik_ofRoots_4_5_L43 {p : Program} {l : Launch} {e : Env} {s : State} {m : MethodId} {args : Array Value} {below : List Frame} {meth : Method} {c : Code} {V : xV} (C : xC p s m args c cd_Lik_ofRoots 6 R_Lik V) (hlocks : meth.locks = false) (hr : meth.sig.returnType = (some .boolean)) {Q : Int32 → xS → Prop} {K43 : Int32 → Int32 → xS → Prop} (hK43 : ∀ (x4 : Int32) (x5 : Int32) (σ : xS) (H : Heap) (locs : List Loc) (ls : Array Slot), K43 x4 x5 σ → xI V s.heap σ H locs → lv_has ls 6 [(0, .ref (V.2.2 4)), (4, .int x4), (5, .int x5)] → W p l e rm_Lik_ofRoots_4_5 s m args below meth c H locs 0 0 (xZi below V args s Q) (F0 m 43 ls [])) {x4 x5 : Int32} {σ : xS} {H : Heap} {locs : List Loc} {ls : Array Slot} (h : b_Lik_ofRoots_4_5_L43 K43 Q x4 x5 σ) (hI : xI V s.heap σ H locs) (hl : lv_has ls 6 [(0, .ref (V.2.2 4)), (4, .int x4), (5, .int x5)]) : W p l e rm_Lik_ofRoots_4_5 s m args below meth c H locs 0 0 (xZi below V args s Q) (F0 m 43 ls []) := by
  have hx := C.1
  have hb := C.2.1
  unfold b_Lik_ofRoots_4_5_L43 at h
  refine lv_iload hx hb d_Lik_ofRoots_43 (lv_at hl 1 rfl) ?_
  refine lv_if_eq (tgt := 91) hx hb d_Lik_ofRoots_45 (by decide) (fun c4 => ?_) (fun c4 => ?_)
  · have h := h.1 c4
    refine lv_iload hx hb d_Lik_ofRoots_91 (lv_at hl 1 rfl) ?_
    exact x_zret C hlocks hr hI h d_Lik_ofRoots_93
  · have h := h.2 c4
    refine lv_iload hx hb d_Lik_ofRoots_48 (lv_at hl 2 rfl) ?_
    refine lv_aload_n hx hb d_Lik_ofRoots_50 rfl (lv_at hl 0 rfl) ?_
    refine x_get C hI (d := 4) (by decide) (xE4 V _) fd_Lik_25 rfl d_Lik_ofRoots_51 ?_
    refine lv_icmp_ge (tgt := 91) hx hb d_Lik_ofRoots_54 (by decide) (fun c5 => ?_) (fun c5 => ?_)
    · have h := h.1 c5
      refine lv_iload hx hb d_Lik_ofRoots_91 (lv_at hl 1 rfl) ?_
      exact x_zret C hlocks hr hI h d_Lik_ofRoots_93
    · have h := h.2 c5
      refine lv_iload hx hb d_Lik_ofRoots_57 (lv_at hl 2 rfl) ?_
      refine lv_sipush (v := 640) hx hb d_Lik_ofRoots_59 (by decide) ?_
      refine lv_icmp_ge (tgt := 91) hx hb d_Lik_ofRoots_62 (by decide) (fun c6 => ?_) (fun c6 => ?_)
      · have h := h.1 c6
        refine lv_iload hx hb d_Lik_ofRoots_91 (lv_at hl 1 rfl) ?_
        exact x_zret C hlocks hr hI h d_Lik_ofRoots_93
      · have h := h.2 c6
        refine lv_aload_n hx hb d_Lik_ofRoots_65 rfl (lv_at hl 0 rfl) ?_
        refine lv_aload_n hx hb d_Lik_ofRoots_66 rfl (lv_at hl 0 rfl) ?_
        refine x_get C hI (d := 4) (by decide) (xE4 V _) fd_Lik_19 rfl d_Lik_ofRoots_67 ?_
        refine lv_iload hx hb d_Lik_ofRoots_70 (lv_at hl 2 rfl) ?_
        obtain ⟨i7, h⟩ := h
        refine x_iald C hI (d := 15) (by decide) (xE15 V) i7 d_Lik_ofRoots_72 ?_
        refine lv_aload_n hx hb d_Lik_ofRoots_73 rfl (lv_at hl 0 rfl) ?_
        refine x_get C hI (d := 4) (by decide) (xE4 V _) fd_Lik_22 rfl d_Lik_ofRoots_74 ?_
        refine lv_iload hx hb d_Lik_ofRoots_77 (lv_at hl 2 rfl) ?_
        obtain ⟨i8, h⟩ := h
        refine x_iald C hI (d := 16) (by decide) (xE16 V) i8 d_Lik_ofRoots_79 ?_
        refine x_calli C hI hl.1 (d := 4) (As := [.int (σ 15 x5.toNatClampNeg), .int (σ 16 x5.toNatClampNeg)]) (rest := []) (by decide) (c_Lik_fieldsMayBeAlike h) (xE4 V _) rfl yw_Lik_fieldsMayBeAlike ml_Lik_33 rfl rfl ⟨Nat.le_of_ble_eq_true rfl, Nat.le_of_ble_eq_true rfl⟩ rfl rfl (Nat.le_of_ble_eq_true rfl) d_Lik_ofRoots_80 ⟨Nat.zero_le _, Nat.zero_le _⟩ (fun r10 σ9 H locs h hI => ?_)
        refine lv_istore (lv' := [(4, .int r10), (0, .ref (V.2.2 4)), (5, .int x5)]) hx hb d_Lik_ofRoots_83 hl (by decide) rfl (fun ls hl => ?_)
        obtain ⟨z11, ez11⟩ : ∃ y : Int32, y = x5 + 1 := ⟨_, rfl⟩
        have h := h z11 ez11
        refine lv_iinc (v := z11) (lv' := [(5, .int z11), (4, .int r10), (0, .ref (V.2.2 4))]) hx hb d_Lik_ofRoots_85 hl (k := 2) rfl (by rw [ez11]; rfl) (by decide) rfl (fun ls hl => ?_)
        refine lv_goto (tgt := 43) hx hb d_Lik_ofRoots_88 (by decide) ?_
        exact hK43 _ _ _ _ _ _ h hI (lv_sub hl [2, 1, 0] rfl)
theorem w_Lik_ofRoots_4_5_L43 {p : Program} {l : Launch} {e : Env} {s : State} {m : MethodId} {args : Array Value} {below : List Frame} {meth : Method} {c : Code} {V : xV} (C : xC p s m args c cd_Lik_ofRoots 6 R_Lik V) (hlocks : meth.locks = false) (hr : meth.sig.returnType = (some .boolean)) {Q : Int32 → xS → Prop} : ∀ (n : Nat) (x4 : Int32) (x5 : Int32) (σ : xS) (H : Heap) (locs : List Loc) (ls : Array Slot), p_Lik_ofRoots_4_5_L43 Q n x4 x5 σ → xI V s.heap σ H locs → lv_has ls 6 [(0, .ref (V.2.2 4)), (4, .int x4), (5, .int x5)] → W p l e rm_Lik_ofRoots_4_5 s m args below meth c H locs 0 0 (xZi below V args s Q) (F0 m 43 ls []) := by
  intro n
  induction n with
  | zero =>
    intro x4 x5 σ H locs ls h
    exact False.elim h
  | succ n ih =>
    intro x4 x5 σ H locs ls h hI hl
    exact s_Lik_ofRoots_4_5_L43 C hlocks hr (K43 := p_Lik_ofRoots_4_5_L43 Q n) (fun x4 x5 σ H locs ls h hI hl => ih x4 x5 σ H locs ls h hI hl) h hI hl
set_option maxRecDepth 100000 in
set_option maxHeartbeats 4000000 in
theorem s_Lik_ofRoots_4_5_L3 {p : Program} {l : Launch} {e : Env} {s : State} {m : MethodId} {args : Array Value} {below : List Frame} {meth : Method} {c : Code} {V : xV} (C : xC p s m args c cd_Lik_ofRoots 6 R_Lik V) (hlocks : meth.locks = false) (hr : meth.sig.returnType = (some .boolean)) {Q : Int32 → xS → Prop} {K3 : Int32 → Int32 → Int32 → xS → Prop} (hK3 : ∀ (x2 : Int32) (x3 : Int32) (x4 : Int32) (σ : xS) (H : Heap) (locs : List Loc) (ls : Array Slot), K3 x2 x3 x4 σ → xI V s.heap σ H locs → lv_has ls 6 [(0, .ref (V.2.2 4)), (1, .ref (V.2.2 5)), (2, .int x2), (3, .int x3), (4, .int x4)] → W p l e rm_Lik_ofRoots_4_5 s m args below meth c H locs 0 0 (xZi below V args s Q) (F0 m 3 ls [])) {x2 x3 x4 : Int32} {σ : xS} {H : Heap} {locs : List Loc} {ls : Array Slot} (h : b_Lik_ofRoots_4_5_L3 K3 Q x2 x3 x4 σ) (hI : xI V s.heap σ H locs) (hl : lv_has ls 6 [(0, .ref (V.2.2 4)), (1, .ref (V.2.2 5)), (2, .int x2), (3, .int x3), (4, .int x4)]) : W p l e rm_Lik_ofRoots_4_5 s m args below meth c H locs 0 0 (xZi below V args s Q) (F0 m 3 ls []) := by
  have hx := C.1
  have hb := C.2.1
  unfold b_Lik_ofRoots_4_5_L3 at h
  refine lv_iload hx hb d_Lik_ofRoots_3 (lv_at hl 4 rfl) ?_
  refine lv_sipush (v := 640) hx hb d_Lik_ofRoots_5 (by decide) ?_
  refine lv_icmp_ge (tgt := 26) hx hb d_Lik_ofRoots_8 (by decide) (fun c1 => ?_) (fun c1 => ?_)
  · have h := h.1 c1
    refine lv_aload_n hx hb d_Lik_ofRoots_26 rfl (lv_at hl 0 rfl) ?_
    refine lv_iconst (v := 0) hx hb d_Lik_ofRoots_27 (by decide) ?_
    refine x_put C hI (d := 4) (by decide) (xE4 V _) (xP_4_4 V _ _) fw_Lik_25 (Nat.le_of_ble_eq_true rfl) d_Lik_ofRoots_28 (fun H locs hI => ?_)
    refine lv_aload_n hx hb d_Lik_ofRoots_31 rfl (lv_at hl 0 rfl) ?_
    refine lv_aload_n hx hb d_Lik_ofRoots_32 rfl (lv_at hl 1 rfl) ?_
    refine lv_iload_n hx hb d_Lik_ofRoots_33 rfl (lv_at hl 2 rfl) ?_
    refine lv_iload_n hx hb d_Lik_ofRoots_34 rfl (lv_at hl 3 rfl) ?_
    refine x_calli C hI hl.1 (d := 4) (As := [.ref (V.2.2 5), .int x2, .int x3]) (rest := []) (by decide) (c_Lik_mayBeAlike_4_5 h) (xE4 V _) rfl yw_Lik_mayBeAlike ml_Lik_29 rfl rfl ⟨Nat.le_of_ble_eq_true rfl, Nat.le_of_ble_eq_true rfl⟩ rfl rfl (Nat.le_of_ble_eq_true rfl) d_Lik_ofRoots_35 ⟨Nat.zero_le _, Nat.zero_le _⟩ (fun r3 σ2 H locs h hI => ?_)
    refine lv_istore (lv' := [(4, .int r3), (0, .ref (V.2.2 4)), (1, .ref (V.2.2 5)), (2, .int x2), (3, .int x3)]) hx hb d_Lik_ofRoots_38 hl (by decide) rfl (fun ls hl => ?_)
    refine lv_iconst (v := 0) hx hb d_Lik_ofRoots_40 (by decide) ?_
    refine lv_istore (lv' := [(5, .int 0), (4, .int r3), (0, .ref (V.2.2 4)), (1, .ref (V.2.2 5)), (2, .int x2), (3, .int x3)]) hx hb d_Lik_ofRoots_41 hl (by decide) rfl (fun ls hl => ?_)
    obtain ⟨n, h⟩ := h
    exact w_Lik_ofRoots_4_5_L43 C hlocks hr n _ _ _ _ _ _ h hI (lv_sub hl [2, 1, 0] rfl)
  · have h := h.2 c1
    refine lv_aload_n hx hb d_Lik_ofRoots_11 rfl (lv_at hl 0 rfl) ?_
    refine x_get C hI (d := 4) (by decide) (xE4 V _) fd_Lik_15 rfl d_Lik_ofRoots_12 ?_
    refine lv_iload hx hb d_Lik_ofRoots_15 (lv_at hl 4 rfl) ?_
    refine lv_iload hx hb d_Lik_ofRoots_17 (lv_at hl 4 rfl) ?_
    obtain ⟨i12, h⟩ := h
    refine x_iast C hI (d := 14) (by decide) (xE14 V) i12 d_Lik_ofRoots_19 (fun H locs hI => ?_)
    obtain ⟨z13, ez13⟩ : ∃ y : Int32, y = x4 + 1 := ⟨_, rfl⟩
    have h := h z13 ez13
    refine lv_iinc (v := z13) (lv' := [(4, .int z13), (0, .ref (V.2.2 4)), (1, .ref (V.2.2 5)), (2, .int x2), (3, .int x3)]) hx hb d_Lik_ofRoots_20 hl (k := 4) rfl (by rw [ez13]; rfl) (by decide) rfl (fun ls hl => ?_)
    refine lv_goto (tgt := 3) hx hb d_Lik_ofRoots_23 (by decide) ?_
    exact hK3 _ _ _ _ _ _ _ h hI (lv_sub hl [1, 2, 3, 4, 0] rfl)
theorem w_Lik_ofRoots_4_5_L3 {p : Program} {l : Launch} {e : Env} {s : State} {m : MethodId} {args : Array Value} {below : List Frame} {meth : Method} {c : Code} {V : xV} (C : xC p s m args c cd_Lik_ofRoots 6 R_Lik V) (hlocks : meth.locks = false) (hr : meth.sig.returnType = (some .boolean)) {Q : Int32 → xS → Prop} : ∀ (n : Nat) (x2 : Int32) (x3 : Int32) (x4 : Int32) (σ : xS) (H : Heap) (locs : List Loc) (ls : Array Slot), p_Lik_ofRoots_4_5_L3 Q n x2 x3 x4 σ → xI V s.heap σ H locs → lv_has ls 6 [(0, .ref (V.2.2 4)), (1, .ref (V.2.2 5)), (2, .int x2), (3, .int x3), (4, .int x4)] → W p l e rm_Lik_ofRoots_4_5 s m args below meth c H locs 0 0 (xZi below V args s Q) (F0 m 3 ls []) := by
  intro n
  induction n with
  | zero =>
    intro x2 x3 x4 σ H locs ls h
    exact False.elim h
  | succ n ih =>
    intro x2 x3 x4 σ H locs ls h hI hl
    exact s_Lik_ofRoots_4_5_L3 C hlocks hr (K3 := p_Lik_ofRoots_4_5_L3 Q n) (fun x2 x3 x4 σ H locs ls h hI hl => ih x2 x3 x4 σ H locs ls h hI hl) h hI hl
set_option maxRecDepth 100000 in
set_option maxHeartbeats 4000000 in
theorem c_Lik_ofRoots_4_5 {l : Launch} {V : xV} {σ : xS} {x2 x3 : Int32} {Q : Int32 → xS → Prop} (h : p_Lik_ofRoots_4_5 x2 x3 σ Q) : xMi l y_Lik_ofRoots (.code y_Lik_ofRoots cd_Lik_ofRoots 6 (some .boolean) :: xG) rm_Lik_ofRoots_4_5 V [.ref (V.2.2 4), .ref (V.2.2 5), .int x2, .int x3] σ Q := by
  refine x_begini (by decide) (Nat.le_of_ble_eq_true rfl) (fun p e s m below meth c ls C hlocks hr hI hl => ?_)
  have C : xC p s m _ c cd_Lik_ofRoots 6 R_Lik V := C
  have hx := C.1
  have hb := C.2.1
  have hl : lv_has ls 6 [(0, .ref (V.2.2 4)), (1, .ref (V.2.2 5)), (2, .int x2), (3, .int x3)] := hl
  unfold p_Lik_ofRoots_4_5 at h
  refine lv_iconst (v := 0) hx hb d_Lik_ofRoots_0 (by decide) ?_
  refine lv_istore (lv' := [(4, .int 0), (0, .ref (V.2.2 4)), (1, .ref (V.2.2 5)), (2, .int x2), (3, .int x3)]) hx hb d_Lik_ofRoots_1 hl (by decide) rfl (fun ls hl => ?_)
  obtain ⟨n, h⟩ := h
  exact w_Lik_ofRoots_4_5_L3 C hlocks hr n _ _ _ _ _ _ _ h hI (lv_sub hl [1, 2, 3, 4, 0] rfl)
