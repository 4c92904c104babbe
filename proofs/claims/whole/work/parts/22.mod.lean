def y_Mod_get : MethodName := ⟨"RegionPoolModel", "get", "(III)Z"⟩
abbrev cd_Mod_get : ByteArray := prog_12_method_29_code
def y_Mod_refers : MethodName := ⟨"RegionPoolModel", "refers", "(I)Z"⟩
abbrev cd_Mod_refers : ByteArray := prog_12_method_28_code
def p_Mod_refers_J16 (Q : Int32 → xS → Prop) (y0 : Int32) (σ : xS) : Prop :=
  (vp_in y0 16 ∧ ((¬ (σ 54 y0.toNatClampNeg) = 2 → Q 0 σ) ∧ ((σ 54 y0.toNatClampNeg) = 2 → Q 1 σ)))
def p_Mod_refers (x1 : Int32) (σ : xS) (Q : Int32 → xS → Prop) : Prop :=
  p_Mod_isRoot x1 σ (fun r2 σ1 => ((r2 = 0 → p_Mod_refers_J16 Q 0 σ1) ∧ (¬ r2 = 0 → p_Mod_refers_J16 Q x1 σ1)))
abbrev rm_Mod_refers : Room := { frames := 1, cells := 0, slots := 0, locals := 20 }
theorem d_Mod_refers_0 : decode cd_Mod_refers 0 = .ok (.aload_n 0, 1) := by decide +kernel
theorem d_Mod_refers_1 : decode cd_Mod_refers 1 = .ok (.getfield 53, 3) := by decide +kernel
theorem d_Mod_refers_4 : decode cd_Mod_refers 4 = .ok (.iload_n 1, 1) := by decide +kernel
theorem d_Mod_refers_5 : decode cd_Mod_refers 5 = .ok (.invokestatic 151, 3) := by decide +kernel
theorem d_Mod_refers_8 : decode cd_Mod_refers 8 = .ok (.ifCond .eq 7, 3) := by decide +kernel
theorem d_Mod_refers_11 : decode cd_Mod_refers 11 = .ok (.iload_n 1, 1) := by decide +kernel
theorem d_Mod_refers_12 : decode cd_Mod_refers 12 = .ok (.goto 4, 3) := by decide +kernel
theorem d_Mod_refers_15 : decode cd_Mod_refers 15 = .ok (.iconst 0, 1) := by decide +kernel
theorem d_Mod_refers_16 : decode cd_Mod_refers 16 = .ok (.iaload, 1) := by decide +kernel
theorem d_Mod_refers_17 : decode cd_Mod_refers 17 = .ok (.iconst 2, 1) := by decide +kernel
theorem d_Mod_refers_18 : decode cd_Mod_refers 18 = .ok (.if_icmp .ne 7, 3) := by decide +kernel
theorem d_Mod_refers_21 : decode cd_Mod_refers 21 = .ok (.iconst 1, 1) := by decide +kernel
theorem d_Mod_refers_22 : decode cd_Mod_refers 22 = .ok (.goto 4, 3) := by decide +kernel
theorem d_Mod_refers_25 : decode cd_Mod_refers 25 = .ok (.iconst 0, 1) := by decide +kernel
theorem d_Mod_refers_26 : decode cd_Mod_refers 26 = .ok (.ireturn, 1) := by decide +kernel
set_option maxRecDepth 100000 in
set_option maxHeartbeats 4000000 in
theorem t_Mod_refers_J16 {p : Program} {l : Launch} {e : Env} {s : State} {m : MethodId} {args : Array Value} {below : List Frame} {meth : Method} {c : Code} {V : xV} (C : xC p s m args c cd_Mod_refers 2 R_Mod V) (hlocks : meth.locks = false) (hr : meth.sig.returnType = (some .boolean)) {Q : Int32 → xS → Prop} {y0 : Int32} {σ : xS} {H : Heap} {locs : List Loc} {ls : Array Slot} (h : p_Mod_refers_J16 Q y0 σ) (hI : xI V s.heap σ H locs) (hl : lv_has ls 2 []) : W p l e rm_Mod_refers s m args below meth c H locs 0 0 (xZi below V args s Q) (F0 m 16 ls [.int y0, .ref (V.2.2 54)]) := by
  have hx := C.1
  have hb := C.2.1
  unfold p_Mod_refers_J16 at h
  obtain ⟨i4, h⟩ := h
  refine x_iald C hI (d := 54) (by decide) (xE54 V) i4 d_Mod_refers_16 ?_
  refine lv_iconst (v := 2) hx hb d_Mod_refers_17 (by decide) ?_
  refine lv_icmp_ne (tgt := 25) hx hb d_Mod_refers_18 (by decide) (fun c5 => ?_) (fun c5 => ?_)
  · have h := h.1 c5
    refine lv_iconst (v := 0) hx hb d_Mod_refers_25 (by decide) ?_
    exact x_zret C hlocks hr hI ⟨rfl, h⟩ d_Mod_refers_26
  · have h := h.2 c5
    refine lv_iconst (v := 1) hx hb d_Mod_refers_21 (by decide) ?_
    refine lv_goto (tgt := 26) hx hb d_Mod_refers_22 (by decide) ?_
    exact x_zret C hlocks hr hI ⟨rfl, h⟩ d_Mod_refers_26
set_option maxRecDepth 100000 in
set_option maxHeartbeats 4000000 in
theorem c_Mod_refers {l : Launch} {V : xV} {σ : xS} {x1 : Int32} {Q : Int32 → xS → Prop} (h : p_Mod_refers x1 σ Q) : xMi l y_Mod_refers (.code y_Mod_refers cd_Mod_refers 2 (some .boolean) :: xG) rm_Mod_refers V [.ref (V.2.2 31), .int x1] σ Q := by
  refine x_begini (by decide) (Nat.le_of_ble_eq_true rfl) (fun p e s m below meth c ls C hlocks hr hI hl => ?_)
  have C : xC p s m _ c cd_Mod_refers 2 R_Mod V := C
  have hx := C.1
  have hb := C.2.1
  have hl : lv_has ls 2 [(0, .ref (V.2.2 31)), (1, .int x1)] := hl
  unfold p_Mod_refers at h
  refine lv_aload_n hx hb d_Mod_refers_0 rfl (lv_at hl 0 rfl) ?_
  refine x_get C hI (d := 31) (by decide) (xE31 V _) fd_Mod_53 rfl d_Mod_refers_1 ?_
  refine lv_iload_n hx hb d_Mod_refers_4 rfl (lv_at hl 1 rfl) ?_
  refine x_calliS C hI hl.1 (As := [.int x1]) (rest := [.ref (V.2.2 54)]) (c_Mod_isRoot h) yw_Mod_isRoot ml_Mod_151 rfl rfl ⟨Nat.le_of_ble_eq_true rfl, Nat.le_of_ble_eq_true rfl⟩ rfl rfl (Nat.le_of_ble_eq_true rfl) d_Mod_refers_5 ⟨Nat.zero_le _, Nat.zero_le _⟩ (fun r2 σ1 H locs h hI => ?_)
  refine lv_if_eq (tgt := 15) hx hb d_Mod_refers_8 (by decide) (fun c3 => ?_) (fun c3 => ?_)
  · have h := h.1 c3
    refine lv_iconst (v := 0) hx hb d_Mod_refers_15 (by decide) ?_
    exact t_Mod_refers_J16 C hlocks hr h hI (lv_sub hl [] rfl)
  · have h := h.2 c3
    refine lv_iload_n hx hb d_Mod_refers_11 rfl (lv_at hl 1 rfl) ?_
    refine lv_goto (tgt := 16) hx hb d_Mod_refers_12 (by decide) ?_
    exact t_Mod_refers_J16 C hlocks hr h hI (lv_sub hl [] rfl)
theorem yw_Mod_refers : xY y_Mod_refers cd_Mod_refers 2 (some .boolean) 1 := ⟨xG_mem 1191 (by decide +kernel) (by decide +kernel), xG_mem 48 (by decide +kernel) (by decide +kernel), xG_mem 65 (by decide +kernel) (by decide +kernel), xG_mem 1192 (by decide +kernel) (by decide +kernel), by decide, by decide, by decide +kernel⟩
theorem ml_Mod_158 : Cond.methodLink R_Mod 158 y_Mod_refers ∈ xG := xG_mem 1189 (by decide +kernel) (by decide +kernel)
def p_Mod_get_J42 (Q : Int32 → xS → Prop) (x1 x2 x3 : Int32) (y0 : Int32) (y1 : Int32) (σ : xS) : Prop :=
  p_Mod_goes y1 y0 σ (fun r6 σ5 => ((¬ r6 = 0 → (vp_in x2 16 ∧ (∀ z9 : Int32, z9 = (σ5 55 x2.toNatClampNeg) → ((x3 < 0 → Q 0 σ5) ∧ (¬ x3 < 0 → (vp_in z9 640 ∧ ((x3 < (σ5 42 z9.toNatClampNeg) → (vp_in ((15 * z9) + x3) 9600 ∧ (vp_in x1 16 ∧ (vp_in ((15 * z9) + x3) 9600 ∧ (vp_in x1 16 ∧ Q 1 (xu (xu σ5 54 x1.toNatClampNeg (σ5 46 ((15 * z9) + x3).toNatClampNeg)) 55 x1.toNatClampNeg ((xu σ5 54 x1.toNatClampNeg (σ5 46 ((15 * z9) + x3).toNatClampNeg)) 47 ((15 * z9) + x3).toNatClampNeg))))))) ∧ (¬ x3 < (σ5 42 z9.toNatClampNeg) → Q 0 σ5)))))))) ∧ (r6 = 0 → Q 0 σ5)))
def p_Mod_get_J41 (Q : Int32 → xS → Prop) (x1 x2 x3 : Int32) (y0 : Int32) (σ : xS) : Prop :=
  p_Mod_get_J42 Q x1 x2 x3 0 y0 σ
def p_Mod_get_J19 (Q : Int32 → xS → Prop) (x1 x2 x3 : Int32) (y0 : Int32) (σ : xS) : Prop :=
  ((y0 = 0 → p_Mod_get_J41 Q x1 x2 x3 y0 σ) ∧ (¬ y0 = 0 → p_Mod_refers x2 σ (fun r18 σ17 => ((r18 = 0 → p_Mod_get_J41 Q x1 x2 x3 y0 σ17) ∧ (¬ r18 = 0 → p_Mod_get_J42 Q x1 x2 x3 1 y0 σ17)))))
def p_Mod_get_J18 (Q : Int32 → xS → Prop) (x1 x2 x3 : Int32) (σ : xS) : Prop :=
  p_Mod_get_J19 Q x1 x2 x3 0 σ
def p_Mod_get (x1 x2 x3 : Int32) (σ : xS) (Q : Int32 → xS → Prop) : Prop :=
  p_Mod_isRoot x1 σ (fun r2 σ1 => ((r2 = 0 → p_Mod_get_J18 Q x1 x2 x3 σ1) ∧ (¬ r2 = 0 → p_Mod_isRoot x2 σ1 (fun r21 σ20 => ((r21 = 0 → p_Mod_get_J18 Q x1 x2 x3 σ20) ∧ (¬ r21 = 0 → p_Mod_get_J19 Q x1 x2 x3 1 σ20))))))
abbrev rm_Mod_get : Room := { frames := 2, cells := 0, slots := 0, locals := 41 }
theorem d_Mod_get_0 : decode cd_Mod_get 0 = .ok (.iload_n 1, 1) := by decide +kernel
theorem d_Mod_get_1 : decode cd_Mod_get 1 = .ok (.invokestatic 151, 3) := by decide +kernel
theorem d_Mod_get_4 : decode cd_Mod_get 4 = .ok (.ifCond .eq 14, 3) := by decide +kernel
theorem d_Mod_get_7 : decode cd_Mod_get 7 = .ok (.iload_n 2, 1) := by decide +kernel
theorem d_Mod_get_8 : decode cd_Mod_get 8 = .ok (.invokestatic 151, 3) := by decide +kernel
theorem d_Mod_get_11 : decode cd_Mod_get 11 = .ok (.ifCond .eq 7, 3) := by decide +kernel
theorem d_Mod_get_14 : decode cd_Mod_get 14 = .ok (.iconst 1, 1) := by decide +kernel
theorem d_Mod_get_15 : decode cd_Mod_get 15 = .ok (.goto 4, 3) := by decide +kernel
theorem d_Mod_get_18 : decode cd_Mod_get 18 = .ok (.iconst 0, 1) := by decide +kernel
theorem d_Mod_get_19 : decode cd_Mod_get 19 = .ok (.istore 4, 2) := by decide +kernel
theorem d_Mod_get_21 : decode cd_Mod_get 21 = .ok (.aload_n 0, 1) := by decide +kernel
theorem d_Mod_get_22 : decode cd_Mod_get 22 = .ok (.iload 4, 2) := by decide +kernel
theorem d_Mod_get_24 : decode cd_Mod_get 24 = .ok (.iload 4, 2) := by decide +kernel
theorem d_Mod_get_26 : decode cd_Mod_get 26 = .ok (.ifCond .eq 15, 3) := by decide +kernel
theorem d_Mod_get_29 : decode cd_Mod_get 29 = .ok (.aload_n 0, 1) := by decide +kernel
theorem d_Mod_get_30 : decode cd_Mod_get 30 = .ok (.iload_n 2, 1) := by decide +kernel
theorem d_Mod_get_31 : decode cd_Mod_get 31 = .ok (.invokevirtual 158, 3) := by decide +kernel
theorem d_Mod_get_34 : decode cd_Mod_get 34 = .ok (.ifCond .eq 7, 3) := by decide +kernel
theorem d_Mod_get_37 : decode cd_Mod_get 37 = .ok (.iconst 1, 1) := by decide +kernel
theorem d_Mod_get_38 : decode cd_Mod_get 38 = .ok (.goto 4, 3) := by decide +kernel
theorem d_Mod_get_41 : decode cd_Mod_get 41 = .ok (.iconst 0, 1) := by decide +kernel
theorem d_Mod_get_42 : decode cd_Mod_get 42 = .ok (.invokevirtual 144, 3) := by decide +kernel
theorem d_Mod_get_45 : decode cd_Mod_get 45 = .ok (.ifCond .ne 5, 3) := by decide +kernel
theorem d_Mod_get_48 : decode cd_Mod_get 48 = .ok (.iconst 0, 1) := by decide +kernel
theorem d_Mod_get_49 : decode cd_Mod_get 49 = .ok (.ireturn, 1) := by decide +kernel
theorem d_Mod_get_50 : decode cd_Mod_get 50 = .ok (.aload_n 0, 1) := by decide +kernel
theorem d_Mod_get_51 : decode cd_Mod_get 51 = .ok (.getfield 56, 3) := by decide +kernel
theorem d_Mod_get_54 : decode cd_Mod_get 54 = .ok (.iload_n 2, 1) := by decide +kernel
theorem d_Mod_get_55 : decode cd_Mod_get 55 = .ok (.iaload, 1) := by decide +kernel
theorem d_Mod_get_56 : decode cd_Mod_get 56 = .ok (.istore 5, 2) := by decide +kernel
theorem d_Mod_get_58 : decode cd_Mod_get 58 = .ok (.iload_n 3, 1) := by decide +kernel
theorem d_Mod_get_59 : decode cd_Mod_get 59 = .ok (.ifCond .lt 14, 3) := by decide +kernel
theorem d_Mod_get_62 : decode cd_Mod_get 62 = .ok (.iload_n 3, 1) := by decide +kernel
theorem d_Mod_get_63 : decode cd_Mod_get 63 = .ok (.aload_n 0, 1) := by decide +kernel
theorem d_Mod_get_64 : decode cd_Mod_get 64 = .ok (.getfield 16, 3) := by decide +kernel
theorem d_Mod_get_67 : decode cd_Mod_get 67 = .ok (.iload 5, 2) := by decide +kernel
theorem d_Mod_get_69 : decode cd_Mod_get 69 = .ok (.iaload, 1) := by decide +kernel
theorem d_Mod_get_70 : decode cd_Mod_get 70 = .ok (.if_icmp .lt 5, 3) := by decide +kernel
theorem d_Mod_get_73 : decode cd_Mod_get 73 = .ok (.iconst 0, 1) := by decide +kernel
theorem d_Mod_get_74 : decode cd_Mod_get 74 = .ok (.ireturn, 1) := by decide +kernel
theorem d_Mod_get_75 : decode cd_Mod_get 75 = .ok (.aload_n 0, 1) := by decide +kernel
theorem d_Mod_get_76 : decode cd_Mod_get 76 = .ok (.getfield 53, 3) := by decide +kernel
theorem d_Mod_get_79 : decode cd_Mod_get 79 = .ok (.iload_n 1, 1) := by decide +kernel
theorem d_Mod_get_80 : decode cd_Mod_get 80 = .ok (.aload_n 0, 1) := by decide +kernel
theorem d_Mod_get_81 : decode cd_Mod_get 81 = .ok (.getfield 28, 3) := by decide +kernel
theorem d_Mod_get_84 : decode cd_Mod_get 84 = .ok (.bipush 15, 2) := by decide +kernel
theorem d_Mod_get_86 : decode cd_Mod_get 86 = .ok (.iload 5, 2) := by decide +kernel
theorem d_Mod_get_88 : decode cd_Mod_get 88 = .ok (.imul, 1) := by decide +kernel
theorem d_Mod_get_89 : decode cd_Mod_get 89 = .ok (.iload_n 3, 1) := by decide +kernel
theorem d_Mod_get_90 : decode cd_Mod_get 90 = .ok (.iadd, 1) := by decide +kernel
theorem d_Mod_get_91 : decode cd_Mod_get 91 = .ok (.iaload, 1) := by decide +kernel
theorem d_Mod_get_92 : decode cd_Mod_get 92 = .ok (.iastore, 1) := by decide +kernel
theorem d_Mod_get_93 : decode cd_Mod_get 93 = .ok (.aload_n 0, 1) := by decide +kernel
theorem d_Mod_get_94 : decode cd_Mod_get 94 = .ok (.getfield 56, 3) := by decide +kernel
theorem d_Mod_get_97 : decode cd_Mod_get 97 = .ok (.iload_n 1, 1) := by decide +kernel
theorem d_Mod_get_98 : decode cd_Mod_get 98 = .ok (.aload_n 0, 1) := by decide +kernel
theorem d_Mod_get_99 : decode cd_Mod_get 99 = .ok (.getfield 31, 3) := by decide +kernel
theorem d_Mod_get_102 : decode cd_Mod_get 102 = .ok (.bipush 15, 2) := by decide +kernel
theorem d_Mod_get_104 : decode cd_Mod_get 104 = .ok (.iload 5, 2) := by decide +kernel
theorem d_Mod_get_106 : decode cd_Mod_get 106 = .ok (.imul, 1) := by decide +kernel
theorem d_Mod_get_107 : decode cd_Mod_get 107 = .ok (.iload_n 3, 1) := by decide +kernel
theorem d_Mod_get_108 : decode cd_Mod_get 108 = .ok (.iadd, 1) := by decide +kernel
theorem d_Mod_get_109 : decode cd_Mod_get 109 = .ok (.iaload, 1) := by decide +kernel
theorem d_Mod_get_110 : decode cd_Mod_get 110 = .ok (.iastore, 1) := by decide +kernel
theorem d_Mod_get_111 : decode cd_Mod_get 111 = .ok (.iconst 1, 1) := by decide +kernel
theorem d_Mod_get_112 : decode cd_Mod_get 112 = .ok (.ireturn, 1) := by decide +kernel
set_option maxRecDepth 100000 in
set_option maxHeartbeats 4000000 in
theorem t_Mod_get_J42 {p : Program} {l : Launch} {e : Env} {s : State} {m : MethodId} {args : Array Value} {below : List Frame} {meth : Method} {c : Code} {V : xV} (C : xC p s m args c cd_Mod_get 6 R_Mod V) (hlocks : meth.locks = false) (hr : meth.sig.returnType = (some .boolean)) {Q : Int32 → xS → Prop} {x1 x2 x3 : Int32} {y0 : Int32} {y1 : Int32} {σ : xS} {H : Heap} {locs : List Loc} {ls : Array Slot} (h : p_Mod_get_J42 Q x1 x2 x3 y0 y1 σ) (hI : xI V s.heap σ H locs) (hl : lv_has ls 6 [(0, .ref (V.2.2 31)), (1, .int x1), (2, .int x2), (3, .int x3)]) : W p l e rm_Mod_get s m args below meth c H locs 0 0 (xZi below V args s Q) (F0 m 42 ls [.int y0, .int y1, .ref (V.2.2 31)]) := by
  have hx := C.1
  have hb := C.2.1
  unfold p_Mod_get_J42 at h
  refine x_calli C hI hl.1 (d := 31) (As := [.int y1, .int y0]) (rest := []) (by decide) (c_Mod_goes h) (xE31 V _) rfl yw_Mod_goes ml_Mod_144 rfl rfl ⟨Nat.le_of_ble_eq_true rfl, Nat.le_of_ble_eq_true rfl⟩ rfl rfl (Nat.le_of_ble_eq_true rfl) d_Mod_get_42 ⟨Nat.zero_le _, Nat.zero_le _⟩ (fun r6 σ5 H locs h hI => ?_)
  refine lv_if_ne (tgt := 50) hx hb d_Mod_get_45 (by decide) (fun c7 => ?_) (fun c7 => ?_)
  · have h := h.1 c7
    refine lv_aload_n hx hb d_Mod_get_50 rfl (lv_at hl 0 rfl) ?_
    refine x_get C hI (d := 31) (by decide) (xE31 V _) fd_Mod_56 rfl d_Mod_get_51 ?_
    refine lv_iload_n hx hb d_Mod_get_54 rfl (lv_at hl 2 rfl) ?_
    obtain ⟨i8, h⟩ := h
    refine x_iald C hI (d := 55) (by decide) (xE55 V) i8 d_Mod_get_55 ?_
    refine lv_topi (fun z9 ez9 => ?_)
    have h := h z9 ez9
    refine lv_istore (lv' := [(5, .int z9), (0, .ref (V.2.2 31)), (1, .int x1), (2, .int x2), (3, .int x3)]) hx hb d_Mod_get_56 hl (by decide) rfl (fun ls hl => ?_)
    refine lv_iload_n hx hb d_Mod_get_58 rfl (lv_at hl 4 rfl) ?_
    refine lv_if_lt (tgt := 73) hx hb d_Mod_get_59 (by decide) (fun c10 => ?_) (fun c10 => ?_)
    · have h := h.1 c10
      refine lv_iconst (v := 0) hx hb d_Mod_get_73 (by decide) ?_
      exact x_zret C hlocks hr hI ⟨rfl, h⟩ d_Mod_get_74
    · have h := h.2 c10
      refine lv_iload_n hx hb d_Mod_get_62 rfl (lv_at hl 4 rfl) ?_
      refine lv_aload_n hx hb d_Mod_get_63 rfl (lv_at hl 1 rfl) ?_
      refine x_get C hI (d := 31) (by decide) (xE31 V _) fd_Mod_16 rfl d_Mod_get_64 ?_
      refine lv_iload hx hb d_Mod_get_67 (lv_at hl 0 rfl) ?_
      obtain ⟨i11, h⟩ := h
      refine x_iald C hI (d := 42) (by decide) (xE42 V) i11 d_Mod_get_69 ?_
      refine lv_icmp_lt (tgt := 75) hx hb d_Mod_get_70 (by decide) (fun c12 => ?_) (fun c12 => ?_)
      · have h := h.1 c12
        refine lv_aload_n hx hb d_Mod_get_75 rfl (lv_at hl 1 rfl) ?_
        refine x_get C hI (d := 31) (by decide) (xE31 V _) fd_Mod_53 rfl d_Mod_get_76 ?_
        refine lv_iload_n hx hb d_Mod_get_79 rfl (lv_at hl 2 rfl) ?_
        refine lv_aload_n hx hb d_Mod_get_80 rfl (lv_at hl 1 rfl) ?_
        refine x_get C hI (d := 31) (by decide) (xE31 V _) fd_Mod_28 rfl d_Mod_get_81 ?_
        refine lv_bipush (v := 15) hx hb d_Mod_get_84 (by decide) ?_
        refine lv_iload hx hb d_Mod_get_86 (lv_at hl 0 rfl) ?_
        refine lv_imul hx hb d_Mod_get_88 ?_
        refine lv_iload_n hx hb d_Mod_get_89 rfl (lv_at hl 4 rfl) ?_
        refine lv_iadd hx hb d_Mod_get_90 ?_
        obtain ⟨i13, h⟩ := h
        refine x_iald C hI (d := 46) (by decide) (xE46 V) i13 d_Mod_get_91 ?_
        obtain ⟨i14, h⟩ := h
        refine x_iast C hI (d := 54) (by decide) (xE54 V) i14 d_Mod_get_92 (fun H locs hI => ?_)
        refine lv_aload_n hx hb d_Mod_get_93 rfl (lv_at hl 1 rfl) ?_
        refine x_get C hI (d := 31) (by decide) (xE31 V _) fd_Mod_56 rfl d_Mod_get_94 ?_
        refine lv_iload_n hx hb d_Mod_get_97 rfl (lv_at hl 2 rfl) ?_
        refine lv_aload_n hx hb d_Mod_get_98 rfl (lv_at hl 1 rfl) ?_
        refine x_get C hI (d := 31) (by decide) (xE31 V _) fd_Mod_31 rfl d_Mod_get_99 ?_
        refine lv_bipush (v := 15) hx hb d_Mod_get_102 (by decide) ?_
        refine lv_iload hx hb d_Mod_get_104 (lv_at hl 0 rfl) ?_
        refine lv_imul hx hb d_Mod_get_106 ?_
        refine lv_iload_n hx hb d_Mod_get_107 rfl (lv_at hl 4 rfl) ?_
        refine lv_iadd hx hb d_Mod_get_108 ?_
        obtain ⟨i15, h⟩ := h
        refine x_iald C hI (d := 47) (by decide) (xE47 V) i15 d_Mod_get_109 ?_
        obtain ⟨i16, h⟩ := h
        refine x_iast C hI (d := 55) (by decide) (xE55 V) i16 d_Mod_get_110 (fun H locs hI => ?_)
        refine lv_iconst (v := 1) hx hb d_Mod_get_111 (by decide) ?_
        exact x_zret C hlocks hr hI ⟨rfl, h⟩ d_Mod_get_112
      · have h := h.2 c12
        refine lv_iconst (v := 0) hx hb d_Mod_get_73 (by decide) ?_
        exact x_zret C hlocks hr hI ⟨rfl, h⟩ d_Mod_get_74
  · have h := h.2 c7
    refine lv_iconst (v := 0) hx hb d_Mod_get_48 (by decide) ?_
    exact x_zret C hlocks hr hI ⟨rfl, h⟩ d_Mod_get_49
set_option maxRecDepth 100000 in
set_option maxHeartbeats 4000000 in
theorem t_Mod_get_J41 {p : Program} {l : Launch} {e : Env} {s : State} {m : MethodId} {args : Array Value} {below : List Frame} {meth : Method} {c : Code} {V : xV} (C : xC p s m args c cd_Mod_get 6 R_Mod V) (hlocks : meth.locks = false) (hr : meth.sig.returnType = (some .boolean)) {Q : Int32 → xS → Prop} {x1 x2 x3 : Int32} {y0 : Int32} {σ : xS} {H : Heap} {locs : List Loc} {ls : Array Slot} (h : p_Mod_get_J41 Q x1 x2 x3 y0 σ) (hI : xI V s.heap σ H locs) (hl : lv_has ls 6 [(0, .ref (V.2.2 31)), (1, .int x1), (2, .int x2), (3, .int x3)]) : W p l e rm_Mod_get s m args below meth c H locs 0 0 (xZi below V args s Q) (F0 m 41 ls [.int y0, .ref (V.2.2 31)]) := by
  have hx := C.1
  have hb := C.2.1
  unfold p_Mod_get_J41 at h
  refine lv_iconst (v := 0) hx hb d_Mod_get_41 (by decide) ?_
  exact t_Mod_get_J42 C hlocks hr h hI (lv_sub hl [0, 1, 2, 3] rfl)
set_option maxRecDepth 100000 in
set_option maxHeartbeats 4000000 in
theorem t_Mod_get_J19 {p : Program} {l : Launch} {e : Env} {s : State} {m : MethodId} {args : Array Value} {below : List Frame} {meth : Method} {c : Code} {V : xV} (C : xC p s m args c cd_Mod_get 6 R_Mod V) (hlocks : meth.locks = false) (hr : meth.sig.returnType = (some .boolean)) {Q : Int32 → xS → Prop} {x1 x2 x3 : Int32} {y0 : Int32} {σ : xS} {H : Heap} {locs : List Loc} {ls : Array Slot} (h : p_Mod_get_J19 Q x1 x2 x3 y0 σ) (hI : xI V s.heap σ H locs) (hl : lv_has ls 6 [(0, .ref (V.2.2 31)), (1, .int x1), (2, .int x2), (3, .int x3)]) : W p l e rm_Mod_get s m args below meth c H locs 0 0 (xZi below V args s Q) (F0 m 19 ls [.int y0]) := by
  have hx := C.1
  have hb := C.2.1
  unfold p_Mod_get_J19 at h
  refine lv_istore (lv' := [(4, .int y0), (0, .ref (V.2.2 31)), (1, .int x1), (2, .int x2), (3, .int x3)]) hx hb d_Mod_get_19 hl (by decide) rfl (fun ls hl => ?_)
  refine lv_aload_n hx hb d_Mod_get_21 rfl (lv_at hl 1 rfl) ?_
  refine lv_iload hx hb d_Mod_get_22 (lv_at hl 0 rfl) ?_
  refine lv_iload hx hb d_Mod_get_24 (lv_at hl 0 rfl) ?_
  refine lv_if_eq (tgt := 41) hx hb d_Mod_get_26 (by decide) (fun c4 => ?_) (fun c4 => ?_)
  · have h := h.1 c4
    exact t_Mod_get_J41 C hlocks hr h hI (lv_sub hl [1, 2, 3, 4] rfl)
  · have h := h.2 c4
    refine lv_aload_n hx hb d_Mod_get_29 rfl (lv_at hl 1 rfl) ?_
    refine lv_iload_n hx hb d_Mod_get_30 rfl (lv_at hl 3 rfl) ?_
    refine x_calli C hI hl.1 (d := 31) (As := [.int x2]) (rest := [.int y0, .ref (V.2.2 31)]) (by decide) (c_Mod_refers h) (xE31 V _) rfl yw_Mod_refers ml_Mod_158 rfl rfl ⟨Nat.le_of_ble_eq_true rfl, Nat.le_of_ble_eq_true rfl⟩ rfl rfl (Nat.le_of_ble_eq_true rfl) d_Mod_get_31 ⟨Nat.zero_le _, Nat.zero_le _⟩ (fun r18 σ17 H locs h hI => ?_)
    refine lv_if_eq (tgt := 41) hx hb d_Mod_get_34 (by decide) (fun c19 => ?_) (fun c19 => ?_)
    · have h := h.1 c19
      exact t_Mod_get_J41 C hlocks hr h hI (lv_sub hl [1, 2, 3, 4] rfl)
    · have h := h.2 c19
      refine lv_iconst (v := 1) hx hb d_Mod_get_37 (by decide) ?_
      refine lv_goto (tgt := 42) hx hb d_Mod_get_38 (by decide) ?_
      exact t_Mod_get_J42 C hlocks hr h hI (lv_sub hl [1, 2, 3, 4] rfl)
set_option maxRecDepth 100000 in
set_option maxHeartbeats 4000000 in
theorem t_Mod_get_J18 {p : Program} {l : Launch} {e : Env} {s : State} {m : MethodId} {args : Array Value} {below : List Frame} {meth : Method} {c : Code} {V : xV} (C : xC p s m args c cd_Mod_get 6 R_Mod V) (hlocks : meth.locks = false) (hr : meth.sig.returnType = (some .boolean)) {Q : Int32 → xS → Prop} {x1 x2 x3 : Int32} {σ : xS} {H : Heap} {locs : List Loc} {ls : Array Slot} (h : p_Mod_get_J18 Q x1 x2 x3 σ) (hI : xI V s.heap σ H locs) (hl : lv_has ls 6 [(0, .ref (V.2.2 31)), (1, .int x1), (2, .int x2), (3, .int x3)]) : W p l e rm_Mod_get s m args below meth c H locs 0 0 (xZi below V args s Q) (F0 m 18 ls []) := by
  have hx := C.1
  have hb := C.2.1
  unfold p_Mod_get_J18 at h
  refine lv_iconst (v := 0) hx hb d_Mod_get_18 (by decide) ?_
  exact t_Mod_get_J19 C hlocks hr h hI (lv_sub hl [0, 1, 2, 3] rfl)
set_option maxRecDepth 100000 in
set_option maxHeartbeats 4000000 in
theorem c_Mod_get {l : Launch} {V : xV} {σ : xS} {x1 x2 x3 : Int32} {Q : Int32 → xS → Prop} (h : p_Mod_get x1 x2 x3 σ Q) : xMi l y_Mod_get (.code y_Mod_get cd_Mod_get 6 (some .boolean) :: xG) rm_Mod_get V [.ref (V.2.2 31), .int x1, .int x2, .int x3] σ Q := by
  refine x_begini (by decide) (Nat.le_of_ble_eq_true rfl) (fun p e s m below meth c ls C hlocks hr hI hl => ?_)
  have C : xC p s m _ c cd_Mod_get 6 R_Mod V := C
  have hx := C.1
  have hb := C.2.1
  have hl : lv_has ls 6 [(0, .ref (V.2.2 31)), (1, .int x1), (2, .int x2), (3, .int x3)] := hl
  unfold p_Mod_get at h
  refine lv_iload_n hx hb d_Mod_get_0 rfl (lv_at hl 1 rfl) ?_
  refine x_calliS C hI hl.1 (As := [.int x1]) (rest := []) (c_Mod_isRoot h) yw_Mod_isRoot ml_Mod_151 rfl rfl ⟨Nat.le_of_ble_eq_true rfl, Nat.le_of_ble_eq_true rfl⟩ rfl rfl (Nat.le_of_ble_eq_true rfl) d_Mod_get_1 ⟨Nat.zero_le _, Nat.zero_le _⟩ (fun r2 σ1 H locs h hI => ?_)
  refine lv_if_eq (tgt := 18) hx hb d_Mod_get_4 (by decide) (fun c3 => ?_) (fun c3 => ?_)
  · have h := h.1 c3
    exact t_Mod_get_J18 C hlocks hr h hI (lv_sub hl [0, 1, 2, 3] rfl)
  · have h := h.2 c3
    refine lv_iload_n hx hb d_Mod_get_7 rfl (lv_at hl 2 rfl) ?_
    refine x_calliS C hI hl.1 (As := [.int x2]) (rest := []) (c_Mod_isRoot h) yw_Mod_isRoot ml_Mod_151 rfl rfl ⟨Nat.le_of_ble_eq_true rfl, Nat.le_of_ble_eq_true rfl⟩ rfl rfl (Nat.le_of_ble_eq_true rfl) d_Mod_get_8 ⟨Nat.zero_le _, Nat.zero_le _⟩ (fun r21 σ20 H locs h hI => ?_)
    refine lv_if_eq (tgt := 18) hx hb d_Mod_get_11 (by decide) (fun c22 => ?_) (fun c22 => ?_)
    · have h := h.1 c22
      exact t_Mod_get_J18 C hlocks hr h hI (lv_sub hl [0, 1, 2, 3] rfl)
    · have h := h.2 c22
      refine lv_iconst (v := 1) hx hb d_Mod_get_14 (by decide) ?_
      refine lv_goto (tgt := 19) hx hb d_Mod_get_15 (by decide) ?_
      exact t_Mod_get_J19 C hlocks hr h hI (lv_sub hl [0, 1, 2, 3] rfl)
def y_Mod_put : MethodName := ⟨"RegionPoolModel", "put", "(III)I"⟩
abbrev cd_Mod_put : ByteArray := prog_12_method_30_code
def p_Mod_put_J109 (Q : Int32 → xS → Prop) (x2 x3 x5 : Int32) (σ : xS) : Prop :=
  (vp_in x3 16 ∧ (vp_in ((15 * x5) + x2) 9600 ∧ (vp_in x3 16 ∧ (vp_in ((15 * x5) + x2) 9600 ∧ Q 1 (xu (xu σ 46 ((15 * x5) + x2).toNatClampNeg (σ 54 x3.toNatClampNeg)) 47 ((15 * x5) + x2).toNatClampNeg ((xu σ 46 ((15 * x5) + x2).toNatClampNeg (σ 54 x3.toNatClampNeg)) 55 x3.toNatClampNeg))))))
def p_Mod_put_J42 (Q : Int32 → xS → Prop) (x1 x2 x3 : Int32) (y0 : Int32) (y1 : Int32) (σ : xS) : Prop :=
  p_Mod_goes y1 y0 σ (fun r6 σ5 => ((¬ r6 = 0 → (vp_in x1 16 ∧ (∀ z9 : Int32, z9 = (σ5 55 x1.toNatClampNeg) → ((x2 < 0 → Q (-1) σ5) ∧ (¬ x2 < 0 → (vp_in z9 640 ∧ ((x2 < (σ5 42 z9.toNatClampNeg) → (vp_in x3 16 ∧ ((¬ (σ5 54 x3.toNatClampNeg) = 2 → p_Mod_put_J109 Q x2 x3 z9 σ5) ∧ ((σ5 54 x3.toNatClampNeg) = 2 → (vp_in x3 16 ∧ (vp_in (σ5 55 x3.toNatClampNeg) 640 ∧ (vp_in z9 640 ∧ (((σ5 43 (σ5 55 x3.toNatClampNeg).toNatClampNeg) ≤ (σ5 43 z9.toNatClampNeg) → p_Mod_put_J109 Q x2 x3 z9 σ5) ∧ (¬ (σ5 43 (σ5 55 x3.toNatClampNeg).toNatClampNeg) ≤ (σ5 43 z9.toNatClampNeg) → Q (-2) σ5))))))))) ∧ (¬ x2 < (σ5 42 z9.toNatClampNeg) → Q (-1) σ5)))))))) ∧ (r6 = 0 → Q 0 σ5)))
def p_Mod_put_J41 (Q : Int32 → xS → Prop) (x1 x2 x3 : Int32) (y0 : Int32) (σ : xS) : Prop :=
  p_Mod_put_J42 Q x1 x2 x3 0 y0 σ
def p_Mod_put_J19 (Q : Int32 → xS → Prop) (x1 x2 x3 : Int32) (y0 : Int32) (σ : xS) : Prop :=
  ((y0 = 0 → p_Mod_put_J41 Q x1 x2 x3 y0 σ) ∧ (¬ y0 = 0 → p_Mod_refers x1 σ (fun r24 σ23 => ((r24 = 0 → p_Mod_put_J41 Q x1 x2 x3 y0 σ23) ∧ (¬ r24 = 0 → p_Mod_put_J42 Q x1 x2 x3 1 y0 σ23)))))
def p_Mod_put_J18 (Q : Int32 → xS → Prop) (x1 x2 x3 : Int32) (σ : xS) : Prop :=
  p_Mod_put_J19 Q x1 x2 x3 0 σ
def p_Mod_put (x1 x2 x3 : Int32) (σ : xS) (Q : Int32 → xS → Prop) : Prop :=
  p_Mod_isRoot x1 σ (fun r2 σ1 => ((r2 = 0 → p_Mod_put_J18 Q x1 x2 x3 σ1) ∧ (¬ r2 = 0 → p_Mod_isRoot x3 σ1 (fun r27 σ26 => ((r27 = 0 → p_Mod_put_J18 Q x1 x2 x3 σ26) ∧ (¬ r27 = 0 → p_Mod_put_J19 Q x1 x2 x3 1 σ26))))))
abbrev rm_Mod_put : Room := { frames := 2, cells := 0, slots := 0, locals := 41 }
theorem d_Mod_put_0 : decode cd_Mod_put 0 = .ok (.iload_n 1, 1) := by decide +kernel
theorem d_Mod_put_1 : decode cd_Mod_put 1 = .ok (.invokestatic 151, 3) := by decide +kernel
theorem d_Mod_put_4 : decode cd_Mod_put 4 = .ok (.ifCond .eq 14, 3) := by decide +kernel
theorem d_Mod_put_7 : decode cd_Mod_put 7 = .ok (.iload_n 3, 1) := by decide +kernel
theorem d_Mod_put_8 : decode cd_Mod_put 8 = .ok (.invokestatic 151, 3) := by decide +kernel
theorem d_Mod_put_11 : decode cd_Mod_put 11 = .ok (.ifCond .eq 7, 3) := by decide +kernel
theorem d_Mod_put_14 : decode cd_Mod_put 14 = .ok (.iconst 1, 1) := by decide +kernel
theorem d_Mod_put_15 : decode cd_Mod_put 15 = .ok (.goto 4, 3) := by decide +kernel
theorem d_Mod_put_18 : decode cd_Mod_put 18 = .ok (.iconst 0, 1) := by decide +kernel
theorem d_Mod_put_19 : decode cd_Mod_put 19 = .ok (.istore 4, 2) := by decide +kernel
theorem d_Mod_put_21 : decode cd_Mod_put 21 = .ok (.aload_n 0, 1) := by decide +kernel
theorem d_Mod_put_22 : decode cd_Mod_put 22 = .ok (.iload 4, 2) := by decide +kernel
theorem d_Mod_put_24 : decode cd_Mod_put 24 = .ok (.iload 4, 2) := by decide +kernel
theorem d_Mod_put_26 : decode cd_Mod_put 26 = .ok (.ifCond .eq 15, 3) := by decide +kernel
theorem d_Mod_put_29 : decode cd_Mod_put 29 = .ok (.aload_n 0, 1) := by decide +kernel
theorem d_Mod_put_30 : decode cd_Mod_put 30 = .ok (.iload_n 1, 1) := by decide +kernel
theorem d_Mod_put_31 : decode cd_Mod_put 31 = .ok (.invokevirtual 158, 3) := by decide +kernel
theorem d_Mod_put_34 : decode cd_Mod_put 34 = .ok (.ifCond .eq 7, 3) := by decide +kernel
theorem d_Mod_put_37 : decode cd_Mod_put 37 = .ok (.iconst 1, 1) := by decide +kernel
theorem d_Mod_put_38 : decode cd_Mod_put 38 = .ok (.goto 4, 3) := by decide +kernel
theorem d_Mod_put_41 : decode cd_Mod_put 41 = .ok (.iconst 0, 1) := by decide +kernel
theorem d_Mod_put_42 : decode cd_Mod_put 42 = .ok (.invokevirtual 144, 3) := by decide +kernel
theorem d_Mod_put_45 : decode cd_Mod_put 45 = .ok (.ifCond .ne 5, 3) := by decide +kernel
theorem d_Mod_put_48 : decode cd_Mod_put 48 = .ok (.iconst 0, 1) := by decide +kernel
theorem d_Mod_put_49 : decode cd_Mod_put 49 = .ok (.ireturn, 1) := by decide +kernel
theorem d_Mod_put_50 : decode cd_Mod_put 50 = .ok (.aload_n 0, 1) := by decide +kernel
theorem d_Mod_put_51 : decode cd_Mod_put 51 = .ok (.getfield 56, 3) := by decide +kernel
theorem d_Mod_put_54 : decode cd_Mod_put 54 = .ok (.iload_n 1, 1) := by decide +kernel
theorem d_Mod_put_55 : decode cd_Mod_put 55 = .ok (.iaload, 1) := by decide +kernel
theorem d_Mod_put_56 : decode cd_Mod_put 56 = .ok (.istore 5, 2) := by decide +kernel
theorem d_Mod_put_58 : decode cd_Mod_put 58 = .ok (.iload_n 2, 1) := by decide +kernel
theorem d_Mod_put_59 : decode cd_Mod_put 59 = .ok (.ifCond .lt 14, 3) := by decide +kernel
theorem d_Mod_put_62 : decode cd_Mod_put 62 = .ok (.iload_n 2, 1) := by decide +kernel
theorem d_Mod_put_63 : decode cd_Mod_put 63 = .ok (.aload_n 0, 1) := by decide +kernel
theorem d_Mod_put_64 : decode cd_Mod_put 64 = .ok (.getfield 16, 3) := by decide +kernel
theorem d_Mod_put_67 : decode cd_Mod_put 67 = .ok (.iload 5, 2) := by decide +kernel
theorem d_Mod_put_69 : decode cd_Mod_put 69 = .ok (.iaload, 1) := by decide +kernel
theorem d_Mod_put_70 : decode cd_Mod_put 70 = .ok (.if_icmp .lt 5, 3) := by decide +kernel
theorem d_Mod_put_73 : decode cd_Mod_put 73 = .ok (.iconst (-1), 1) := by decide +kernel
theorem d_Mod_put_74 : decode cd_Mod_put 74 = .ok (.ireturn, 1) := by decide +kernel
theorem d_Mod_put_75 : decode cd_Mod_put 75 = .ok (.aload_n 0, 1) := by decide +kernel
theorem d_Mod_put_76 : decode cd_Mod_put 76 = .ok (.getfield 53, 3) := by decide +kernel
theorem d_Mod_put_79 : decode cd_Mod_put 79 = .ok (.iload_n 3, 1) := by decide +kernel
theorem d_Mod_put_80 : decode cd_Mod_put 80 = .ok (.iaload, 1) := by decide +kernel
theorem d_Mod_put_81 : decode cd_Mod_put 81 = .ok (.iconst 2, 1) := by decide +kernel
theorem d_Mod_put_82 : decode cd_Mod_put 82 = .ok (.if_icmp .ne 27, 3) := by decide +kernel
theorem d_Mod_put_85 : decode cd_Mod_put 85 = .ok (.aload_n 0, 1) := by decide +kernel
theorem d_Mod_put_86 : decode cd_Mod_put 86 = .ok (.getfield 19, 3) := by decide +kernel
theorem d_Mod_put_89 : decode cd_Mod_put 89 = .ok (.aload_n 0, 1) := by decide +kernel
theorem d_Mod_put_90 : decode cd_Mod_put 90 = .ok (.getfield 56, 3) := by decide +kernel
theorem d_Mod_put_93 : decode cd_Mod_put 93 = .ok (.iload_n 3, 1) := by decide +kernel
theorem d_Mod_put_94 : decode cd_Mod_put 94 = .ok (.iaload, 1) := by decide +kernel
theorem d_Mod_put_95 : decode cd_Mod_put 95 = .ok (.iaload, 1) := by decide +kernel
theorem d_Mod_put_96 : decode cd_Mod_put 96 = .ok (.aload_n 0, 1) := by decide +kernel
theorem d_Mod_put_97 : decode cd_Mod_put 97 = .ok (.getfield 19, 3) := by decide +kernel
theorem d_Mod_put_100 : decode cd_Mod_put 100 = .ok (.iload 5, 2) := by decide +kernel
theorem d_Mod_put_102 : decode cd_Mod_put 102 = .ok (.iaload, 1) := by decide +kernel
theorem d_Mod_put_103 : decode cd_Mod_put 103 = .ok (.if_icmp .le 6, 3) := by decide +kernel
theorem d_Mod_put_106 : decode cd_Mod_put 106 = .ok (.bipush (-2), 2) := by decide +kernel
theorem d_Mod_put_108 : decode cd_Mod_put 108 = .ok (.ireturn, 1) := by decide +kernel
theorem d_Mod_put_109 : decode cd_Mod_put 109 = .ok (.aload_n 0, 1) := by decide +kernel
theorem d_Mod_put_110 : decode cd_Mod_put 110 = .ok (.getfield 28, 3) := by decide +kernel
theorem d_Mod_put_113 : decode cd_Mod_put 113 = .ok (.bipush 15, 2) := by decide +kernel
theorem d_Mod_put_115 : decode cd_Mod_put 115 = .ok (.iload 5, 2) := by decide +kernel
theorem d_Mod_put_117 : decode cd_Mod_put 117 = .ok (.imul, 1) := by decide +kernel
theorem d_Mod_put_118 : decode cd_Mod_put 118 = .ok (.iload_n 2, 1) := by decide +kernel
theorem d_Mod_put_119 : decode cd_Mod_put 119 = .ok (.iadd, 1) := by decide +kernel
theorem d_Mod_put_120 : decode cd_Mod_put 120 = .ok (.aload_n 0, 1) := by decide +kernel
theorem d_Mod_put_121 : decode cd_Mod_put 121 = .ok (.getfield 53, 3) := by decide +kernel
theorem d_Mod_put_124 : decode cd_Mod_put 124 = .ok (.iload_n 3, 1) := by decide +kernel
theorem d_Mod_put_125 : decode cd_Mod_put 125 = .ok (.iaload, 1) := by decide +kernel
theorem d_Mod_put_126 : decode cd_Mod_put 126 = .ok (.iastore, 1) := by decide +kernel
theorem d_Mod_put_127 : decode cd_Mod_put 127 = .ok (.aload_n 0, 1) := by decide +kernel
theorem d_Mod_put_128 : decode cd_Mod_put 128 = .ok (.getfield 31, 3) := by decide +kernel
theorem d_Mod_put_131 : decode cd_Mod_put 131 = .ok (.bipush 15, 2) := by decide +kernel
theorem d_Mod_put_133 : decode cd_Mod_put 133 = .ok (.iload 5, 2) := by decide +kernel
theorem d_Mod_put_135 : decode cd_Mod_put 135 = .ok (.imul, 1) := by decide +kernel
theorem d_Mod_put_136 : decode cd_Mod_put 136 = .ok (.iload_n 2, 1) := by decide +kernel
theorem d_Mod_put_137 : decode cd_Mod_put 137 = .ok (.iadd, 1) := by decide +kernel
theorem d_Mod_put_138 : decode cd_Mod_put 138 = .ok (.aload_n 0, 1) := by decide +kernel
theorem d_Mod_put_139 : decode cd_Mod_put 139 = .ok (.getfield 56, 3) := by decide +kernel
theorem d_Mod_put_142 : decode cd_Mod_put 142 = .ok (.iload_n 3, 1) := by decide +kernel
theorem d_Mod_put_143 : decode cd_Mod_put 143 = .ok (.iaload, 1) := by decide +kernel
theorem d_Mod_put_144 : decode cd_Mod_put 144 = .ok (.iastore, 1) := by decide +kernel
theorem d_Mod_put_145 : decode cd_Mod_put 145 = .ok (.iconst 1, 1) := by decide +kernel
theorem d_Mod_put_146 : decode cd_Mod_put 146 = .ok (.ireturn, 1) := by decide +kernel
set_option maxRecDepth 100000 in
set_option maxHeartbeats 4000000 in
theorem t_Mod_put_J109 {p : Program} {l : Launch} {e : Env} {s : State} {m : MethodId} {args : Array Value} {below : List Frame} {meth : Method} {c : Code} {V : xV} (C : xC p s m args c cd_Mod_put 6 R_Mod V) (hlocks : meth.locks = false) (hr : meth.sig.returnType = (some .int)) {Q : Int32 → xS → Prop} {x2 x3 x5 : Int32} {σ : xS} {H : Heap} {locs : List Loc} {ls : Array Slot} (h : p_Mod_put_J109 Q x2 x3 x5 σ) (hI : xI V s.heap σ H locs) (hl : lv_has ls 6 [(0, .ref (V.2.2 31)), (2, .int x2), (3, .int x3), (5, .int x5)]) : W p l e rm_Mod_put s m args below meth c H locs 0 0 (xZi below V args s Q) (F0 m 109 ls []) := by
  have hx := C.1
  have hb := C.2.1
  unfold p_Mod_put_J109 at h
  refine lv_aload_n hx hb d_Mod_put_109 rfl (lv_at hl 0 rfl) ?_
  refine x_get C hI (d := 31) (by decide) (xE31 V _) fd_Mod_28 rfl d_Mod_put_110 ?_
  refine lv_bipush (v := 15) hx hb d_Mod_put_113 (by decide) ?_
  refine lv_iload hx hb d_Mod_put_115 (lv_at hl 3 rfl) ?_
  refine lv_imul hx hb d_Mod_put_117 ?_
  refine lv_iload_n hx hb d_Mod_put_118 rfl (lv_at hl 1 rfl) ?_
  refine lv_iadd hx hb d_Mod_put_119 ?_
  refine lv_aload_n hx hb d_Mod_put_120 rfl (lv_at hl 0 rfl) ?_
  refine x_get C hI (d := 31) (by decide) (xE31 V _) fd_Mod_53 rfl d_Mod_put_121 ?_
  refine lv_iload_n hx hb d_Mod_put_124 rfl (lv_at hl 2 rfl) ?_
  obtain ⟨i15, h⟩ := h
  refine x_iald C hI (d := 54) (by decide) (xE54 V) i15 d_Mod_put_125 ?_
  obtain ⟨i16, h⟩ := h
  refine x_iast C hI (d := 46) (by decide) (xE46 V) i16 d_Mod_put_126 (fun H locs hI => ?_)
  refine lv_aload_n hx hb d_Mod_put_127 rfl (lv_at hl 0 rfl) ?_
  refine x_get C hI (d := 31) (by decide) (xE31 V _) fd_Mod_31 rfl d_Mod_put_128 ?_
  refine lv_bipush (v := 15) hx hb d_Mod_put_131 (by decide) ?_
  refine lv_iload hx hb d_Mod_put_133 (lv_at hl 3 rfl) ?_
  refine lv_imul hx hb d_Mod_put_135 ?_
  refine lv_iload_n hx hb d_Mod_put_136 rfl (lv_at hl 1 rfl) ?_
  refine lv_iadd hx hb d_Mod_put_137 ?_
  refine lv_aload_n hx hb d_Mod_put_138 rfl (lv_at hl 0 rfl) ?_
  refine x_get C hI (d := 31) (by decide) (xE31 V _) fd_Mod_56 rfl d_Mod_put_139 ?_
  refine lv_iload_n hx hb d_Mod_put_142 rfl (lv_at hl 2 rfl) ?_
  obtain ⟨i17, h⟩ := h
  refine x_iald C hI (d := 55) (by decide) (xE55 V) i17 d_Mod_put_143 ?_
  obtain ⟨i18, h⟩ := h
  refine x_iast C hI (d := 47) (by decide) (xE47 V) i18 d_Mod_put_144 (fun H locs hI => ?_)
  refine lv_iconst (v := 1) hx hb d_Mod_put_145 (by decide) ?_
  exact x_iret C hlocks hr hI h d_Mod_put_146
set_option maxRecDepth 100000 in
set_option maxHeartbeats 4000000 in
theorem t_Mod_put_J42 {p : Program} {l : Launch} {e : Env} {s : State} {m : MethodId} {args : Array Value} {below : List Frame} {meth : Method} {c : Code} {V : xV} (C : xC p s m args c cd_Mod_put 6 R_Mod V) (hlocks : meth.locks = false) (hr : meth.sig.returnType = (some .int)) {Q : Int32 → xS → Prop} {x1 x2 x3 : Int32} {y0 : Int32} {y1 : Int32} {σ : xS} {H : Heap} {locs : List Loc} {ls : Array Slot} (h : p_Mod_put_J42 Q x1 x2 x3 y0 y1 σ) (hI : xI V s.heap σ H locs) (hl : lv_has ls 6 [(0, .ref (V.2.2 31)), (1, .int x1), (2, .int x2), (3, .int x3)]) : W p l e rm_Mod_put s m args below meth c H locs 0 0 (xZi below V args s Q) (F0 m 42 ls [.int y0, .int y1, .ref (V.2.2 31)]) := by
  have hx := C.1
  have hb := C.2.1
  unfold p_Mod_put_J42 at h
  refine x_calli C hI hl.1 (d := 31) (As := [.int y1, .int y0]) (rest := []) (by decide) (c_Mod_goes h) (xE31 V _) rfl yw_Mod_goes ml_Mod_144 rfl rfl ⟨Nat.le_of_ble_eq_true rfl, Nat.le_of_ble_eq_true rfl⟩ rfl rfl (Nat.le_of_ble_eq_true rfl) d_Mod_put_42 ⟨Nat.zero_le _, Nat.zero_le _⟩ (fun r6 σ5 H locs h hI => ?_)
  refine lv_if_ne (tgt := 50) hx hb d_Mod_put_45 (by decide) (fun c7 => ?_) (fun c7 => ?_)
  · have h := h.1 c7
    refine lv_aload_n hx hb d_Mod_put_50 rfl (lv_at hl 0 rfl) ?_
    refine x_get C hI (d := 31) (by decide) (xE31 V _) fd_Mod_56 rfl d_Mod_put_51 ?_
    refine lv_iload_n hx hb d_Mod_put_54 rfl (lv_at hl 1 rfl) ?_
    obtain ⟨i8, h⟩ := h
    refine x_iald C hI (d := 55) (by decide) (xE55 V) i8 d_Mod_put_55 ?_
    refine lv_topi (fun z9 ez9 => ?_)
    have h := h z9 ez9
    refine lv_istore (lv' := [(5, .int z9), (0, .ref (V.2.2 31)), (1, .int x1), (2, .int x2), (3, .int x3)]) hx hb d_Mod_put_56 hl (by decide) rfl (fun ls hl => ?_)
    refine lv_iload_n hx hb d_Mod_put_58 rfl (lv_at hl 3 rfl) ?_
    refine lv_if_lt (tgt := 73) hx hb d_Mod_put_59 (by decide) (fun c10 => ?_) (fun c10 => ?_)
    · have h := h.1 c10
      refine lv_iconst (v := (-1)) hx hb d_Mod_put_73 (by decide) ?_
      exact x_iret C hlocks hr hI h d_Mod_put_74
    · have h := h.2 c10
      refine lv_iload_n hx hb d_Mod_put_62 rfl (lv_at hl 3 rfl) ?_
      refine lv_aload_n hx hb d_Mod_put_63 rfl (lv_at hl 1 rfl) ?_
      refine x_get C hI (d := 31) (by decide) (xE31 V _) fd_Mod_16 rfl d_Mod_put_64 ?_
      refine lv_iload hx hb d_Mod_put_67 (lv_at hl 0 rfl) ?_
      obtain ⟨i11, h⟩ := h
      refine x_iald C hI (d := 42) (by decide) (xE42 V) i11 d_Mod_put_69 ?_
      refine lv_icmp_lt (tgt := 75) hx hb d_Mod_put_70 (by decide) (fun c12 => ?_) (fun c12 => ?_)
      · have h := h.1 c12
        refine lv_aload_n hx hb d_Mod_put_75 rfl (lv_at hl 1 rfl) ?_
        refine x_get C hI (d := 31) (by decide) (xE31 V _) fd_Mod_53 rfl d_Mod_put_76 ?_
        refine lv_iload_n hx hb d_Mod_put_79 rfl (lv_at hl 4 rfl) ?_
        obtain ⟨i13, h⟩ := h
        refine x_iald C hI (d := 54) (by decide) (xE54 V) i13 d_Mod_put_80 ?_
        refine lv_iconst (v := 2) hx hb d_Mod_put_81 (by decide) ?_
        refine lv_icmp_ne (tgt := 109) hx hb d_Mod_put_82 (by decide) (fun c14 => ?_) (fun c14 => ?_)
        · have h := h.1 c14
          exact t_Mod_put_J109 C hlocks hr h hI (lv_sub hl [1, 3, 4, 0] rfl)
        · have h := h.2 c14
          refine lv_aload_n hx hb d_Mod_put_85 rfl (lv_at hl 1 rfl) ?_
          refine x_get C hI (d := 31) (by decide) (xE31 V _) fd_Mod_19 rfl d_Mod_put_86 ?_
          refine lv_aload_n hx hb d_Mod_put_89 rfl (lv_at hl 1 rfl) ?_
          refine x_get C hI (d := 31) (by decide) (xE31 V _) fd_Mod_56 rfl d_Mod_put_90 ?_
          refine lv_iload_n hx hb d_Mod_put_93 rfl (lv_at hl 4 rfl) ?_
          obtain ⟨i19, h⟩ := h
          refine x_iald C hI (d := 55) (by decide) (xE55 V) i19 d_Mod_put_94 ?_
          obtain ⟨i20, h⟩ := h
          refine x_iald C hI (d := 43) (by decide) (xE43 V) i20 d_Mod_put_95 ?_
          refine lv_aload_n hx hb d_Mod_put_96 rfl (lv_at hl 1 rfl) ?_
          refine x_get C hI (d := 31) (by decide) (xE31 V _) fd_Mod_19 rfl d_Mod_put_97 ?_
          refine lv_iload hx hb d_Mod_put_100 (lv_at hl 0 rfl) ?_
          obtain ⟨i21, h⟩ := h
          refine x_iald C hI (d := 43) (by decide) (xE43 V) i21 d_Mod_put_102 ?_
          refine lv_icmp_le (tgt := 109) hx hb d_Mod_put_103 (by decide) (fun c22 => ?_) (fun c22 => ?_)
          · have h := h.1 c22
            exact t_Mod_put_J109 C hlocks hr h hI (lv_sub hl [1, 3, 4, 0] rfl)
          · have h := h.2 c22
            refine lv_bipush (v := (-2)) hx hb d_Mod_put_106 (by decide) ?_
            exact x_iret C hlocks hr hI h d_Mod_put_108
      · have h := h.2 c12
        refine lv_iconst (v := (-1)) hx hb d_Mod_put_73 (by decide) ?_
        exact x_iret C hlocks hr hI h d_Mod_put_74
  · have h := h.2 c7
    refine lv_iconst (v := 0) hx hb d_Mod_put_48 (by decide) ?_
    exact x_iret C hlocks hr hI h d_Mod_put_49
set_option maxRecDepth 100000 in
set_option maxHeartbeats 4000000 in
theorem t_Mod_put_J41 {p : Program} {l : Launch} {e : Env} {s : State} {m : MethodId} {args : Array Value} {below : List Frame} {meth : Method} {c : Code} {V : xV} (C : xC p s m args c cd_Mod_put 6 R_Mod V) (hlocks : meth.locks = false) (hr : meth.sig.returnType = (some .int)) {Q : Int32 → xS → Prop} {x1 x2 x3 : Int32} {y0 : Int32} {σ : xS} {H : Heap} {locs : List Loc} {ls : Array Slot} (h : p_Mod_put_J41 Q x1 x2 x3 y0 σ) (hI : xI V s.heap σ H locs) (hl : lv_has ls 6 [(0, .ref (V.2.2 31)), (1, .int x1), (2, .int x2), (3, .int x3)]) : W p l e rm_Mod_put s m args below meth c H locs 0 0 (xZi below V args s Q) (F0 m 41 ls [.int y0, .ref (V.2.2 31)]) := by
  have hx := C.1
  have hb := C.2.1
  unfold p_Mod_put_J41 at h
  refine lv_iconst (v := 0) hx hb d_Mod_put_41 (by decide) ?_
  exact t_Mod_put_J42 C hlocks hr h hI (lv_sub hl [0, 1, 2, 3] rfl)
set_option maxRecDepth 100000 in
set_option maxHeartbeats 4000000 in
theorem t_Mod_put_J19 {p : Program} {l : Launch} {e : Env} {s : State} {m : MethodId} {args : Array Value} {below : List Frame} {meth : Method} {c : Code} {V : xV} (C : xC p s m args c cd_Mod_put 6 R_Mod V) (hlocks : meth.locks = false) (hr : meth.sig.returnType = (some .int)) {Q : Int32 → xS → Prop} {x1 x2 x3 : Int32} {y0 : Int32} {σ : xS} {H : Heap} {locs : List Loc} {ls : Array Slot} (h : p_Mod_put_J19 Q x1 x2 x3 y0 σ) (hI : xI V s.heap σ H locs) (hl : lv_has ls 6 [(0, .ref (V.2.2 31)), (1, .int x1), (2, .int x2), (3, .int x3)]) : W p l e rm_Mod_put s m args below meth c H locs 0 0 (xZi below V args s Q) (F0 m 19 ls [.int y0]) := by
  have hx := C.1
  have hb := C.2.1
  unfold p_Mod_put_J19 at h
  refine lv_istore (lv' := [(4, .int y0), (0, .ref (V.2.2 31)), (1, .int x1), (2, .int x2), (3, .int x3)]) hx hb d_Mod_put_19 hl (by decide) rfl (fun ls hl => ?_)
  refine lv_aload_n hx hb d_Mod_put_21 rfl (lv_at hl 1 rfl) ?_
  refine lv_iload hx hb d_Mod_put_22 (lv_at hl 0 rfl) ?_
  refine lv_iload hx hb d_Mod_put_24 (lv_at hl 0 rfl) ?_
  refine lv_if_eq (tgt := 41) hx hb d_Mod_put_26 (by decide) (fun c4 => ?_) (fun c4 => ?_)
  · have h := h.1 c4
    exact t_Mod_put_J41 C hlocks hr h hI (lv_sub hl [1, 2, 3, 4] rfl)
  · have h := h.2 c4
    refine lv_aload_n hx hb d_Mod_put_29 rfl (lv_at hl 1 rfl) ?_
    refine lv_iload_n hx hb d_Mod_put_30 rfl (lv_at hl 2 rfl) ?_
    refine x_calli C hI hl.1 (d := 31) (As := [.int x1]) (rest := [.int y0, .ref (V.2.2 31)]) (by decide) (c_Mod_refers h) (xE31 V _) rfl yw_Mod_refers ml_Mod_158 rfl rfl ⟨Nat.le_of_ble_eq_true rfl, Nat.le_of_ble_eq_true rfl⟩ rfl rfl (Nat.le_of_ble_eq_true rfl) d_Mod_put_31 ⟨Nat.zero_le _, Nat.zero_le _⟩ (fun r24 σ23 H locs h hI => ?_)
    refine lv_if_eq (tgt := 41) hx hb d_Mod_put_34 (by decide) (fun c25 => ?_) (fun c25 => ?_)
    · have h := h.1 c25
      exact t_Mod_put_J41 C hlocks hr h hI (lv_sub hl [1, 2, 3, 4] rfl)
    · have h := h.2 c25
      refine lv_iconst (v := 1) hx hb d_Mod_put_37 (by decide) ?_
      refine lv_goto (tgt := 42) hx hb d_Mod_put_38 (by decide) ?_
      exact t_Mod_put_J42 C hlocks hr h hI (lv_sub hl [1, 2, 3, 4] rfl)
set_option maxRecDepth 100000 in
set_option maxHeartbeats 4000000 in
theorem t_Mod_put_J18 {p : Program} {l : Launch} {e : Env} {s : State} {m : MethodId} {args : Array Value} {below : List Frame} {meth : Method} {c : Code} {V : xV} (C : xC p s m args c cd_Mod_put 6 R_Mod V) (hlocks : meth.locks = false) (hr : meth.sig.returnType = (some .int)) {Q : Int32 → xS → Prop} {x1 x2 x3 : Int32} {σ : xS} {H : Heap} {locs : List Loc} {ls : Array Slot} (h : p_Mod_put_J18 Q x1 x2 x3 σ) (hI : xI V s.heap σ H locs) (hl : lv_has ls 6 [(0, .ref (V.2.2 31)), (1, .int x1), (2, .int x2), (3, .int x3)]) : W p l e rm_Mod_put s m args below meth c H locs 0 0 (xZi below V args s Q) (F0 m 18 ls []) := by
  have hx := C.1
  have hb := C.2.1
  unfold p_Mod_put_J18 at h
  refine lv_iconst (v := 0) hx hb d_Mod_put_18 (by decide) ?_
  exact t_Mod_put_J19 C hlocks hr h hI (lv_sub hl [0, 1, 2, 3] rfl)
set_option maxRecDepth 100000 in
set_option maxHeartbeats 4000000 in
theorem c_Mod_put {l : Launch} {V : xV} {σ : xS} {x1 x2 x3 : Int32} {Q : Int32 → xS → Prop} (h : p_Mod_put x1 x2 x3 σ Q) : xMi l y_Mod_put (.code y_Mod_put cd_Mod_put 6 (some .int) :: xG) rm_Mod_put V [.ref (V.2.2 31), .int x1, .int x2, .int x3] σ Q := by
  refine x_begini (by decide) (Nat.le_of_ble_eq_true rfl) (fun p e s m below meth c ls C hlocks hr hI hl => ?_)
  have C : xC p s m _ c cd_Mod_put 6 R_Mod V := C
  have hx := C.1
  have hb := C.2.1
  have hl : lv_has ls 6 [(0, .ref (V.2.2 31)), (1, .int x1), (2, .int x2), (3, .int x3)] := hl
  unfold p_Mod_put at h
  refine lv_iload_n hx hb d_Mod_put_0 rfl (lv_at hl 1 rfl) ?_
  refine x_calliS C hI hl.1 (As := [.int x1]) (rest := []) (c_Mod_isRoot h) yw_Mod_isRoot ml_Mod_151 rfl rfl ⟨Nat.le_of_ble_eq_true rfl, Nat.le_of_ble_eq_true rfl⟩ rfl rfl (Nat.le_of_ble_eq_true rfl) d_Mod_put_1 ⟨Nat.zero_le _, Nat.zero_le _⟩ (fun r2 σ1 H locs h hI => ?_)
  refine lv_if_eq (tgt := 18) hx hb d_Mod_put_4 (by decide) (fun c3 => ?_) (fun c3 => ?_)
  · have h := h.1 c3
    exact t_Mod_put_J18 C hlocks hr h hI (lv_sub hl [0, 1, 2, 3] rfl)
  · have h := h.2 c3
    refine lv_iload_n hx hb d_Mod_put_7 rfl (lv_at hl 3 rfl) ?_
    refine x_calliS C hI hl.1 (As := [.int x3]) (rest := []) (c_Mod_isRoot h) yw_Mod_isRoot ml_Mod_151 rfl rfl ⟨Nat.le_of_ble_eq_true rfl, Nat.le_of_ble_eq_true rfl⟩ rfl rfl (Nat.le_of_ble_eq_true rfl) d_Mod_put_8 ⟨Nat.zero_le _, Nat.zero_le _⟩ (fun r27 σ26 H locs h hI => ?_)
    refine lv_if_eq (tgt := 18) hx hb d_Mod_put_11 (by decide) (fun c28 => ?_) (fun c28 => ?_)
    · have h := h.1 c28
      exact t_Mod_put_J18 C hlocks hr h hI (lv_sub hl [0, 1, 2, 3] rfl)
    · have h := h.2 c28
      refine lv_iconst (v := 1) hx hb d_Mod_put_14 (by decide) ?_
      refine lv_goto (tgt := 19) hx hb d_Mod_put_15 (by decide) ?_
      exact t_Mod_put_J19 C hlocks hr h hI (lv_sub hl [0, 1, 2, 3] rfl)
def y_Mod_lift : MethodName := ⟨"RegionPoolModel", "lift", "(II)I"⟩
abbrev cd_Mod_lift : ByteArray := prog_12_method_34_code
def y_Mod_findParts : MethodName := ⟨"RegionPoolModel", "findParts", "(II)V"⟩
abbrev cd_Mod_findParts : ByteArray := prog_12_method_32_code
theorem fw_Mod_161 : xFw R_Mod 161 10 26 := ⟨R_Mod, T_Mod, 32, t_Mod, rfl, in_Mod, by decide, xG_mem 1010 (by decide +kernel) (by decide +kernel), tk_Mod, nm_Mod, rfl, by decide +kernel⟩
theorem xP_31_26 (V : xV) (f : Nat → Int32) (x : Int32) : xE V 31 (upd f 26 x) = .inr (10, [.int (f 0), .ref (V.2.2 40), .ref (V.2.2 41), .ref (V.2.2 42), .ref (V.2.2 43), .ref (V.2.2 44), .ref (V.2.2 45), .ref (V.2.2 46), .ref (V.2.2 47), .ref (V.2.2 48), .int (f 10), .ref (V.2.2 49), .ref (V.2.2 50), .int (f 13), .ref (V.2.2 51), .ref (V.2.2 52), .ref (V.2.2 53), .ref (V.2.2 54), .ref (V.2.2 55), .int (f 19), .ref (V.2.2 56), .int (f 21), .int (f 22), .int (f 23), .int (f 24), .int (f 25), .int (f 26), .ref (V.2.2 57), .ref (V.2.2 58), .ref (V.2.2 59), .ref (V.2.2 60), .int (f 31)].set 26 (.int x)) := rfl
def y_Mod_addPart : MethodName := ⟨"RegionPoolModel", "addPart", "(III)V"⟩
abbrev cd_Mod_addPart : ByteArray := prog_12_method_31_code
theorem fd_Mod_65 : xFd R_Mod 65 10 28 := ⟨R_Mod, T_Mod, 32, rfl, in_Mod, by decide, xG_mem 1012 (by decide +kernel) (by decide +kernel)⟩
theorem fd_Mod_161 : xFd R_Mod 161 10 26 := ⟨R_Mod, T_Mod, 32, rfl, in_Mod, by decide, xG_mem 1010 (by decide +kernel) (by decide +kernel)⟩
theorem fd_Mod_62 : xFd R_Mod 62 10 27 := ⟨R_Mod, T_Mod, 32, rfl, in_Mod, by decide, xG_mem 1011 (by decide +kernel) (by decide +kernel)⟩
def p_Mod_addPart (x1 x2 x3 : Int32) (σ : xS) (Q : xS → Prop) : Prop :=
  ((¬ x1 = 2 → Q σ) ∧ (x1 = 2 → (vp_in x2 640 ∧ (((σ 43 x2.toNatClampNeg) ≤ x3 → Q σ) ∧ (¬ (σ 43 x2.toNatClampNeg) ≤ x3 → (vp_in x2 640 ∧ ((¬ (σ 58 x2.toNatClampNeg) = (-1) → Q σ) ∧ ((σ 58 x2.toNatClampNeg) = (-1) → (vp_in x2 640 ∧ (vp_in ((xu σ 58 x2.toNatClampNeg (σ 31 26)) 31 26) 640 ∧ Q (xu (xu (xu σ 58 x2.toNatClampNeg (σ 31 26)) 57 ((xu σ 58 x2.toNatClampNeg (σ 31 26)) 31 26).toNatClampNeg x2) 31 26 (((xu (xu σ 58 x2.toNatClampNeg (σ 31 26)) 57 ((xu σ 58 x2.toNatClampNeg (σ 31 26)) 31 26).toNatClampNeg x2) 31 26) + 1))))))))))))
abbrev rm_Mod_addPart : Room := { frames := 0, cells := 0, slots := 0, locals := 0 }
theorem d_Mod_addPart_0 : decode cd_Mod_addPart 0 = .ok (.iload_n 1, 1) := by decide +kernel
theorem d_Mod_addPart_1 : decode cd_Mod_addPart 1 = .ok (.iconst 2, 1) := by decide +kernel
theorem d_Mod_addPart_2 : decode cd_Mod_addPart 2 = .ok (.if_icmp .ne 53, 3) := by decide +kernel
theorem d_Mod_addPart_5 : decode cd_Mod_addPart 5 = .ok (.aload_n 0, 1) := by decide +kernel
theorem d_Mod_addPart_6 : decode cd_Mod_addPart 6 = .ok (.getfield 19, 3) := by decide +kernel
theorem d_Mod_addPart_9 : decode cd_Mod_addPart 9 = .ok (.iload_n 2, 1) := by decide +kernel
theorem d_Mod_addPart_10 : decode cd_Mod_addPart 10 = .ok (.iaload, 1) := by decide +kernel
theorem d_Mod_addPart_11 : decode cd_Mod_addPart 11 = .ok (.iload_n 3, 1) := by decide +kernel
theorem d_Mod_addPart_12 : decode cd_Mod_addPart 12 = .ok (.if_icmp .le 43, 3) := by decide +kernel
theorem d_Mod_addPart_15 : decode cd_Mod_addPart 15 = .ok (.aload_n 0, 1) := by decide +kernel
theorem d_Mod_addPart_16 : decode cd_Mod_addPart 16 = .ok (.getfield 65, 3) := by decide +kernel
theorem d_Mod_addPart_19 : decode cd_Mod_addPart 19 = .ok (.iload_n 2, 1) := by decide +kernel
theorem d_Mod_addPart_20 : decode cd_Mod_addPart 20 = .ok (.iaload, 1) := by decide +kernel
theorem d_Mod_addPart_21 : decode cd_Mod_addPart 21 = .ok (.iconst (-1), 1) := by decide +kernel
theorem d_Mod_addPart_22 : decode cd_Mod_addPart 22 = .ok (.if_icmp .ne 33, 3) := by decide +kernel
theorem d_Mod_addPart_25 : decode cd_Mod_addPart 25 = .ok (.aload_n 0, 1) := by decide +kernel
theorem d_Mod_addPart_26 : decode cd_Mod_addPart 26 = .ok (.getfield 65, 3) := by decide +kernel
theorem d_Mod_addPart_29 : decode cd_Mod_addPart 29 = .ok (.iload_n 2, 1) := by decide +kernel
theorem d_Mod_addPart_30 : decode cd_Mod_addPart 30 = .ok (.aload_n 0, 1) := by decide +kernel
theorem d_Mod_addPart_31 : decode cd_Mod_addPart 31 = .ok (.getfield 161, 3) := by decide +kernel
theorem d_Mod_addPart_34 : decode cd_Mod_addPart 34 = .ok (.iastore, 1) := by decide +kernel
theorem d_Mod_addPart_35 : decode cd_Mod_addPart 35 = .ok (.aload_n 0, 1) := by decide +kernel
theorem d_Mod_addPart_36 : decode cd_Mod_addPart 36 = .ok (.getfield 62, 3) := by decide +kernel
theorem d_Mod_addPart_39 : decode cd_Mod_addPart 39 = .ok (.aload_n 0, 1) := by decide +kernel
theorem d_Mod_addPart_40 : decode cd_Mod_addPart 40 = .ok (.getfield 161, 3) := by decide +kernel
theorem d_Mod_addPart_43 : decode cd_Mod_addPart 43 = .ok (.iload_n 2, 1) := by decide +kernel
theorem d_Mod_addPart_44 : decode cd_Mod_addPart 44 = .ok (.iastore, 1) := by decide +kernel
theorem d_Mod_addPart_45 : decode cd_Mod_addPart 45 = .ok (.aload_n 0, 1) := by decide +kernel
theorem d_Mod_addPart_46 : decode cd_Mod_addPart 46 = .ok (.dup, 1) := by decide +kernel
theorem d_Mod_addPart_47 : decode cd_Mod_addPart 47 = .ok (.getfield 161, 3) := by decide +kernel
theorem d_Mod_addPart_50 : decode cd_Mod_addPart 50 = .ok (.iconst 1, 1) := by decide +kernel
theorem d_Mod_addPart_51 : decode cd_Mod_addPart 51 = .ok (.iadd, 1) := by decide +kernel
theorem d_Mod_addPart_52 : decode cd_Mod_addPart 52 = .ok (.putfield 161, 3) := by decide +kernel
theorem d_Mod_addPart_55 : decode cd_Mod_addPart 55 = .ok (.return_, 1) := by decide +kernel
set_option maxRecDepth 100000 in
set_option maxHeartbeats 4000000 in
theorem c_Mod_addPart {l : Launch} {V : xV} {σ : xS} {x1 x2 x3 : Int32} {Q : xS → Prop} (h : p_Mod_addPart x1 x2 x3 σ Q) : xMv l y_Mod_addPart (.code y_Mod_addPart cd_Mod_addPart 4 none :: xG) rm_Mod_addPart V [.ref (V.2.2 31), .int x1, .int x2, .int x3] σ Q := by
  refine x_beginv (by decide) (Nat.le_of_ble_eq_true rfl) (fun p e s m below meth c ls C hlocks hr hI hl => ?_)
  have C : xC p s m _ c cd_Mod_addPart 4 R_Mod V := C
  have hx := C.1
  have hb := C.2.1
  have hl : lv_has ls 4 [(0, .ref (V.2.2 31)), (1, .int x1), (2, .int x2), (3, .int x3)] := hl
  unfold p_Mod_addPart at h
  refine lv_iload_n hx hb d_Mod_addPart_0 rfl (lv_at hl 1 rfl) ?_
  refine lv_iconst (v := 2) hx hb d_Mod_addPart_1 (by decide) ?_
  refine lv_icmp_ne (tgt := 55) hx hb d_Mod_addPart_2 (by decide) (fun c1 => ?_) (fun c1 => ?_)
  · have h := h.1 c1
    exact x_vret C hlocks hr hI h d_Mod_addPart_55
  · have h := h.2 c1
    refine lv_aload_n hx hb d_Mod_addPart_5 rfl (lv_at hl 0 rfl) ?_
    refine x_get C hI (d := 31) (by decide) (xE31 V _) fd_Mod_19 rfl d_Mod_addPart_6 ?_
    refine lv_iload_n hx hb d_Mod_addPart_9 rfl (lv_at hl 2 rfl) ?_
    obtain ⟨i2, h⟩ := h
    refine x_iald C hI (d := 43) (by decide) (xE43 V) i2 d_Mod_addPart_10 ?_
    refine lv_iload_n hx hb d_Mod_addPart_11 rfl (lv_at hl 3 rfl) ?_
    refine lv_icmp_le (tgt := 55) hx hb d_Mod_addPart_12 (by decide) (fun c3 => ?_) (fun c3 => ?_)
    · have h := h.1 c3
      exact x_vret C hlocks hr hI h d_Mod_addPart_55
    · have h := h.2 c3
      refine lv_aload_n hx hb d_Mod_addPart_15 rfl (lv_at hl 0 rfl) ?_
      refine x_get C hI (d := 31) (by decide) (xE31 V _) fd_Mod_65 rfl d_Mod_addPart_16 ?_
      refine lv_iload_n hx hb d_Mod_addPart_19 rfl (lv_at hl 2 rfl) ?_
      obtain ⟨i4, h⟩ := h
      refine x_iald C hI (d := 58) (by decide) (xE58 V) i4 d_Mod_addPart_20 ?_
      refine lv_iconst (v := (-1)) hx hb d_Mod_addPart_21 (by decide) ?_
      refine lv_icmp_ne (tgt := 55) hx hb d_Mod_addPart_22 (by decide) (fun c5 => ?_) (fun c5 => ?_)
      · have h := h.1 c5
        exact x_vret C hlocks hr hI h d_Mod_addPart_55
      · have h := h.2 c5
        refine lv_aload_n hx hb d_Mod_addPart_25 rfl (lv_at hl 0 rfl) ?_
        refine x_get C hI (d := 31) (by decide) (xE31 V _) fd_Mod_65 rfl d_Mod_addPart_26 ?_
        refine lv_iload_n hx hb d_Mod_addPart_29 rfl (lv_at hl 2 rfl) ?_
        refine lv_aload_n hx hb d_Mod_addPart_30 rfl (lv_at hl 0 rfl) ?_
        refine x_get C hI (d := 31) (by decide) (xE31 V _) fd_Mod_161 rfl d_Mod_addPart_31 ?_
        obtain ⟨i6, h⟩ := h
        refine x_iast C hI (d := 58) (by decide) (xE58 V) i6 d_Mod_addPart_34 (fun H locs hI => ?_)
        refine lv_aload_n hx hb d_Mod_addPart_35 rfl (lv_at hl 0 rfl) ?_
        refine x_get C hI (d := 31) (by decide) (xE31 V _) fd_Mod_62 rfl d_Mod_addPart_36 ?_
        refine lv_aload_n hx hb d_Mod_addPart_39 rfl (lv_at hl 0 rfl) ?_
        refine x_get C hI (d := 31) (by decide) (xE31 V _) fd_Mod_161 rfl d_Mod_addPart_40 ?_
        refine lv_iload_n hx hb d_Mod_addPart_43 rfl (lv_at hl 2 rfl) ?_
        obtain ⟨i7, h⟩ := h
        refine x_iast C hI (d := 57) (by decide) (xE57 V) i7 d_Mod_addPart_44 (fun H locs hI => ?_)
        refine lv_aload_n hx hb d_Mod_addPart_45 rfl (lv_at hl 0 rfl) ?_
        refine lv_dup hx hb d_Mod_addPart_46 rfl ?_
        refine x_get C hI (d := 31) (by decide) (xE31 V _) fd_Mod_161 rfl d_Mod_addPart_47 ?_
        refine lv_iconst (v := 1) hx hb d_Mod_addPart_50 (by decide) ?_
        refine lv_iadd hx hb d_Mod_addPart_51 ?_
        refine x_put C hI (d := 31) (by decide) (xE31 V _) (xP_31_26 V _ _) fw_Mod_161 (Nat.le_of_ble_eq_true rfl) d_Mod_addPart_52 (fun H locs hI => ?_)
        exact x_vret C hlocks hr hI h d_Mod_addPart_55
theorem yw_Mod_addPart : xY y_Mod_addPart cd_Mod_addPart 4 none 3 := ⟨xG_mem 1207 (by decide +kernel) (by decide +kernel), xG_mem 50 (by decide +kernel) (by decide +kernel), xG_mem 65 (by decide +kernel) (by decide +kernel), xG_mem 1208 (by decide +kernel) (by decide +kernel), by decide, by decide, by decide +kernel⟩
theorem ml_Mod_164 : Cond.methodLink R_Mod 164 y_Mod_addPart ∈ xG := xG_mem 1205 (by decide +kernel) (by decide +kernel)
def b_Mod_findParts_L65 (K46 : Int32 → Int32 → xS → Prop) (K65 : Int32 → Int32 → Int32 → Int32 → xS → Prop) (Q : xS → Prop) (x2 x3 x4 x5 : Int32) (σ : xS) : Prop :=
  (vp_in x4 640 ∧ (((σ 42 x4.toNatClampNeg) ≤ x5 → (∀ z10 : Int32, z10 = x3 + 1 → K46 x2 z10 σ)) ∧ (¬ (σ 42 x4.toNatClampNeg) ≤ x5 → (vp_in ((15 * x4) + x5) 9600 ∧ (vp_in ((15 * x4) + x5) 9600 ∧ p_Mod_addPart (σ 46 ((15 * x4) + x5).toNatClampNeg) (σ 47 ((15 * x4) + x5).toNatClampNeg) x2 σ (fun σ13 => (∀ z14 : Int32, z14 = x5 + 1 → K65 x2 x3 x4 z14 σ13)))))))
def p_Mod_findParts_L65 (K46 : Int32 → Int32 → xS → Prop) (Q : xS → Prop) (n : Nat) : Int32 → Int32 → Int32 → Int32 → xS → Prop := Nat.rec (motive := fun _ => Int32 → Int32 → Int32 → Int32 → xS → Prop) (fun _ _ _ _ _ => False) (fun _ K x2 x3 x4 x5 σ => b_Mod_findParts_L65 K46 K Q x2 x3 x4 x5 σ) n
def b_Mod_findParts_L46 (K46 : Int32 → Int32 → xS → Prop) (Q : xS → Prop) (x2 x3 : Int32) (σ : xS) : Prop :=
  (((σ 31 26) ≤ x3 → Q σ) ∧ (¬ (σ 31 26) ≤ x3 → (vp_in x3 640 ∧ (∀ z7 : Int32, z7 = (σ 57 x3.toNatClampNeg) → (∃ n, p_Mod_findParts_L65 K46 Q n x2 x3 z7 0 σ)))))
def p_Mod_findParts_L46 (Q : xS → Prop) (n : Nat) : Int32 → Int32 → xS → Prop := Nat.rec (motive := fun _ => Int32 → Int32 → xS → Prop) (fun _ _ _ => False) (fun _ K x2 x3 σ => b_Mod_findParts_L46 K Q x2 x3 σ) n
def b_Mod_findParts_L7 (K7 : Int32 → Int32 → Int32 → xS → Prop) (Q : xS → Prop) (x1 x2 x3 : Int32) (σ : xS) : Prop :=
  ((640 ≤ x3 → (vp_in x1 16 ∧ (vp_in x1 16 ∧ p_Mod_addPart (σ 54 x1.toNatClampNeg) (σ 55 x1.toNatClampNeg) x2 σ (fun σ4 => (∃ n, p_Mod_findParts_L46 Q n x2 0 σ4))))) ∧ (¬ 640 ≤ x3 → (vp_in x3 640 ∧ (∀ z16 : Int32, z16 = x3 + 1 → K7 x1 x2 z16 (xu σ 58 x3.toNatClampNeg (-1))))))
def p_Mod_findParts_L7 (Q : xS → Prop) (n : Nat) : Int32 → Int32 → Int32 → xS → Prop := Nat.rec (motive := fun _ => Int32 → Int32 → Int32 → xS → Prop) (fun _ _ _ _ => False) (fun _ K x1 x2 x3 σ => b_Mod_findParts_L7 K Q x1 x2 x3 σ) n
def p_Mod_findParts (x1 x2 : Int32) (σ : xS) (Q : xS → Prop) : Prop :=
  (∃ n, p_Mod_findParts_L7 Q n x1 x2 0 (xu σ 31 26 0))
abbrev rm_Mod_findParts : Room := { frames := 1, cells := 0, slots := 0, locals := 23 }
theorem d_Mod_findParts_0 : decode cd_Mod_findParts 0 = .ok (.aload_n 0, 1) := by decide +kernel
theorem d_Mod_findParts_1 : decode cd_Mod_findParts 1 = .ok (.iconst 0, 1) := by decide +kernel
theorem d_Mod_findParts_2 : decode cd_Mod_findParts 2 = .ok (.putfield 161, 3) := by decide +kernel
theorem d_Mod_findParts_5 : decode cd_Mod_findParts 5 = .ok (.iconst 0, 1) := by decide +kernel
theorem d_Mod_findParts_6 : decode cd_Mod_findParts 6 = .ok (.istore_n 3, 1) := by decide +kernel
theorem d_Mod_findParts_7 : decode cd_Mod_findParts 7 = .ok (.iload_n 3, 1) := by decide +kernel
theorem d_Mod_findParts_8 : decode cd_Mod_findParts 8 = .ok (.sipush 640, 3) := by decide +kernel
theorem d_Mod_findParts_11 : decode cd_Mod_findParts 11 = .ok (.if_icmp .ge 16, 3) := by decide +kernel
theorem d_Mod_findParts_14 : decode cd_Mod_findParts 14 = .ok (.aload_n 0, 1) := by decide +kernel
theorem d_Mod_findParts_15 : decode cd_Mod_findParts 15 = .ok (.getfield 65, 3) := by decide +kernel
theorem d_Mod_findParts_18 : decode cd_Mod_findParts 18 = .ok (.iload_n 3, 1) := by decide +kernel
theorem d_Mod_findParts_19 : decode cd_Mod_findParts 19 = .ok (.iconst (-1), 1) := by decide +kernel
theorem d_Mod_findParts_20 : decode cd_Mod_findParts 20 = .ok (.iastore, 1) := by decide +kernel
theorem d_Mod_findParts_21 : decode cd_Mod_findParts 21 = .ok (.iinc 3 1, 3) := by decide +kernel
theorem d_Mod_findParts_24 : decode cd_Mod_findParts 24 = .ok (.goto (-17), 3) := by decide +kernel
theorem d_Mod_findParts_27 : decode cd_Mod_findParts 27 = .ok (.aload_n 0, 1) := by decide +kernel
theorem d_Mod_findParts_28 : decode cd_Mod_findParts 28 = .ok (.aload_n 0, 1) := by decide +kernel
theorem d_Mod_findParts_29 : decode cd_Mod_findParts 29 = .ok (.getfield 53, 3) := by decide +kernel
theorem d_Mod_findParts_32 : decode cd_Mod_findParts 32 = .ok (.iload_n 1, 1) := by decide +kernel
theorem d_Mod_findParts_33 : decode cd_Mod_findParts 33 = .ok (.iaload, 1) := by decide +kernel
theorem d_Mod_findParts_34 : decode cd_Mod_findParts 34 = .ok (.aload_n 0, 1) := by decide +kernel
theorem d_Mod_findParts_35 : decode cd_Mod_findParts 35 = .ok (.getfield 56, 3) := by decide +kernel
theorem d_Mod_findParts_38 : decode cd_Mod_findParts 38 = .ok (.iload_n 1, 1) := by decide +kernel
theorem d_Mod_findParts_39 : decode cd_Mod_findParts 39 = .ok (.iaload, 1) := by decide +kernel
theorem d_Mod_findParts_40 : decode cd_Mod_findParts 40 = .ok (.iload_n 2, 1) := by decide +kernel
theorem d_Mod_findParts_41 : decode cd_Mod_findParts 41 = .ok (.invokevirtual 164, 3) := by decide +kernel
theorem d_Mod_findParts_44 : decode cd_Mod_findParts 44 = .ok (.iconst 0, 1) := by decide +kernel
theorem d_Mod_findParts_45 : decode cd_Mod_findParts 45 = .ok (.istore_n 3, 1) := by decide +kernel
theorem d_Mod_findParts_46 : decode cd_Mod_findParts 46 = .ok (.iload_n 3, 1) := by decide +kernel
theorem d_Mod_findParts_47 : decode cd_Mod_findParts 47 = .ok (.aload_n 0, 1) := by decide +kernel
theorem d_Mod_findParts_48 : decode cd_Mod_findParts 48 = .ok (.getfield 161, 3) := by decide +kernel
theorem d_Mod_findParts_51 : decode cd_Mod_findParts 51 = .ok (.if_icmp .ge 69, 3) := by decide +kernel
theorem d_Mod_findParts_54 : decode cd_Mod_findParts 54 = .ok (.aload_n 0, 1) := by decide +kernel
theorem d_Mod_findParts_55 : decode cd_Mod_findParts 55 = .ok (.getfield 62, 3) := by decide +kernel
theorem d_Mod_findParts_58 : decode cd_Mod_findParts 58 = .ok (.iload_n 3, 1) := by decide +kernel
theorem d_Mod_findParts_59 : decode cd_Mod_findParts 59 = .ok (.iaload, 1) := by decide +kernel
theorem d_Mod_findParts_60 : decode cd_Mod_findParts 60 = .ok (.istore 4, 2) := by decide +kernel
theorem d_Mod_findParts_62 : decode cd_Mod_findParts 62 = .ok (.iconst 0, 1) := by decide +kernel
theorem d_Mod_findParts_63 : decode cd_Mod_findParts 63 = .ok (.istore 5, 2) := by decide +kernel
theorem d_Mod_findParts_65 : decode cd_Mod_findParts 65 = .ok (.iload 5, 2) := by decide +kernel
theorem d_Mod_findParts_67 : decode cd_Mod_findParts 67 = .ok (.aload_n 0, 1) := by decide +kernel
theorem d_Mod_findParts_68 : decode cd_Mod_findParts 68 = .ok (.getfield 16, 3) := by decide +kernel
theorem d_Mod_findParts_71 : decode cd_Mod_findParts 71 = .ok (.iload 4, 2) := by decide +kernel
theorem d_Mod_findParts_73 : decode cd_Mod_findParts 73 = .ok (.iaload, 1) := by decide +kernel
theorem d_Mod_findParts_74 : decode cd_Mod_findParts 74 = .ok (.if_icmp .ge 40, 3) := by decide +kernel
theorem d_Mod_findParts_77 : decode cd_Mod_findParts 77 = .ok (.aload_n 0, 1) := by decide +kernel
theorem d_Mod_findParts_78 : decode cd_Mod_findParts 78 = .ok (.aload_n 0, 1) := by decide +kernel
theorem d_Mod_findParts_79 : decode cd_Mod_findParts 79 = .ok (.getfield 28, 3) := by decide +kernel
theorem d_Mod_findParts_82 : decode cd_Mod_findParts 82 = .ok (.bipush 15, 2) := by decide +kernel
theorem d_Mod_findParts_84 : decode cd_Mod_findParts 84 = .ok (.iload 4, 2) := by decide +kernel
theorem d_Mod_findParts_86 : decode cd_Mod_findParts 86 = .ok (.imul, 1) := by decide +kernel
theorem d_Mod_findParts_87 : decode cd_Mod_findParts 87 = .ok (.iload 5, 2) := by decide +kernel
theorem d_Mod_findParts_89 : decode cd_Mod_findParts 89 = .ok (.iadd, 1) := by decide +kernel
theorem d_Mod_findParts_90 : decode cd_Mod_findParts 90 = .ok (.iaload, 1) := by decide +kernel
theorem d_Mod_findParts_91 : decode cd_Mod_findParts 91 = .ok (.aload_n 0, 1) := by decide +kernel
theorem d_Mod_findParts_92 : decode cd_Mod_findParts 92 = .ok (.getfield 31, 3) := by decide +kernel
theorem d_Mod_findParts_95 : decode cd_Mod_findParts 95 = .ok (.bipush 15, 2) := by decide +kernel
theorem d_Mod_findParts_97 : decode cd_Mod_findParts 97 = .ok (.iload 4, 2) := by decide +kernel
theorem d_Mod_findParts_99 : decode cd_Mod_findParts 99 = .ok (.imul, 1) := by decide +kernel
theorem d_Mod_findParts_100 : decode cd_Mod_findParts 100 = .ok (.iload 5, 2) := by decide +kernel
theorem d_Mod_findParts_102 : decode cd_Mod_findParts 102 = .ok (.iadd, 1) := by decide +kernel
theorem d_Mod_findParts_103 : decode cd_Mod_findParts 103 = .ok (.iaload, 1) := by decide +kernel
theorem d_Mod_findParts_104 : decode cd_Mod_findParts 104 = .ok (.iload_n 2, 1) := by decide +kernel
theorem d_Mod_findParts_105 : decode cd_Mod_findParts 105 = .ok (.invokevirtual 164, 3) := by decide +kernel
theorem d_Mod_findParts_108 : decode cd_Mod_findParts 108 = .ok (.iinc 5 1, 3) := by decide +kernel
theorem d_Mod_findParts_111 : decode cd_Mod_findParts 111 = .ok (.goto (-46), 3) := by decide +kernel
theorem d_Mod_findParts_114 : decode cd_Mod_findParts 114 = .ok (.iinc 3 1, 3) := by decide +kernel
theorem d_Mod_findParts_117 : decode cd_Mod_findParts 117 = .ok (.goto (-71), 3) := by decide +kernel
theorem d_Mod_findParts_120 : decode cd_Mod_findParts 120 = .ok (.return_, 1) := by decide +kernel
set_option maxRecDepth 100000 in
set_option maxHeartbeats 4000000 in
theorem s_Mod_findParts_L65 {p : Program} {l : Launch} {e : Env} {s : State} {m : MethodId} {args : Array Value} {below : List Frame} {meth : Method} {c : Code} {V : xV} (C : xC p s m args c cd_Mod_findParts 6 R_Mod V) (hlocks : meth.locks = false) (hr : meth.sig.returnType = none) {Q : xS → Prop} {K46 : Int32 → Int32 → xS → Prop} {K65 : Int32 → Int32 → Int32 → Int32 → xS → Prop} (hK46 : ∀ (x2 : Int32) (x3 : Int32) (σ : xS) (H : Heap) (locs : List Loc) (ls : Array Slot), K46 x2 x3 σ → xI V s.heap σ H locs → lv_has ls 6 [(0, .ref (V.2.2 31)), (2, .int x2), (3, .int x3)] → W p l e rm_Mod_findParts s m args below meth c H locs 0 0 (xZv below V args s Q) (F0 m 46 ls [])) (hK65 : ∀ (x2 : Int32) (x3 : Int32) (x4 : Int32) (x5 : Int32) (σ : xS) (H : Heap) (locs : List Loc) (ls : Array Slot), K65 x2 x3 x4 x5 σ → xI V s.heap σ H locs → lv_has ls 6 [(0, .ref (V.2.2 31)), (2, .int x2), (3, .int x3), (4, .int x4), (5, .int x5)] → W p l e rm_Mod_findParts s m args below meth c H locs 0 0 (xZv below V args s Q) (F0 m 65 ls [])) {x2 x3 x4 x5 : Int32} {σ : xS} {H : Heap} {locs : List Loc} {ls : Array Slot} (h : b_Mod_findParts_L65 K46 K65 Q x2 x3 x4 x5 σ) (hI : xI V s.heap σ H locs) (hl : lv_has ls 6 [(0, .ref (V.2.2 31)), (2, .int x2), (3, .int x3), (4, .int x4), (5, .int x5)]) : W p l e rm_Mod_findParts s m args below meth c H locs 0 0 (xZv below V args s Q) (F0 m 65 ls []) := by
  have hx := C.1
  have hb := C.2.1
  unfold b_Mod_findParts_L65 at h
  refine lv_iload hx hb d_Mod_findParts_65 (lv_at hl 4 rfl) ?_
  refine lv_aload_n hx hb d_Mod_findParts_67 rfl (lv_at hl 0 rfl) ?_
  refine x_get C hI (d := 31) (by decide) (xE31 V _) fd_Mod_16 rfl d_Mod_findParts_68 ?_
  refine lv_iload hx hb d_Mod_findParts_71 (lv_at hl 3 rfl) ?_
  obtain ⟨i8, h⟩ := h
  refine x_iald C hI (d := 42) (by decide) (xE42 V) i8 d_Mod_findParts_73 ?_
  refine lv_icmp_ge (tgt := 114) hx hb d_Mod_findParts_74 (by decide) (fun c9 => ?_) (fun c9 => ?_)
  · have h := h.1 c9
    obtain ⟨z10, ez10⟩ : ∃ y : Int32, y = x3 + 1 := ⟨_, rfl⟩
    have h := h z10 ez10
    refine lv_iinc (v := z10) (lv' := [(3, .int z10), (0, .ref (V.2.2 31)), (2, .int x2), (4, .int x4), (5, .int x5)]) hx hb d_Mod_findParts_114 hl (k := 2) rfl (by rw [ez10]; rfl) (by decide) rfl (fun ls hl => ?_)
    refine lv_goto (tgt := 46) hx hb d_Mod_findParts_117 (by decide) ?_
    exact hK46 _ _ _ _ _ _ h hI (lv_sub hl [1, 2, 0] rfl)
  · have h := h.2 c9
    refine lv_aload_n hx hb d_Mod_findParts_77 rfl (lv_at hl 0 rfl) ?_
    refine lv_aload_n hx hb d_Mod_findParts_78 rfl (lv_at hl 0 rfl) ?_
    refine x_get C hI (d := 31) (by decide) (xE31 V _) fd_Mod_28 rfl d_Mod_findParts_79 ?_
    refine lv_bipush (v := 15) hx hb d_Mod_findParts_82 (by decide) ?_
    refine lv_iload hx hb d_Mod_findParts_84 (lv_at hl 3 rfl) ?_
    refine lv_imul hx hb d_Mod_findParts_86 ?_
    refine lv_iload hx hb d_Mod_findParts_87 (lv_at hl 4 rfl) ?_
    refine lv_iadd hx hb d_Mod_findParts_89 ?_
    obtain ⟨i11, h⟩ := h
    refine x_iald C hI (d := 46) (by decide) (xE46 V) i11 d_Mod_findParts_90 ?_
    refine lv_aload_n hx hb d_Mod_findParts_91 rfl (lv_at hl 0 rfl) ?_
    refine x_get C hI (d := 31) (by decide) (xE31 V _) fd_Mod_31 rfl d_Mod_findParts_92 ?_
    refine lv_bipush (v := 15) hx hb d_Mod_findParts_95 (by decide) ?_
    refine lv_iload hx hb d_Mod_findParts_97 (lv_at hl 3 rfl) ?_
    refine lv_imul hx hb d_Mod_findParts_99 ?_
    refine lv_iload hx hb d_Mod_findParts_100 (lv_at hl 4 rfl) ?_
    refine lv_iadd hx hb d_Mod_findParts_102 ?_
    obtain ⟨i12, h⟩ := h
    refine x_iald C hI (d := 47) (by decide) (xE47 V) i12 d_Mod_findParts_103 ?_
    refine lv_iload_n hx hb d_Mod_findParts_104 rfl (lv_at hl 1 rfl) ?_
    refine x_callv C hI hl.1 (d := 31) (As := [.int (σ 46 ((15 * x4) + x5).toNatClampNeg), .int (σ 47 ((15 * x4) + x5).toNatClampNeg), .int x2]) (rest := []) (by decide) (c_Mod_addPart h) (xE31 V _) rfl yw_Mod_addPart ml_Mod_164 rfl rfl ⟨Nat.le_of_ble_eq_true rfl, Nat.le_of_ble_eq_true rfl⟩ rfl rfl (Nat.le_of_ble_eq_true rfl) d_Mod_findParts_105 ⟨Nat.zero_le _, Nat.zero_le _⟩ (fun σ13 H locs h hI => ?_)
    obtain ⟨z14, ez14⟩ : ∃ y : Int32, y = x5 + 1 := ⟨_, rfl⟩
    have h := h z14 ez14
    refine lv_iinc (v := z14) (lv' := [(5, .int z14), (0, .ref (V.2.2 31)), (2, .int x2), (3, .int x3), (4, .int x4)]) hx hb d_Mod_findParts_108 hl (k := 4) rfl (by rw [ez14]; rfl) (by decide) rfl (fun ls hl => ?_)
    refine lv_goto (tgt := 65) hx hb d_Mod_findParts_111 (by decide) ?_
    exact hK65 _ _ _ _ _ _ _ _ h hI (lv_sub hl [1, 2, 3, 4, 0] rfl)
theorem w_Mod_findParts_L65 {p : Program} {l : Launch} {e : Env} {s : State} {m : MethodId} {args : Array Value} {below : List Frame} {meth : Method} {c : Code} {V : xV} (C : xC p s m args c cd_Mod_findParts 6 R_Mod V) (hlocks : meth.locks = false) (hr : meth.sig.returnType = none) {Q : xS → Prop} {K46 : Int32 → Int32 → xS → Prop} (hK46 : ∀ (x2 : Int32) (x3 : Int32) (σ : xS) (H : Heap) (locs : List Loc) (ls : Array Slot), K46 x2 x3 σ → xI V s.heap σ H locs → lv_has ls 6 [(0, .ref (V.2.2 31)), (2, .int x2), (3, .int x3)] → W p l e rm_Mod_findParts s m args below meth c H locs 0 0 (xZv below V args s Q) (F0 m 46 ls [])) : ∀ (n : Nat) (x2 : Int32) (x3 : Int32) (x4 : Int32) (x5 : Int32) (σ : xS) (H : Heap) (locs : List Loc) (ls : Array Slot), p_Mod_findParts_L65 K46 Q n x2 x3 x4 x5 σ → xI V s.heap σ H locs → lv_has ls 6 [(0, .ref (V.2.2 31)), (2, .int x2), (3, .int x3), (4, .int x4), (5, .int x5)] → W p l e rm_Mod_findParts s m args below meth c H locs 0 0 (xZv below V args s Q) (F0 m 65 ls []) := by
  intro n
  induction n with
  | zero =>
    intro x2 x3 x4 x5 σ H locs ls h
    exact False.elim h
  | succ n ih =>
    intro x2 x3 x4 x5 σ H locs ls h hI hl
    exact s_Mod_findParts_L65 C hlocks hr hK46 (K65 := p_Mod_findParts_L65 K46 Q n) (fun x2 x3 x4 x5 σ H locs ls h hI hl => ih x2 x3 x4 x5 σ H locs ls h hI hl) h hI hl
set_option maxRecDepth 100000 in
set_option maxHeartbeats 4000000 in
theorem s_Mod_findParts_L46 {p : Program} {l : Launch} {e : Env} {s : State} {m : MethodId} {args : Array Value} {below : List Frame} {meth : Method} {c : Code} {V : xV} (C : xC p s m args c cd_Mod_findParts 6 R_Mod V) (hlocks : meth.locks = false) (hr : meth.sig.returnType = none) {Q : xS → Prop} {K46 : Int32 → Int32 → xS → Prop} (hK46 : ∀ (x2 : Int32) (x3 : Int32) (σ : xS) (H : Heap) (locs : List Loc) (ls : Array Slot), K46 x2 x3 σ → xI V s.heap σ H locs → lv_has ls 6 [(0, .ref (V.2.2 31)), (2, .int x2), (3, .int x3)] → W p l e rm_Mod_findParts s m args below meth c H locs 0 0 (xZv below V args s Q) (F0 m 46 ls [])) {x2 x3 : Int32} {σ : xS} {H : Heap} {locs : List Loc} {ls : Array Slot} (h : b_Mod_findParts_L46 K46 Q x2 x3 σ) (hI : xI V s.heap σ H locs) (hl : lv_has ls 6 [(0, .ref (V.2.2 31)), (2, .int x2), (3, .int x3)]) : W p l e rm_Mod_findParts s m args below meth c H locs 0 0 (xZv below V args s Q) (F0 m 46 ls []) := by
  have hx := C.1
  have hb := C.2.1
  unfold b_Mod_findParts_L46 at h
  refine lv_iload_n hx hb d_Mod_findParts_46 rfl (lv_at hl 2 rfl) ?_
  refine lv_aload_n hx hb d_Mod_findParts_47 rfl (lv_at hl 0 rfl) ?_
  refine x_get C hI (d := 31) (by decide) (xE31 V _) fd_Mod_161 rfl d_Mod_findParts_48 ?_
  refine lv_icmp_ge (tgt := 120) hx hb d_Mod_findParts_51 (by decide) (fun c5 => ?_) (fun c5 => ?_)
  · have h := h.1 c5
    exact x_vret C hlocks hr hI h d_Mod_findParts_120
  · have h := h.2 c5
    refine lv_aload_n hx hb d_Mod_findParts_54 rfl (lv_at hl 0 rfl) ?_
    refine x_get C hI (d := 31) (by decide) (xE31 V _) fd_Mod_62 rfl d_Mod_findParts_55 ?_
    refine lv_iload_n hx hb d_Mod_findParts_58 rfl (lv_at hl 2 rfl) ?_
    obtain ⟨i6, h⟩ := h
    refine x_iald C hI (d := 57) (by decide) (xE57 V) i6 d_Mod_findParts_59 ?_
    refine lv_topi (fun z7 ez7 => ?_)
    have h := h z7 ez7
    refine lv_istore (lv' := [(4, .int z7), (0, .ref (V.2.2 31)), (2, .int x2), (3, .int x3)]) hx hb d_Mod_findParts_60 hl (by decide) rfl (fun ls hl => ?_)
    refine lv_iconst (v := 0) hx hb d_Mod_findParts_62 (by decide) ?_
    refine lv_istore (lv' := [(5, .int 0), (4, .int z7), (0, .ref (V.2.2 31)), (2, .int x2), (3, .int x3)]) hx hb d_Mod_findParts_63 hl (by decide) rfl (fun ls hl => ?_)
    obtain ⟨n, h⟩ := h
    exact w_Mod_findParts_L65 C hlocks hr hK46 n _ _ _ _ _ _ _ _ h hI (lv_sub hl [2, 3, 4, 1, 0] rfl)
theorem w_Mod_findParts_L46 {p : Program} {l : Launch} {e : Env} {s : State} {m : MethodId} {args : Array Value} {below : List Frame} {meth : Method} {c : Code} {V : xV} (C : xC p s m args c cd_Mod_findParts 6 R_Mod V) (hlocks : meth.locks = false) (hr : meth.sig.returnType = none) {Q : xS → Prop} : ∀ (n : Nat) (x2 : Int32) (x3 : Int32) (σ : xS) (H : Heap) (locs : List Loc) (ls : Array Slot), p_Mod_findParts_L46 Q n x2 x3 σ → xI V s.heap σ H locs → lv_has ls 6 [(0, .ref (V.2.2 31)), (2, .int x2), (3, .int x3)] → W p l e rm_Mod_findParts s m args below meth c H locs 0 0 (xZv below V args s Q) (F0 m 46 ls []) := by
  intro n
  induction n with
  | zero =>
    intro x2 x3 σ H locs ls h
    exact False.elim h
  | succ n ih =>
    intro x2 x3 σ H locs ls h hI hl
    exact s_Mod_findParts_L46 C hlocks hr (K46 := p_Mod_findParts_L46 Q n) (fun x2 x3 σ H locs ls h hI hl => ih x2 x3 σ H locs ls h hI hl) h hI hl
set_option maxRecDepth 100000 in
set_option maxHeartbeats 4000000 in
theorem s_Mod_findParts_L7 {p : Program} {l : Launch} {e : Env} {s : State} {m : MethodId} {args : Array Value} {below : List Frame} {meth : Method} {c : Code} {V : xV} (C : xC p s m args c cd_Mod_findParts 6 R_Mod V) (hlocks : meth.locks = false) (hr : meth.sig.returnType = none) {Q : xS → Prop} {K7 : Int32 → Int32 → Int32 → xS → Prop} (hK7 : ∀ (x1 : Int32) (x2 : Int32) (x3 : Int32) (σ : xS) (H : Heap) (locs : List Loc) (ls : Array Slot), K7 x1 x2 x3 σ → xI V s.heap σ H locs → lv_has ls 6 [(0, .ref (V.2.2 31)), (1, .int x1), (2, .int x2), (3, .int x3)] → W p l e rm_Mod_findParts s m args below meth c H locs 0 0 (xZv below V args s Q) (F0 m 7 ls [])) {x1 x2 x3 : Int32} {σ : xS} {H : Heap} {locs : List Loc} {ls : Array Slot} (h : b_Mod_findParts_L7 K7 Q x1 x2 x3 σ) (hI : xI V s.heap σ H locs) (hl : lv_has ls 6 [(0, .ref (V.2.2 31)), (1, .int x1), (2, .int x2), (3, .int x3)]) : W p l e rm_Mod_findParts s m args below meth c H locs 0 0 (xZv below V args s Q) (F0 m 7 ls []) := by
  have hx := C.1
  have hb := C.2.1
  unfold b_Mod_findParts_L7 at h
  refine lv_iload_n hx hb d_Mod_findParts_7 rfl (lv_at hl 3 rfl) ?_
  refine lv_sipush (v := 640) hx hb d_Mod_findParts_8 (by decide) ?_
  refine lv_icmp_ge (tgt := 27) hx hb d_Mod_findParts_11 (by decide) (fun c1 => ?_) (fun c1 => ?_)
  · have h := h.1 c1
    refine lv_aload_n hx hb d_Mod_findParts_27 rfl (lv_at hl 0 rfl) ?_
    refine lv_aload_n hx hb d_Mod_findParts_28 rfl (lv_at hl 0 rfl) ?_
    refine x_get C hI (d := 31) (by decide) (xE31 V _) fd_Mod_53 rfl d_Mod_findParts_29 ?_
    refine lv_iload_n hx hb d_Mod_findParts_32 rfl (lv_at hl 1 rfl) ?_
    obtain ⟨i2, h⟩ := h
    refine x_iald C hI (d := 54) (by decide) (xE54 V) i2 d_Mod_findParts_33 ?_
    refine lv_aload_n hx hb d_Mod_findParts_34 rfl (lv_at hl 0 rfl) ?_
    refine x_get C hI (d := 31) (by decide) (xE31 V _) fd_Mod_56 rfl d_Mod_findParts_35 ?_
    refine lv_iload_n hx hb d_Mod_findParts_38 rfl (lv_at hl 1 rfl) ?_
    obtain ⟨i3, h⟩ := h
    refine x_iald C hI (d := 55) (by decide) (xE55 V) i3 d_Mod_findParts_39 ?_
    refine lv_iload_n hx hb d_Mod_findParts_40 rfl (lv_at hl 2 rfl) ?_
    refine x_callv C hI hl.1 (d := 31) (As := [.int (σ 54 x1.toNatClampNeg), .int (σ 55 x1.toNatClampNeg), .int x2]) (rest := []) (by decide) (c_Mod_addPart h) (xE31 V _) rfl yw_Mod_addPart ml_Mod_164 rfl rfl ⟨Nat.le_of_ble_eq_true rfl, Nat.le_of_ble_eq_true rfl⟩ rfl rfl (Nat.le_of_ble_eq_true rfl) d_Mod_findParts_41 ⟨Nat.zero_le _, Nat.zero_le _⟩ (fun σ4 H locs h hI => ?_)
    refine lv_iconst (v := 0) hx hb d_Mod_findParts_44 (by decide) ?_
    refine lv_istore_n (lv' := [(3, .int 0), (0, .ref (V.2.2 31)), (1, .int x1), (2, .int x2)]) hx hb d_Mod_findParts_45 rfl hl (by decide) rfl (fun ls hl => ?_)
    obtain ⟨n, h⟩ := h
    exact w_Mod_findParts_L46 C hlocks hr n _ _ _ _ _ _ h hI (lv_sub hl [1, 3, 0] rfl)
  · have h := h.2 c1
    refine lv_aload_n hx hb d_Mod_findParts_14 rfl (lv_at hl 0 rfl) ?_
    refine x_get C hI (d := 31) (by decide) (xE31 V _) fd_Mod_65 rfl d_Mod_findParts_15 ?_
    refine lv_iload_n hx hb d_Mod_findParts_18 rfl (lv_at hl 3 rfl) ?_
    refine lv_iconst (v := (-1)) hx hb d_Mod_findParts_19 (by decide) ?_
    obtain ⟨i15, h⟩ := h
    refine x_iast C hI (d := 58) (by decide) (xE58 V) i15 d_Mod_findParts_20 (fun H locs hI => ?_)
    obtain ⟨z16, ez16⟩ : ∃ y : Int32, y = x3 + 1 := ⟨_, rfl⟩
    have h := h z16 ez16
    refine lv_iinc (v := z16) (lv' := [(3, .int z16), (0, .ref (V.2.2 31)), (1, .int x1), (2, .int x2)]) hx hb d_Mod_findParts_21 hl (k := 3) rfl (by rw [ez16]; rfl) (by decide) rfl (fun ls hl => ?_)
    refine lv_goto (tgt := 7) hx hb d_Mod_findParts_24 (by decide) ?_
    exact hK7 _ _ _ _ _ _ _ h hI (lv_sub hl [1, 2, 3, 0] rfl)
theorem w_Mod_findParts_L7 {p : Program} {l : Launch} {e : Env} {s : State} {m : MethodId} {args : Array Value} {below : List Frame} {meth : Method} {c : Code} {V : xV} (C : xC p s m args c cd_Mod_findParts 6 R_Mod V) (hlocks : meth.locks = false) (hr : meth.sig.returnType = none) {Q : xS → Prop} : ∀ (n : Nat) (x1 : Int32) (x2 : Int32) (x3 : Int32) (σ : xS) (H : Heap) (locs : List Loc) (ls : Array Slot), p_Mod_findParts_L7 Q n x1 x2 x3 σ → xI V s.heap σ H locs → lv_has ls 6 [(0, .ref (V.2.2 31)), (1, .int x1), (2, .int x2), (3, .int x3)] → W p l e rm_Mod_findParts s m args below meth c H locs 0 0 (xZv below V args s Q) (F0 m 7 ls []) := by
  intro n
  induction n with
  | zero =>
    intro x1 x2 x3 σ H locs ls h
    exact False.elim h
  | succ n ih =>
    intro x1 x2 x3 σ H locs ls h hI hl
    exact s_Mod_findParts_L7 C hlocks hr (K7 := p_Mod_findParts_L7 Q n) (fun x1 x2 x3 σ H locs ls h hI hl => ih x1 x2 x3 σ H locs ls h hI hl) h hI hl
set_option maxRecDepth 100000 in
set_option maxHeartbeats 4000000 in
theorem c_Mod_findParts {l : Launch} {V : xV} {σ : xS} {x1 x2 : Int32} {Q : xS → Prop} (h : p_Mod_findParts x1 x2 σ Q) : xMv l y_Mod_findParts (.code y_Mod_findParts cd_Mod_findParts 6 none :: xG) rm_Mod_findParts V [.ref (V.2.2 31), .int x1, .int x2] σ Q := by
  refine x_beginv (by decide) (Nat.le_of_ble_eq_true rfl) (fun p e s m below meth c ls C hlocks hr hI hl => ?_)
  have C : xC p s m _ c cd_Mod_findParts 6 R_Mod V := C
  have hx := C.1
  have hb := C.2.1
  have hl : lv_has ls 6 [(0, .ref (V.2.2 31)), (1, .int x1), (2, .int x2)] := hl
  unfold p_Mod_findParts at h
  refine lv_aload_n hx hb d_Mod_findParts_0 rfl (lv_at hl 0 rfl) ?_
  refine lv_iconst (v := 0) hx hb d_Mod_findParts_1 (by decide) ?_
  refine x_put C hI (d := 31) (by decide) (xE31 V _) (xP_31_26 V _ _) fw_Mod_161 (Nat.le_of_ble_eq_true rfl) d_Mod_findParts_2 (fun H locs hI => ?_)
  refine lv_iconst (v := 0) hx hb d_Mod_findParts_5 (by decide) ?_
  refine lv_istore_n (lv' := [(3, .int 0), (0, .ref (V.2.2 31)), (1, .int x1), (2, .int x2)]) hx hb d_Mod_findParts_6 rfl hl (by decide) rfl (fun ls hl => ?_)
  obtain ⟨n, h⟩ := h
  exact w_Mod_findParts_L7 C hlocks hr n _ _ _ _ _ _ _ h hI (lv_sub hl [1, 2, 3, 0] rfl)
theorem yw_Mod_findParts : xY y_Mod_findParts cd_Mod_findParts 6 none 2 := ⟨xG_mem 1203 (by decide +kernel) (by decide +kernel), xG_mem 49 (by decide +kernel) (by decide +kernel), xG_mem 65 (by decide +kernel) (by decide +kernel), xG_mem 1204 (by decide +kernel) (by decide +kernel), by decide, by decide, by decide +kernel⟩
theorem ml_Mod_168 : Cond.methodLink R_Mod 168 y_Mod_findParts ∈ xG := xG_mem 1201 (by decide +kernel) (by decide +kernel)
def y_Mod_haveRoom : MethodName := ⟨"RegionPoolModel", "haveRoom", "(I)Z"⟩
abbrev cd_Mod_haveRoom : ByteArray := prog_12_method_33_code
def b_Mod_haveRoom_L62 (K62 : Int32 → Int32 → Int32 → xS → Prop) (Q : Int32 → xS → Prop) (x2 x3 x4 : Int32) (σ : xS) : Prop :=
  (((σ 31 26) ≤ x4 → ((x3 < 0 → Q 0 σ) ∧ (¬ x3 < 0 → Q 1 σ))) ∧ (¬ (σ 31 26) ≤ x4 → (vp_in x4 640 ∧ (vp_in (σ 57 x4.toNatClampNeg) 640 ∧ (∀ z8 : Int32, z8 = ((σ 42 (σ 57 x4.toNatClampNeg).toNatClampNeg) + 1) → ((z8 ≤ x2 → (∀ z10 : Int32, z10 = (x2 - z8) → (∀ z11 : Int32, z11 = x4 + 1 → K62 z10 x3 z11 σ))) ∧ (¬ z8 ≤ x2 → (∀ z12 : Int32, z12 = x3 + (-1) → (∀ z13 : Int32, z13 = (16 - z8) → (∀ z14 : Int32, z14 = x4 + 1 → K62 z13 z12 z14 σ))))))))))
def p_Mod_haveRoom_L62 (Q : Int32 → xS → Prop) (n : Nat) : Int32 → Int32 → Int32 → xS → Prop := Nat.rec (motive := fun _ => Int32 → Int32 → Int32 → xS → Prop) (fun _ _ _ _ => False) (fun _ K x2 x3 x4 σ => b_Mod_haveRoom_L62 K Q x2 x3 x4 σ) n
def b_Mod_haveRoom_L28 (K28 : Int32 → Int32 → Int32 → xS → Prop) (Q : Int32 → xS → Prop) (x2 x3 x4 : Int32) (σ : xS) : Prop :=
  ((40 ≤ x4 → (∃ n, p_Mod_haveRoom_L62 Q n x2 x3 0 σ)) ∧ (¬ 40 ≤ x4 → (vp_in x4 40 ∧ (((σ 50 x4.toNatClampNeg) = 0 → (∀ z17 : Int32, z17 = (x3 + 1) → (∀ z18 : Int32, z18 = x4 + 1 → K28 x2 z17 z18 σ))) ∧ (¬ (σ 50 x4.toNatClampNeg) = 0 → (∀ z19 : Int32, z19 = (x3 + 0) → (∀ z20 : Int32, z20 = x4 + 1 → K28 x2 z19 z20 σ)))))))
def p_Mod_haveRoom_L28 (Q : Int32 → xS → Prop) (n : Nat) : Int32 → Int32 → Int32 → xS → Prop := Nat.rec (motive := fun _ => Int32 → Int32 → Int32 → xS → Prop) (fun _ _ _ _ => False) (fun _ K x2 x3 x4 σ => b_Mod_haveRoom_L28 K Q x2 x3 x4 σ) n
def p_Mod_haveRoom (x1 : Int32) (σ : xS) (Q : Int32 → xS → Prop) : Prop :=
  (vp_in x1 8 ∧ (((σ 51 x1.toNatClampNeg) ≤ 0 → (∃ n, p_Mod_haveRoom_L28 Q n 0 0 0 σ)) ∧ (¬ (σ 51 x1.toNatClampNeg) ≤ 0 → (vp_in x1 8 ∧ (∀ z22 : Int32, z22 = (16 - (σ 53 x1.toNatClampNeg)) → (∃ n, p_Mod_haveRoom_L28 Q n z22 0 0 σ))))))
abbrev rm_Mod_haveRoom : Room := { frames := 0, cells := 0, slots := 0, locals := 0 }
theorem d_Mod_haveRoom_0 : decode cd_Mod_haveRoom 0 = .ok (.aload_n 0, 1) := by decide +kernel
theorem d_Mod_haveRoom_1 : decode cd_Mod_haveRoom 1 = .ok (.getfield 44, 3) := by decide +kernel
theorem d_Mod_haveRoom_4 : decode cd_Mod_haveRoom 4 = .ok (.iload_n 1, 1) := by decide +kernel
theorem d_Mod_haveRoom_5 : decode cd_Mod_haveRoom 5 = .ok (.iaload, 1) := by decide +kernel
theorem d_Mod_haveRoom_6 : decode cd_Mod_haveRoom 6 = .ok (.ifCond .le 15, 3) := by decide +kernel
theorem d_Mod_haveRoom_9 : decode cd_Mod_haveRoom 9 = .ok (.bipush 16, 2) := by decide +kernel
theorem d_Mod_haveRoom_11 : decode cd_Mod_haveRoom 11 = .ok (.aload_n 0, 1) := by decide +kernel
theorem d_Mod_haveRoom_12 : decode cd_Mod_haveRoom 12 = .ok (.getfield 50, 3) := by decide +kernel
theorem d_Mod_haveRoom_15 : decode cd_Mod_haveRoom 15 = .ok (.iload_n 1, 1) := by decide +kernel
theorem d_Mod_haveRoom_16 : decode cd_Mod_haveRoom 16 = .ok (.iaload, 1) := by decide +kernel
theorem d_Mod_haveRoom_17 : decode cd_Mod_haveRoom 17 = .ok (.isub, 1) := by decide +kernel
theorem d_Mod_haveRoom_18 : decode cd_Mod_haveRoom 18 = .ok (.goto 4, 3) := by decide +kernel
theorem d_Mod_haveRoom_21 : decode cd_Mod_haveRoom 21 = .ok (.iconst 0, 1) := by decide +kernel
theorem d_Mod_haveRoom_22 : decode cd_Mod_haveRoom 22 = .ok (.istore_n 2, 1) := by decide +kernel
theorem d_Mod_haveRoom_23 : decode cd_Mod_haveRoom 23 = .ok (.iconst 0, 1) := by decide +kernel
theorem d_Mod_haveRoom_24 : decode cd_Mod_haveRoom 24 = .ok (.istore_n 3, 1) := by decide +kernel
theorem d_Mod_haveRoom_25 : decode cd_Mod_haveRoom 25 = .ok (.iconst 0, 1) := by decide +kernel
theorem d_Mod_haveRoom_26 : decode cd_Mod_haveRoom 26 = .ok (.istore 4, 2) := by decide +kernel
theorem d_Mod_haveRoom_28 : decode cd_Mod_haveRoom 28 = .ok (.iload 4, 2) := by decide +kernel
theorem d_Mod_haveRoom_30 : decode cd_Mod_haveRoom 30 = .ok (.bipush 40, 2) := by decide +kernel
theorem d_Mod_haveRoom_32 : decode cd_Mod_haveRoom 32 = .ok (.if_icmp .ge 27, 3) := by decide +kernel
theorem d_Mod_haveRoom_35 : decode cd_Mod_haveRoom 35 = .ok (.iload_n 3, 1) := by decide +kernel
theorem d_Mod_haveRoom_36 : decode cd_Mod_haveRoom 36 = .ok (.aload_n 0, 1) := by decide +kernel
theorem d_Mod_haveRoom_37 : decode cd_Mod_haveRoom 37 = .ok (.getfield 41, 3) := by decide +kernel
theorem d_Mod_haveRoom_40 : decode cd_Mod_haveRoom 40 = .ok (.iload 4, 2) := by decide +kernel
theorem d_Mod_haveRoom_42 : decode cd_Mod_haveRoom 42 = .ok (.baload, 1) := by decide +kernel
theorem d_Mod_haveRoom_43 : decode cd_Mod_haveRoom 43 = .ok (.ifCond .eq 7, 3) := by decide +kernel
theorem d_Mod_haveRoom_46 : decode cd_Mod_haveRoom 46 = .ok (.iconst 0, 1) := by decide +kernel
theorem d_Mod_haveRoom_47 : decode cd_Mod_haveRoom 47 = .ok (.goto 4, 3) := by decide +kernel
theorem d_Mod_haveRoom_50 : decode cd_Mod_haveRoom 50 = .ok (.iconst 1, 1) := by decide +kernel
theorem d_Mod_haveRoom_51 : decode cd_Mod_haveRoom 51 = .ok (.iadd, 1) := by decide +kernel
theorem d_Mod_haveRoom_52 : decode cd_Mod_haveRoom 52 = .ok (.istore_n 3, 1) := by decide +kernel
theorem d_Mod_haveRoom_53 : decode cd_Mod_haveRoom 53 = .ok (.iinc 4 1, 3) := by decide +kernel
theorem d_Mod_haveRoom_56 : decode cd_Mod_haveRoom 56 = .ok (.goto (-28), 3) := by decide +kernel
theorem d_Mod_haveRoom_59 : decode cd_Mod_haveRoom 59 = .ok (.iconst 0, 1) := by decide +kernel
theorem d_Mod_haveRoom_60 : decode cd_Mod_haveRoom 60 = .ok (.istore 4, 2) := by decide +kernel
theorem d_Mod_haveRoom_62 : decode cd_Mod_haveRoom 62 = .ok (.iload 4, 2) := by decide +kernel
theorem d_Mod_haveRoom_64 : decode cd_Mod_haveRoom 64 = .ok (.aload_n 0, 1) := by decide +kernel
theorem d_Mod_haveRoom_65 : decode cd_Mod_haveRoom 65 = .ok (.getfield 161, 3) := by decide +kernel
theorem d_Mod_haveRoom_68 : decode cd_Mod_haveRoom 68 = .ok (.if_icmp .ge 42, 3) := by decide +kernel
theorem d_Mod_haveRoom_71 : decode cd_Mod_haveRoom 71 = .ok (.aload_n 0, 1) := by decide +kernel
theorem d_Mod_haveRoom_72 : decode cd_Mod_haveRoom 72 = .ok (.getfield 16, 3) := by decide +kernel
theorem d_Mod_haveRoom_75 : decode cd_Mod_haveRoom 75 = .ok (.aload_n 0, 1) := by decide +kernel
theorem d_Mod_haveRoom_76 : decode cd_Mod_haveRoom 76 = .ok (.getfield 62, 3) := by decide +kernel
theorem d_Mod_haveRoom_79 : decode cd_Mod_haveRoom 79 = .ok (.iload 4, 2) := by decide +kernel
theorem d_Mod_haveRoom_81 : decode cd_Mod_haveRoom 81 = .ok (.iaload, 1) := by decide +kernel
theorem d_Mod_haveRoom_82 : decode cd_Mod_haveRoom 82 = .ok (.iaload, 1) := by decide +kernel
theorem d_Mod_haveRoom_83 : decode cd_Mod_haveRoom 83 = .ok (.iconst 1, 1) := by decide +kernel
theorem d_Mod_haveRoom_84 : decode cd_Mod_haveRoom 84 = .ok (.iadd, 1) := by decide +kernel
theorem d_Mod_haveRoom_85 : decode cd_Mod_haveRoom 85 = .ok (.istore 5, 2) := by decide +kernel
theorem d_Mod_haveRoom_87 : decode cd_Mod_haveRoom 87 = .ok (.iload 5, 2) := by decide +kernel
theorem d_Mod_haveRoom_89 : decode cd_Mod_haveRoom 89 = .ok (.iload_n 2, 1) := by decide +kernel
theorem d_Mod_haveRoom_90 : decode cd_Mod_haveRoom 90 = .ok (.if_icmp .le 9, 3) := by decide +kernel
theorem d_Mod_haveRoom_93 : decode cd_Mod_haveRoom 93 = .ok (.iinc 3 (-1), 3) := by decide +kernel
theorem d_Mod_haveRoom_96 : decode cd_Mod_haveRoom 96 = .ok (.bipush 16, 2) := by decide +kernel
theorem d_Mod_haveRoom_98 : decode cd_Mod_haveRoom 98 = .ok (.istore_n 2, 1) := by decide +kernel
theorem d_Mod_haveRoom_99 : decode cd_Mod_haveRoom 99 = .ok (.iload_n 2, 1) := by decide +kernel
theorem d_Mod_haveRoom_100 : decode cd_Mod_haveRoom 100 = .ok (.iload 5, 2) := by decide +kernel
theorem d_Mod_haveRoom_102 : decode cd_Mod_haveRoom 102 = .ok (.isub, 1) := by decide +kernel
theorem d_Mod_haveRoom_103 : decode cd_Mod_haveRoom 103 = .ok (.istore_n 2, 1) := by decide +kernel
theorem d_Mod_haveRoom_104 : decode cd_Mod_haveRoom 104 = .ok (.iinc 4 1, 3) := by decide +kernel
theorem d_Mod_haveRoom_107 : decode cd_Mod_haveRoom 107 = .ok (.goto (-45), 3) := by decide +kernel
theorem d_Mod_haveRoom_110 : decode cd_Mod_haveRoom 110 = .ok (.iload_n 3, 1) := by decide +kernel
theorem d_Mod_haveRoom_111 : decode cd_Mod_haveRoom 111 = .ok (.ifCond .lt 7, 3) := by decide +kernel
theorem d_Mod_haveRoom_114 : decode cd_Mod_haveRoom 114 = .ok (.iconst 1, 1) := by decide +kernel
theorem d_Mod_haveRoom_115 : decode cd_Mod_haveRoom 115 = .ok (.goto 4, 3) := by decide +kernel
theorem d_Mod_haveRoom_118 : decode cd_Mod_haveRoom 118 = .ok (.iconst 0, 1) := by decide +kernel
theorem d_Mod_haveRoom_119 : decode cd_Mod_haveRoom 119 = .ok (.ireturn, 1) := by decide +kernel
set_option maxRecDepth 100000 in
set_option maxHeartbeats 4000000 in
theorem s_Mod_haveRoom_L62 {p : Program} {l : Launch} {e : Env} {s : State} {m : MethodId} {args : Array Value} {below : List Frame} {meth : Method} {c : Code} {V : xV} (C : xC p s m args c cd_Mod_haveRoom 6 R_Mod V) (hlocks : meth.locks = false) (hr : meth.sig.returnType = (some .boolean)) {Q : Int32 → xS → Prop} {K62 : Int32 → Int32 → Int32 → xS → Prop} (hK62 : ∀ (x2 : Int32) (x3 : Int32) (x4 : Int32) (σ : xS) (H : Heap) (locs : List Loc) (ls : Array Slot), K62 x2 x3 x4 σ → xI V s.heap σ H locs → lv_has ls 6 [(0, .ref (V.2.2 31)), (2, .int x2), (3, .int x3), (4, .int x4)] → W p l e rm_Mod_haveRoom s m args below meth c H locs 0 0 (xZi below V args s Q) (F0 m 62 ls [])) {x2 x3 x4 : Int32} {σ : xS} {H : Heap} {locs : List Loc} {ls : Array Slot} (h : b_Mod_haveRoom_L62 K62 Q x2 x3 x4 σ) (hI : xI V s.heap σ H locs) (hl : lv_has ls 6 [(0, .ref (V.2.2 31)), (2, .int x2), (3, .int x3), (4, .int x4)]) : W p l e rm_Mod_haveRoom s m args below meth c H locs 0 0 (xZi below V args s Q) (F0 m 62 ls []) := by
  have hx := C.1
  have hb := C.2.1
  unfold b_Mod_haveRoom_L62 at h
  refine lv_iload hx hb d_Mod_haveRoom_62 (lv_at hl 3 rfl) ?_
  refine lv_aload_n hx hb d_Mod_haveRoom_64 rfl (lv_at hl 0 rfl) ?_
  refine x_get C hI (d := 31) (by decide) (xE31 V _) fd_Mod_161 rfl d_Mod_haveRoom_65 ?_
  refine lv_icmp_ge (tgt := 110) hx hb d_Mod_haveRoom_68 (by decide) (fun c4 => ?_) (fun c4 => ?_)
  · have h := h.1 c4
    refine lv_iload_n hx hb d_Mod_haveRoom_110 rfl (lv_at hl 2 rfl) ?_
    refine lv_if_lt (tgt := 118) hx hb d_Mod_haveRoom_111 (by decide) (fun c5 => ?_) (fun c5 => ?_)
    · have h := h.1 c5
      refine lv_iconst (v := 0) hx hb d_Mod_haveRoom_118 (by decide) ?_
      exact x_zret C hlocks hr hI ⟨rfl, h⟩ d_Mod_haveRoom_119
    · have h := h.2 c5
      refine lv_iconst (v := 1) hx hb d_Mod_haveRoom_114 (by decide) ?_
      refine lv_goto (tgt := 119) hx hb d_Mod_haveRoom_115 (by decide) ?_
      exact x_zret C hlocks hr hI ⟨rfl, h⟩ d_Mod_haveRoom_119
  · have h := h.2 c4
    refine lv_aload_n hx hb d_Mod_haveRoom_71 rfl (lv_at hl 0 rfl) ?_
    refine x_get C hI (d := 31) (by decide) (xE31 V _) fd_Mod_16 rfl d_Mod_haveRoom_72 ?_
    refine lv_aload_n hx hb d_Mod_haveRoom_75 rfl (lv_at hl 0 rfl) ?_
    refine x_get C hI (d := 31) (by decide) (xE31 V _) fd_Mod_62 rfl d_Mod_haveRoom_76 ?_
    refine lv_iload hx hb d_Mod_haveRoom_79 (lv_at hl 3 rfl) ?_
    obtain ⟨i6, h⟩ := h
    refine x_iald C hI (d := 57) (by decide) (xE57 V) i6 d_Mod_haveRoom_81 ?_
    obtain ⟨i7, h⟩ := h
    refine x_iald C hI (d := 42) (by decide) (xE42 V) i7 d_Mod_haveRoom_82 ?_
    refine lv_iconst (v := 1) hx hb d_Mod_haveRoom_83 (by decide) ?_
    refine lv_iadd hx hb d_Mod_haveRoom_84 ?_
    refine lv_topi (fun z8 ez8 => ?_)
    have h := h z8 ez8
    refine lv_istore (lv' := [(5, .int z8), (0, .ref (V.2.2 31)), (2, .int x2), (3, .int x3), (4, .int x4)]) hx hb d_Mod_haveRoom_85 hl (by decide) rfl (fun ls hl => ?_)
    refine lv_iload hx hb d_Mod_haveRoom_87 (lv_at hl 0 rfl) ?_
    refine lv_iload_n hx hb d_Mod_haveRoom_89 rfl (lv_at hl 2 rfl) ?_
    refine lv_icmp_le (tgt := 99) hx hb d_Mod_haveRoom_90 (by decide) (fun c9 => ?_) (fun c9 => ?_)
    · have h := h.1 c9
      refine lv_iload_n hx hb d_Mod_haveRoom_99 rfl (lv_at hl 2 rfl) ?_
      refine lv_iload hx hb d_Mod_haveRoom_100 (lv_at hl 0 rfl) ?_
      refine lv_isub hx hb d_Mod_haveRoom_102 ?_
      refine lv_topi (fun z10 ez10 => ?_)
      have h := h z10 ez10
      refine lv_istore_n (lv' := [(2, .int z10), (5, .int z8), (0, .ref (V.2.2 31)), (3, .int x3), (4, .int x4)]) hx hb d_Mod_haveRoom_103 rfl hl (by decide) rfl (fun ls hl => ?_)
      obtain ⟨z11, ez11⟩ : ∃ y : Int32, y = x4 + 1 := ⟨_, rfl⟩
      have h := h z11 ez11
      refine lv_iinc (v := z11) (lv' := [(4, .int z11), (2, .int z10), (5, .int z8), (0, .ref (V.2.2 31)), (3, .int x3)]) hx hb d_Mod_haveRoom_104 hl (k := 4) rfl (by rw [ez11]; rfl) (by decide) rfl (fun ls hl => ?_)
      refine lv_goto (tgt := 62) hx hb d_Mod_haveRoom_107 (by decide) ?_
      exact hK62 _ _ _ _ _ _ _ h hI (lv_sub hl [3, 1, 4, 0] rfl)
    · have h := h.2 c9
      obtain ⟨z12, ez12⟩ : ∃ y : Int32, y = x3 + (-1) := ⟨_, rfl⟩
      have h := h z12 ez12
      refine lv_iinc (v := z12) (lv' := [(3, .int z12), (5, .int z8), (0, .ref (V.2.2 31)), (2, .int x2), (4, .int x4)]) hx hb d_Mod_haveRoom_93 hl (k := 3) rfl (by rw [ez12]; rfl) (by decide) rfl (fun ls hl => ?_)
      refine lv_bipush (v := 16) hx hb d_Mod_haveRoom_96 (by decide) ?_
      refine lv_istore_n (lv' := [(2, .int 16), (3, .int z12), (5, .int z8), (0, .ref (V.2.2 31)), (4, .int x4)]) hx hb d_Mod_haveRoom_98 rfl hl (by decide) rfl (fun ls hl => ?_)
      refine lv_iload_n hx hb d_Mod_haveRoom_99 rfl (lv_at hl 0 rfl) ?_
      refine lv_iload hx hb d_Mod_haveRoom_100 (lv_at hl 2 rfl) ?_
      refine lv_isub hx hb d_Mod_haveRoom_102 ?_
      refine lv_topi (fun z13 ez13 => ?_)
      have h := h z13 ez13
      refine lv_istore_n (lv' := [(2, .int z13), (3, .int z12), (5, .int z8), (0, .ref (V.2.2 31)), (4, .int x4)]) hx hb d_Mod_haveRoom_103 rfl hl (by decide) rfl (fun ls hl => ?_)
      obtain ⟨z14, ez14⟩ : ∃ y : Int32, y = x4 + 1 := ⟨_, rfl⟩
      have h := h z14 ez14
      refine lv_iinc (v := z14) (lv' := [(4, .int z14), (2, .int z13), (3, .int z12), (5, .int z8), (0, .ref (V.2.2 31))]) hx hb d_Mod_haveRoom_104 hl (k := 4) rfl (by rw [ez14]; rfl) (by decide) rfl (fun ls hl => ?_)
      refine lv_goto (tgt := 62) hx hb d_Mod_haveRoom_107 (by decide) ?_
      exact hK62 _ _ _ _ _ _ _ h hI (lv_sub hl [4, 1, 2, 0] rfl)
theorem w_Mod_haveRoom_L62 {p : Program} {l : Launch} {e : Env} {s : State} {m : MethodId} {args : Array Value} {below : List Frame} {meth : Method} {c : Code} {V : xV} (C : xC p s m args c cd_Mod_haveRoom 6 R_Mod V) (hlocks : meth.locks = false) (hr : meth.sig.returnType = (some .boolean)) {Q : Int32 → xS → Prop} : ∀ (n : Nat) (x2 : Int32) (x3 : Int32) (x4 : Int32) (σ : xS) (H : Heap) (locs : List Loc) (ls : Array Slot), p_Mod_haveRoom_L62 Q n x2 x3 x4 σ → xI V s.heap σ H locs → lv_has ls 6 [(0, .ref (V.2.2 31)), (2, .int x2), (3, .int x3), (4, .int x4)] → W p l e rm_Mod_haveRoom s m args below meth c H locs 0 0 (xZi below V args s Q) (F0 m 62 ls []) := by
  intro n
  induction n with
  | zero =>
    intro x2 x3 x4 σ H locs ls h
    exact False.elim h
  | succ n ih =>
    intro x2 x3 x4 σ H locs ls h hI hl
    exact s_Mod_haveRoom_L62 C hlocks hr (K62 := p_Mod_haveRoom_L62 Q n) (fun x2 x3 x4 σ H locs ls h hI hl => ih x2 x3 x4 σ H locs ls h hI hl) h hI hl
set_option maxRecDepth 100000 in
set_option maxHeartbeats 4000000 in
theorem s_Mod_haveRoom_L28 {p : Program} {l : Launch} {e : Env} {s : State} {m : MethodId} {args : Array Value} {below : List Frame} {meth : Method} {c : Code} {V : xV} (C : xC p s m args c cd_Mod_haveRoom 6 R_Mod V) (hlocks : meth.locks = false) (hr : meth.sig.returnType = (some .boolean)) {Q : Int32 → xS → Prop} {K28 : Int32 → Int32 → Int32 → xS → Prop} (hK28 : ∀ (x2 : Int32) (x3 : Int32) (x4 : Int32) (σ : xS) (H : Heap) (locs : List Loc) (ls : Array Slot), K28 x2 x3 x4 σ → xI V s.heap σ H locs → lv_has ls 6 [(0, .ref (V.2.2 31)), (2, .int x2), (3, .int x3), (4, .int x4)] → W p l e rm_Mod_haveRoom s m args below meth c H locs 0 0 (xZi below V args s Q) (F0 m 28 ls [])) {x2 x3 x4 : Int32} {σ : xS} {H : Heap} {locs : List Loc} {ls : Array Slot} (h : b_Mod_haveRoom_L28 K28 Q x2 x3 x4 σ) (hI : xI V s.heap σ H locs) (hl : lv_has ls 6 [(0, .ref (V.2.2 31)), (2, .int x2), (3, .int x3), (4, .int x4)]) : W p l e rm_Mod_haveRoom s m args below meth c H locs 0 0 (xZi below V args s Q) (F0 m 28 ls []) := by
  have hx := C.1
  have hb := C.2.1
  unfold b_Mod_haveRoom_L28 at h
  refine lv_iload hx hb d_Mod_haveRoom_28 (lv_at hl 3 rfl) ?_
  refine lv_bipush (v := 40) hx hb d_Mod_haveRoom_30 (by decide) ?_
  refine lv_icmp_ge (tgt := 59) hx hb d_Mod_haveRoom_32 (by decide) (fun c3 => ?_) (fun c3 => ?_)
  · have h := h.1 c3
    refine lv_iconst (v := 0) hx hb d_Mod_haveRoom_59 (by decide) ?_
    refine lv_istore (lv' := [(4, .int 0), (0, .ref (V.2.2 31)), (2, .int x2), (3, .int x3)]) hx hb d_Mod_haveRoom_60 hl (by decide) rfl (fun ls hl => ?_)
    obtain ⟨n, h⟩ := h
    exact w_Mod_haveRoom_L62 C hlocks hr n _ _ _ _ _ _ _ h hI (lv_sub hl [1, 2, 3, 0] rfl)
  · have h := h.2 c3
    refine lv_iload_n hx hb d_Mod_haveRoom_35 rfl (lv_at hl 2 rfl) ?_
    refine lv_aload_n hx hb d_Mod_haveRoom_36 rfl (lv_at hl 0 rfl) ?_
    refine x_get C hI (d := 31) (by decide) (xE31 V _) fd_Mod_41 rfl d_Mod_haveRoom_37 ?_
    refine lv_iload hx hb d_Mod_haveRoom_40 (lv_at hl 3 rfl) ?_
    obtain ⟨i15, h⟩ := h
    refine x_zald C hI (d := 50) (by decide) (xE50 V) i15 d_Mod_haveRoom_42 ?_
    refine lv_if_eq (tgt := 50) hx hb d_Mod_haveRoom_43 (by decide) (fun c16 => ?_) (fun c16 => ?_)
    · have h := h.1 c16
      refine lv_iconst (v := 1) hx hb d_Mod_haveRoom_50 (by decide) ?_
      refine lv_iadd hx hb d_Mod_haveRoom_51 ?_
      refine lv_topi (fun z17 ez17 => ?_)
      have h := h z17 ez17
      refine lv_istore_n (lv' := [(3, .int z17), (0, .ref (V.2.2 31)), (2, .int x2), (4, .int x4)]) hx hb d_Mod_haveRoom_52 rfl hl (by decide) rfl (fun ls hl => ?_)
      obtain ⟨z18, ez18⟩ : ∃ y : Int32, y = x4 + 1 := ⟨_, rfl⟩
      have h := h z18 ez18
      refine lv_iinc (v := z18) (lv' := [(4, .int z18), (3, .int z17), (0, .ref (V.2.2 31)), (2, .int x2)]) hx hb d_Mod_haveRoom_53 hl (k := 3) rfl (by rw [ez18]; rfl) (by decide) rfl (fun ls hl => ?_)
      refine lv_goto (tgt := 28) hx hb d_Mod_haveRoom_56 (by decide) ?_
      exact hK28 _ _ _ _ _ _ _ h hI (lv_sub hl [2, 3, 1, 0] rfl)
    · have h := h.2 c16
      refine lv_iconst (v := 0) hx hb d_Mod_haveRoom_46 (by decide) ?_
      refine lv_goto (tgt := 51) hx hb d_Mod_haveRoom_47 (by decide) ?_
      refine lv_iadd hx hb d_Mod_haveRoom_51 ?_
      refine lv_topi (fun z19 ez19 => ?_)
      have h := h z19 ez19
      refine lv_istore_n (lv' := [(3, .int z19), (0, .ref (V.2.2 31)), (2, .int x2), (4, .int x4)]) hx hb d_Mod_haveRoom_52 rfl hl (by decide) rfl (fun ls hl => ?_)
      obtain ⟨z20, ez20⟩ : ∃ y : Int32, y = x4 + 1 := ⟨_, rfl⟩
      have h := h z20 ez20
      refine lv_iinc (v := z20) (lv' := [(4, .int z20), (3, .int z19), (0, .ref (V.2.2 31)), (2, .int x2)]) hx hb d_Mod_haveRoom_53 hl (k := 3) rfl (by rw [ez20]; rfl) (by decide) rfl (fun ls hl => ?_)
      refine lv_goto (tgt := 28) hx hb d_Mod_haveRoom_56 (by decide) ?_
      exact hK28 _ _ _ _ _ _ _ h hI (lv_sub hl [2, 3, 1, 0] rfl)
theorem w_Mod_haveRoom_L28 {p : Program} {l : Launch} {e : Env} {s : State} {m : MethodId} {args : Array Value} {below : List Frame} {meth : Method} {c : Code} {V : xV} (C : xC p s m args c cd_Mod_haveRoom 6 R_Mod V) (hlocks : meth.locks = false) (hr : meth.sig.returnType = (some .boolean)) {Q : Int32 → xS → Prop} : ∀ (n : Nat) (x2 : Int32) (x3 : Int32) (x4 : Int32) (σ : xS) (H : Heap) (locs : List Loc) (ls : Array Slot), p_Mod_haveRoom_L28 Q n x2 x3 x4 σ → xI V s.heap σ H locs → lv_has ls 6 [(0, .ref (V.2.2 31)), (2, .int x2), (3, .int x3), (4, .int x4)] → W p l e rm_Mod_haveRoom s m args below meth c H locs 0 0 (xZi below V args s Q) (F0 m 28 ls []) := by
  intro n
  induction n with
  | zero =>
    intro x2 x3 x4 σ H locs ls h
    exact False.elim h
  | succ n ih =>
    intro x2 x3 x4 σ H locs ls h hI hl
    exact s_Mod_haveRoom_L28 C hlocks hr (K28 := p_Mod_haveRoom_L28 Q n) (fun x2 x3 x4 σ H locs ls h hI hl => ih x2 x3 x4 σ H locs ls h hI hl) h hI hl
set_option maxRecDepth 100000 in
set_option maxHeartbeats 4000000 in
theorem c_Mod_haveRoom {l : Launch} {V : xV} {σ : xS} {x1 : Int32} {Q : Int32 → xS → Prop} (h : p_Mod_haveRoom x1 σ Q) : xMi l y_Mod_haveRoom (.code y_Mod_haveRoom cd_Mod_haveRoom 6 (some .boolean) :: xG) rm_Mod_haveRoom V [.ref (V.2.2 31), .int x1] σ Q := by
  refine x_begini (by decide) (Nat.le_of_ble_eq_true rfl) (fun p e s m below meth c ls C hlocks hr hI hl => ?_)
  have C : xC p s m _ c cd_Mod_haveRoom 6 R_Mod V := C
  have hx := C.1
  have hb := C.2.1
  have hl : lv_has ls 6 [(0, .ref (V.2.2 31)), (1, .int x1)] := hl
  unfold p_Mod_haveRoom at h
  refine lv_aload_n hx hb d_Mod_haveRoom_0 rfl (lv_at hl 0 rfl) ?_
  refine x_get C hI (d := 31) (by decide) (xE31 V _) fd_Mod_44 rfl d_Mod_haveRoom_1 ?_
  refine lv_iload_n hx hb d_Mod_haveRoom_4 rfl (lv_at hl 1 rfl) ?_
  obtain ⟨i1, h⟩ := h
  refine x_iald C hI (d := 51) (by decide) (xE51 V) i1 d_Mod_haveRoom_5 ?_
  refine lv_if_le (tgt := 21) hx hb d_Mod_haveRoom_6 (by decide) (fun c2 => ?_) (fun c2 => ?_)
  · have h := h.1 c2
    refine lv_iconst (v := 0) hx hb d_Mod_haveRoom_21 (by decide) ?_
    refine lv_istore_n (lv' := [(2, .int 0), (0, .ref (V.2.2 31)), (1, .int x1)]) hx hb d_Mod_haveRoom_22 rfl hl (by decide) rfl (fun ls hl => ?_)
    refine lv_iconst (v := 0) hx hb d_Mod_haveRoom_23 (by decide) ?_
    refine lv_istore_n (lv' := [(3, .int 0), (2, .int 0), (0, .ref (V.2.2 31)), (1, .int x1)]) hx hb d_Mod_haveRoom_24 rfl hl (by decide) rfl (fun ls hl => ?_)
    refine lv_iconst (v := 0) hx hb d_Mod_haveRoom_25 (by decide) ?_
    refine lv_istore (lv' := [(4, .int 0), (3, .int 0), (2, .int 0), (0, .ref (V.2.2 31)), (1, .int x1)]) hx hb d_Mod_haveRoom_26 hl (by decide) rfl (fun ls hl => ?_)
    obtain ⟨n, h⟩ := h
    exact w_Mod_haveRoom_L28 C hlocks hr n _ _ _ _ _ _ _ h hI (lv_sub hl [3, 2, 1, 0] rfl)
  · have h := h.2 c2
    refine lv_bipush (v := 16) hx hb d_Mod_haveRoom_9 (by decide) ?_
    refine lv_aload_n hx hb d_Mod_haveRoom_11 rfl (lv_at hl 0 rfl) ?_
    refine x_get C hI (d := 31) (by decide) (xE31 V _) fd_Mod_50 rfl d_Mod_haveRoom_12 ?_
    refine lv_iload_n hx hb d_Mod_haveRoom_15 rfl (lv_at hl 1 rfl) ?_
    obtain ⟨i21, h⟩ := h
    refine x_iald C hI (d := 53) (by decide) (xE53 V) i21 d_Mod_haveRoom_16 ?_
    refine lv_isub hx hb d_Mod_haveRoom_17 ?_
    refine lv_goto (tgt := 22) hx hb d_Mod_haveRoom_18 (by decide) ?_
    refine lv_topi (fun z22 ez22 => ?_)
    have h := h z22 ez22
    refine lv_istore_n (lv' := [(2, .int z22), (0, .ref (V.2.2 31)), (1, .int x1)]) hx hb d_Mod_haveRoom_22 rfl hl (by decide) rfl (fun ls hl => ?_)
    refine lv_iconst (v := 0) hx hb d_Mod_haveRoom_23 (by decide) ?_
    refine lv_istore_n (lv' := [(3, .int 0), (2, .int z22), (0, .ref (V.2.2 31)), (1, .int x1)]) hx hb d_Mod_haveRoom_24 rfl hl (by decide) rfl (fun ls hl => ?_)
    refine lv_iconst (v := 0) hx hb d_Mod_haveRoom_25 (by decide) ?_
    refine lv_istore (lv' := [(4, .int 0), (3, .int 0), (2, .int z22), (0, .ref (V.2.2 31)), (1, .int x1)]) hx hb d_Mod_haveRoom_26 hl (by decide) rfl (fun ls hl => ?_)
    obtain ⟨n, h⟩ := h
    exact w_Mod_haveRoom_L28 C hlocks hr n _ _ _ _ _ _ _ h hI (lv_sub hl [3, 2, 1, 0] rfl)
theorem yw_Mod_haveRoom : xY y_Mod_haveRoom cd_Mod_haveRoom 6 (some .boolean) 1 := ⟨xG_mem 1211 (by decide +kernel) (by decide +kernel), xG_mem 51 (by decide +kernel) (by decide +kernel), xG_mem 65 (by decide +kernel) (by decide +kernel), xG_mem 1212 (by decide +kernel) (by decide +kernel), by decide, by decide, by decide +kernel⟩
theorem ml_Mod_171 : Cond.methodLink R_Mod 171 y_Mod_haveRoom ∈ xG := xG_mem 1209 (by decide +kernel) (by decide +kernel)
theorem fd_Mod_174 : xFd R_Mod 174 10 24 := ⟨R_Mod, T_Mod, 32, rfl, in_Mod, by decide, xG_mem 1008 (by decide +kernel) (by decide +kernel)⟩
theorem fw_Mod_174 : xFw R_Mod 174 10 24 := ⟨R_Mod, T_Mod, 32, t_Mod, rfl, in_Mod, by decide, xG_mem 1008 (by decide +kernel) (by decide +kernel), tk_Mod, nm_Mod, rfl, by decide +kernel⟩
theorem xP_31_24 (V : xV) (f : Nat → Int32) (x : Int32) : xE V 31 (upd f 24 x) = .inr (10, [.int (f 0), .ref (V.2.2 40), .ref (V.2.2 41), .ref (V.2.2 42), .ref (V.2.2 43), .ref (V.2.2 44), .ref (V.2.2 45), .ref (V.2.2 46), .ref (V.2.2 47), .ref (V.2.2 48), .int (f 10), .ref (V.2.2 49), .ref (V.2.2 50), .int (f 13), .ref (V.2.2 51), .ref (V.2.2 52), .ref (V.2.2 53), .ref (V.2.2 54), .ref (V.2.2 55), .int (f 19), .ref (V.2.2 56), .int (f 21), .int (f 22), .int (f 23), .int (f 24), .int (f 25), .int (f 26), .ref (V.2.2 57), .ref (V.2.2 58), .ref (V.2.2 59), .ref (V.2.2 60), .int (f 31)].set 24 (.int x)) := rfl
def b_Mod_lift_L36 (K36 : Int32 → Int32 → xS → Prop) (Q : Int32 → xS → Prop) (x2 x3 : Int32) (σ : xS) : Prop :=
  (((σ 31 26) ≤ x3 → Q ((xu σ 31 24 ((σ 31 24) + (σ 31 26))) 31 26) (xu σ 31 24 ((σ 31 24) + (σ 31 26)))) ∧ (¬ (σ 31 26) ≤ x3 → (vp_in x3 640 ∧ (∀ z14 : Int32, z14 = (σ 57 x3.toNatClampNeg) → (vp_in z14 640 ∧ (vp_in (σ 44 z14.toNatClampNeg) 640 ∧ (vp_in z14 640 ∧ p_Mod_take x2 (((xu σ 49 (σ 44 z14.toNatClampNeg).toNatClampNeg (-1)) 42 z14.toNatClampNeg) + 1) (xu σ 49 (σ 44 z14.toNatClampNeg).toNatClampNeg (-1)) (fun r19 σ18 => (vp_in z14 640 ∧ (vp_in z14 640 ∧ (vp_in ((xu σ18 44 z14.toNatClampNeg r19) 44 z14.toNatClampNeg) 640 ∧ (vp_in z14 640 ∧ (∀ z24 : Int32, z24 = x3 + 1 → K36 x2 z24 (xu (xu (xu σ18 44 z14.toNatClampNeg r19) 49 ((xu σ18 44 z14.toNatClampNeg r19) 44 z14.toNatClampNeg).toNatClampNeg z14) 43 z14.toNatClampNeg x2))))))))))))))
def p_Mod_lift_L36 (Q : Int32 → xS → Prop) (n : Nat) : Int32 → Int32 → xS → Prop := Nat.rec (motive := fun _ => Int32 → Int32 → xS → Prop) (fun _ _ _ => False) (fun _ K x2 x3 σ => b_Mod_lift_L36 K Q x2 x3 σ) n
def p_Mod_lift (x1 x2 : Int32) (σ : xS) (Q : Int32 → xS → Prop) : Prop :=
  p_Mod_isRoot x1 σ (fun r2 σ1 => p_Mod_isRegion x2 σ1 (fun r4 σ3 => p_Mod_goes r2 r4 σ3 (fun r6 σ5 => ((¬ r6 = 0 → p_Mod_findParts x1 x2 σ5 (fun σ8 => p_Mod_haveRoom x2 σ8 (fun r10 σ9 => ((¬ r10 = 0 → (∃ n, p_Mod_lift_L36 Q n x2 0 σ9)) ∧ (r10 = 0 → Q (-1) σ9))))) ∧ (r6 = 0 → Q 0 σ5)))))
abbrev rm_Mod_lift : Room := { frames := 3, cells := 0, slots := 0, locals := 70 }
theorem d_Mod_lift_0 : decode cd_Mod_lift 0 = .ok (.aload_n 0, 1) := by decide +kernel
theorem d_Mod_lift_1 : decode cd_Mod_lift 1 = .ok (.iload_n 1, 1) := by decide +kernel
theorem d_Mod_lift_2 : decode cd_Mod_lift 2 = .ok (.invokestatic 151, 3) := by decide +kernel
theorem d_Mod_lift_5 : decode cd_Mod_lift 5 = .ok (.aload_n 0, 1) := by decide +kernel
theorem d_Mod_lift_6 : decode cd_Mod_lift 6 = .ok (.iload_n 2, 1) := by decide +kernel
theorem d_Mod_lift_7 : decode cd_Mod_lift 7 = .ok (.invokevirtual 140, 3) := by decide +kernel
theorem d_Mod_lift_10 : decode cd_Mod_lift 10 = .ok (.invokevirtual 144, 3) := by decide +kernel
theorem d_Mod_lift_13 : decode cd_Mod_lift 13 = .ok (.ifCond .ne 5, 3) := by decide +kernel
theorem d_Mod_lift_16 : decode cd_Mod_lift 16 = .ok (.iconst 0, 1) := by decide +kernel
theorem d_Mod_lift_17 : decode cd_Mod_lift 17 = .ok (.ireturn, 1) := by decide +kernel
theorem d_Mod_lift_18 : decode cd_Mod_lift 18 = .ok (.aload_n 0, 1) := by decide +kernel
theorem d_Mod_lift_19 : decode cd_Mod_lift 19 = .ok (.iload_n 1, 1) := by decide +kernel
theorem d_Mod_lift_20 : decode cd_Mod_lift 20 = .ok (.iload_n 2, 1) := by decide +kernel
theorem d_Mod_lift_21 : decode cd_Mod_lift 21 = .ok (.invokevirtual 168, 3) := by decide +kernel
theorem d_Mod_lift_24 : decode cd_Mod_lift 24 = .ok (.aload_n 0, 1) := by decide +kernel
theorem d_Mod_lift_25 : decode cd_Mod_lift 25 = .ok (.iload_n 2, 1) := by decide +kernel
theorem d_Mod_lift_26 : decode cd_Mod_lift 26 = .ok (.invokevirtual 171, 3) := by decide +kernel
theorem d_Mod_lift_29 : decode cd_Mod_lift 29 = .ok (.ifCond .ne 5, 3) := by decide +kernel
theorem d_Mod_lift_32 : decode cd_Mod_lift 32 = .ok (.iconst (-1), 1) := by decide +kernel
theorem d_Mod_lift_33 : decode cd_Mod_lift 33 = .ok (.ireturn, 1) := by decide +kernel
theorem d_Mod_lift_34 : decode cd_Mod_lift 34 = .ok (.iconst 0, 1) := by decide +kernel
theorem d_Mod_lift_35 : decode cd_Mod_lift 35 = .ok (.istore_n 3, 1) := by decide +kernel
theorem d_Mod_lift_36 : decode cd_Mod_lift 36 = .ok (.iload_n 3, 1) := by decide +kernel
theorem d_Mod_lift_37 : decode cd_Mod_lift 37 = .ok (.aload_n 0, 1) := by decide +kernel
theorem d_Mod_lift_38 : decode cd_Mod_lift 38 = .ok (.getfield 161, 3) := by decide +kernel
theorem d_Mod_lift_41 : decode cd_Mod_lift 41 = .ok (.if_icmp .ge 73, 3) := by decide +kernel
theorem d_Mod_lift_44 : decode cd_Mod_lift 44 = .ok (.aload_n 0, 1) := by decide +kernel
theorem d_Mod_lift_45 : decode cd_Mod_lift 45 = .ok (.getfield 62, 3) := by decide +kernel
theorem d_Mod_lift_48 : decode cd_Mod_lift 48 = .ok (.iload_n 3, 1) := by decide +kernel
theorem d_Mod_lift_49 : decode cd_Mod_lift 49 = .ok (.iaload, 1) := by decide +kernel
theorem d_Mod_lift_50 : decode cd_Mod_lift 50 = .ok (.istore 4, 2) := by decide +kernel
theorem d_Mod_lift_52 : decode cd_Mod_lift 52 = .ok (.aload_n 0, 1) := by decide +kernel
theorem d_Mod_lift_53 : decode cd_Mod_lift 53 = .ok (.getfield 38, 3) := by decide +kernel
theorem d_Mod_lift_56 : decode cd_Mod_lift 56 = .ok (.aload_n 0, 1) := by decide +kernel
theorem d_Mod_lift_57 : decode cd_Mod_lift 57 = .ok (.getfield 22, 3) := by decide +kernel
theorem d_Mod_lift_60 : decode cd_Mod_lift 60 = .ok (.iload 4, 2) := by decide +kernel
theorem d_Mod_lift_62 : decode cd_Mod_lift 62 = .ok (.iaload, 1) := by decide +kernel
theorem d_Mod_lift_63 : decode cd_Mod_lift 63 = .ok (.iconst (-1), 1) := by decide +kernel
theorem d_Mod_lift_64 : decode cd_Mod_lift 64 = .ok (.iastore, 1) := by decide +kernel
theorem d_Mod_lift_65 : decode cd_Mod_lift 65 = .ok (.aload_n 0, 1) := by decide +kernel
theorem d_Mod_lift_66 : decode cd_Mod_lift 66 = .ok (.getfield 22, 3) := by decide +kernel
theorem d_Mod_lift_69 : decode cd_Mod_lift 69 = .ok (.iload 4, 2) := by decide +kernel
theorem d_Mod_lift_71 : decode cd_Mod_lift 71 = .ok (.aload_n 0, 1) := by decide +kernel
theorem d_Mod_lift_72 : decode cd_Mod_lift 72 = .ok (.iload_n 2, 1) := by decide +kernel
theorem d_Mod_lift_73 : decode cd_Mod_lift 73 = .ok (.aload_n 0, 1) := by decide +kernel
theorem d_Mod_lift_74 : decode cd_Mod_lift 74 = .ok (.getfield 16, 3) := by decide +kernel
theorem d_Mod_lift_77 : decode cd_Mod_lift 77 = .ok (.iload 4, 2) := by decide +kernel
theorem d_Mod_lift_79 : decode cd_Mod_lift 79 = .ok (.iaload, 1) := by decide +kernel
theorem d_Mod_lift_80 : decode cd_Mod_lift 80 = .ok (.iconst 1, 1) := by decide +kernel
theorem d_Mod_lift_81 : decode cd_Mod_lift 81 = .ok (.iadd, 1) := by decide +kernel
theorem d_Mod_lift_82 : decode cd_Mod_lift 82 = .ok (.invokevirtual 94, 3) := by decide +kernel
theorem d_Mod_lift_85 : decode cd_Mod_lift 85 = .ok (.iastore, 1) := by decide +kernel
theorem d_Mod_lift_86 : decode cd_Mod_lift 86 = .ok (.aload_n 0, 1) := by decide +kernel
theorem d_Mod_lift_87 : decode cd_Mod_lift 87 = .ok (.getfield 38, 3) := by decide +kernel
theorem d_Mod_lift_90 : decode cd_Mod_lift 90 = .ok (.aload_n 0, 1) := by decide +kernel
theorem d_Mod_lift_91 : decode cd_Mod_lift 91 = .ok (.getfield 22, 3) := by decide +kernel
theorem d_Mod_lift_94 : decode cd_Mod_lift 94 = .ok (.iload 4, 2) := by decide +kernel
theorem d_Mod_lift_96 : decode cd_Mod_lift 96 = .ok (.iaload, 1) := by decide +kernel
theorem d_Mod_lift_97 : decode cd_Mod_lift 97 = .ok (.iload 4, 2) := by decide +kernel
theorem d_Mod_lift_99 : decode cd_Mod_lift 99 = .ok (.iastore, 1) := by decide +kernel
theorem d_Mod_lift_100 : decode cd_Mod_lift 100 = .ok (.aload_n 0, 1) := by decide +kernel
theorem d_Mod_lift_101 : decode cd_Mod_lift 101 = .ok (.getfield 19, 3) := by decide +kernel
theorem d_Mod_lift_104 : decode cd_Mod_lift 104 = .ok (.iload 4, 2) := by decide +kernel
theorem d_Mod_lift_106 : decode cd_Mod_lift 106 = .ok (.iload_n 2, 1) := by decide +kernel
theorem d_Mod_lift_107 : decode cd_Mod_lift 107 = .ok (.iastore, 1) := by decide +kernel
theorem d_Mod_lift_108 : decode cd_Mod_lift 108 = .ok (.iinc 3 1, 3) := by decide +kernel
theorem d_Mod_lift_111 : decode cd_Mod_lift 111 = .ok (.goto (-75), 3) := by decide +kernel
theorem d_Mod_lift_114 : decode cd_Mod_lift 114 = .ok (.aload_n 0, 1) := by decide +kernel
theorem d_Mod_lift_115 : decode cd_Mod_lift 115 = .ok (.dup, 1) := by decide +kernel
theorem d_Mod_lift_116 : decode cd_Mod_lift 116 = .ok (.getfield 174, 3) := by decide +kernel
theorem d_Mod_lift_119 : decode cd_Mod_lift 119 = .ok (.aload_n 0, 1) := by decide +kernel
theorem d_Mod_lift_120 : decode cd_Mod_lift 120 = .ok (.getfield 161, 3) := by decide +kernel
theorem d_Mod_lift_123 : decode cd_Mod_lift 123 = .ok (.iadd, 1) := by decide +kernel
theorem d_Mod_lift_124 : decode cd_Mod_lift 124 = .ok (.putfield 174, 3) := by decide +kernel
theorem d_Mod_lift_127 : decode cd_Mod_lift 127 = .ok (.aload_n 0, 1) := by decide +kernel
theorem d_Mod_lift_128 : decode cd_Mod_lift 128 = .ok (.getfield 161, 3) := by decide +kernel
theorem d_Mod_lift_131 : decode cd_Mod_lift 131 = .ok (.ireturn, 1) := by decide +kernel
set_option maxRecDepth 100000 in
set_option maxHeartbeats 4000000 in
theorem s_Mod_lift_L36 {p : Program} {l : Launch} {e : Env} {s : State} {m : MethodId} {args : Array Value} {below : List Frame} {meth : Method} {c : Code} {V : xV} (C : xC p s m args c cd_Mod_lift 5 R_Mod V) (hlocks : meth.locks = false) (hr : meth.sig.returnType = (some .int)) {Q : Int32 → xS → Prop} {K36 : Int32 → Int32 → xS → Prop} (hK36 : ∀ (x2 : Int32) (x3 : Int32) (σ : xS) (H : Heap) (locs : List Loc) (ls : Array Slot), K36 x2 x3 σ → xI V s.heap σ H locs → lv_has ls 5 [(0, .ref (V.2.2 31)), (2, .int x2), (3, .int x3)] → W p l e rm_Mod_lift s m args below meth c H locs 0 0 (xZi below V args s Q) (F0 m 36 ls [])) {x2 x3 : Int32} {σ : xS} {H : Heap} {locs : List Loc} {ls : Array Slot} (h : b_Mod_lift_L36 K36 Q x2 x3 σ) (hI : xI V s.heap σ H locs) (hl : lv_has ls 5 [(0, .ref (V.2.2 31)), (2, .int x2), (3, .int x3)]) : W p l e rm_Mod_lift s m args below meth c H locs 0 0 (xZi below V args s Q) (F0 m 36 ls []) := by
  have hx := C.1
  have hb := C.2.1
  unfold b_Mod_lift_L36 at h
  refine lv_iload_n hx hb d_Mod_lift_36 rfl (lv_at hl 2 rfl) ?_
  refine lv_aload_n hx hb d_Mod_lift_37 rfl (lv_at hl 0 rfl) ?_
  refine x_get C hI (d := 31) (by decide) (xE31 V _) fd_Mod_161 rfl d_Mod_lift_38 ?_
  refine lv_icmp_ge (tgt := 114) hx hb d_Mod_lift_41 (by decide) (fun c12 => ?_) (fun c12 => ?_)
  · have h := h.1 c12
    refine lv_aload_n hx hb d_Mod_lift_114 rfl (lv_at hl 0 rfl) ?_
    refine lv_dup hx hb d_Mod_lift_115 rfl ?_
    refine x_get C hI (d := 31) (by decide) (xE31 V _) fd_Mod_174 rfl d_Mod_lift_116 ?_
    refine lv_aload_n hx hb d_Mod_lift_119 rfl (lv_at hl 0 rfl) ?_
    refine x_get C hI (d := 31) (by decide) (xE31 V _) fd_Mod_161 rfl d_Mod_lift_120 ?_
    refine lv_iadd hx hb d_Mod_lift_123 ?_
    refine x_put C hI (d := 31) (by decide) (xE31 V _) (xP_31_24 V _ _) fw_Mod_174 (Nat.le_of_ble_eq_true rfl) d_Mod_lift_124 (fun H locs hI => ?_)
    refine lv_aload_n hx hb d_Mod_lift_127 rfl (lv_at hl 0 rfl) ?_
    refine x_get C hI (d := 31) (by decide) (xE31 V _) fd_Mod_161 rfl d_Mod_lift_128 ?_
    exact x_iret C hlocks hr hI h d_Mod_lift_131
  · have h := h.2 c12
    refine lv_aload_n hx hb d_Mod_lift_44 rfl (lv_at hl 0 rfl) ?_
    refine x_get C hI (d := 31) (by decide) (xE31 V _) fd_Mod_62 rfl d_Mod_lift_45 ?_
    refine lv_iload_n hx hb d_Mod_lift_48 rfl (lv_at hl 2 rfl) ?_
    obtain ⟨i13, h⟩ := h
    refine x_iald C hI (d := 57) (by decide) (xE57 V) i13 d_Mod_lift_49 ?_
    refine lv_topi (fun z14 ez14 => ?_)
    have h := h z14 ez14
    refine lv_istore (lv' := [(4, .int z14), (0, .ref (V.2.2 31)), (2, .int x2), (3, .int x3)]) hx hb d_Mod_lift_50 hl (by decide) rfl (fun ls hl => ?_)
    refine lv_aload_n hx hb d_Mod_lift_52 rfl (lv_at hl 1 rfl) ?_
    refine x_get C hI (d := 31) (by decide) (xE31 V _) fd_Mod_38 rfl d_Mod_lift_53 ?_
    refine lv_aload_n hx hb d_Mod_lift_56 rfl (lv_at hl 1 rfl) ?_
    refine x_get C hI (d := 31) (by decide) (xE31 V _) fd_Mod_22 rfl d_Mod_lift_57 ?_
    refine lv_iload hx hb d_Mod_lift_60 (lv_at hl 0 rfl) ?_
    obtain ⟨i15, h⟩ := h
    refine x_iald C hI (d := 44) (by decide) (xE44 V) i15 d_Mod_lift_62 ?_
    refine lv_iconst (v := (-1)) hx hb d_Mod_lift_63 (by decide) ?_
    obtain ⟨i16, h⟩ := h
    refine x_iast C hI (d := 49) (by decide) (xE49 V) i16 d_Mod_lift_64 (fun H locs hI => ?_)
    refine lv_aload_n hx hb d_Mod_lift_65 rfl (lv_at hl 1 rfl) ?_
    refine x_get C hI (d := 31) (by decide) (xE31 V _) fd_Mod_22 rfl d_Mod_lift_66 ?_
    refine lv_iload hx hb d_Mod_lift_69 (lv_at hl 0 rfl) ?_
    refine lv_aload_n hx hb d_Mod_lift_71 rfl (lv_at hl 1 rfl) ?_
    refine lv_iload_n hx hb d_Mod_lift_72 rfl (lv_at hl 2 rfl) ?_
    refine lv_aload_n hx hb d_Mod_lift_73 rfl (lv_at hl 1 rfl) ?_
    refine x_get C hI (d := 31) (by decide) (xE31 V _) fd_Mod_16 rfl d_Mod_lift_74 ?_
    refine lv_iload hx hb d_Mod_lift_77 (lv_at hl 0 rfl) ?_
    obtain ⟨i17, h⟩ := h
    refine x_iald C hI (d := 42) (by decide) (xE42 V) i17 d_Mod_lift_79 ?_
    refine lv_iconst (v := 1) hx hb d_Mod_lift_80 (by decide) ?_
    refine lv_iadd hx hb d_Mod_lift_81 ?_
    refine x_calli C hI hl.1 (d := 31) (As := [.int x2, .int (((xu σ 49 (σ 44 z14.toNatClampNeg).toNatClampNeg (-1)) 42 z14.toNatClampNeg) + 1)]) (rest := [.int z14, .ref (V.2.2 44)]) (by decide) (c_Mod_take h) (xE31 V _) rfl yw_Mod_take ml_Mod_94 rfl rfl ⟨Nat.le_of_ble_eq_true rfl, Nat.le_of_ble_eq_true rfl⟩ rfl rfl (Nat.le_of_ble_eq_true rfl) d_Mod_lift_82 ⟨Nat.zero_le _, Nat.zero_le _⟩ (fun r19 σ18 H locs h hI => ?_)
    obtain ⟨i20, h⟩ := h
    refine x_iast C hI (d := 44) (by decide) (xE44 V) i20 d_Mod_lift_85 (fun H locs hI => ?_)
    refine lv_aload_n hx hb d_Mod_lift_86 rfl (lv_at hl 1 rfl) ?_
    refine x_get C hI (d := 31) (by decide) (xE31 V _) fd_Mod_38 rfl d_Mod_lift_87 ?_
    refine lv_aload_n hx hb d_Mod_lift_90 rfl (lv_at hl 1 rfl) ?_
    refine x_get C hI (d := 31) (by decide) (xE31 V _) fd_Mod_22 rfl d_Mod_lift_91 ?_
    refine lv_iload hx hb d_Mod_lift_94 (lv_at hl 0 rfl) ?_
    obtain ⟨i21, h⟩ := h
    refine x_iald C hI (d := 44) (by decide) (xE44 V) i21 d_Mod_lift_96 ?_
    refine lv_iload hx hb d_Mod_lift_97 (lv_at hl 0 rfl) ?_
    obtain ⟨i22, h⟩ := h
    refine x_iast C hI (d := 49) (by decide) (xE49 V) i22 d_Mod_lift_99 (fun H locs hI => ?_)
    refine lv_aload_n hx hb d_Mod_lift_100 rfl (lv_at hl 1 rfl) ?_
    refine x_get C hI (d := 31) (by decide) (xE31 V _) fd_Mod_19 rfl d_Mod_lift_101 ?_
    refine lv_iload hx hb d_Mod_lift_104 (lv_at hl 0 rfl) ?_
    refine lv_iload_n hx hb d_Mod_lift_106 rfl (lv_at hl 2 rfl) ?_
    obtain ⟨i23, h⟩ := h
    refine x_iast C hI (d := 43) (by decide) (xE43 V) i23 d_Mod_lift_107 (fun H locs hI => ?_)
    obtain ⟨z24, ez24⟩ : ∃ y : Int32, y = x3 + 1 := ⟨_, rfl⟩
    have h := h z24 ez24
    refine lv_iinc (v := z24) (lv' := [(3, .int z24), (4, .int z14), (0, .ref (V.2.2 31)), (2, .int x2)]) hx hb d_Mod_lift_108 hl (k := 3) rfl (by rw [ez24]; rfl) (by decide) rfl (fun ls hl => ?_)
    refine lv_goto (tgt := 36) hx hb d_Mod_lift_111 (by decide) ?_
    exact hK36 _ _ _ _ _ _ h hI (lv_sub hl [2, 3, 0] rfl)
theorem w_Mod_lift_L36 {p : Program} {l : Launch} {e : Env} {s : State} {m : MethodId} {args : Array Value} {below : List Frame} {meth : Method} {c : Code} {V : xV} (C : xC p s m args c cd_Mod_lift 5 R_Mod V) (hlocks : meth.locks = false) (hr : meth.sig.returnType = (some .int)) {Q : Int32 → xS → Prop} : ∀ (n : Nat) (x2 : Int32) (x3 : Int32) (σ : xS) (H : Heap) (locs : List Loc) (ls : Array Slot), p_Mod_lift_L36 Q n x2 x3 σ → xI V s.heap σ H locs → lv_has ls 5 [(0, .ref (V.2.2 31)), (2, .int x2), (3, .int x3)] → W p l e rm_Mod_lift s m args below meth c H locs 0 0 (xZi below V args s Q) (F0 m 36 ls []) := by
  intro n
  induction n with
  | zero =>
    intro x2 x3 σ H locs ls h
    exact False.elim h
  | succ n ih =>
    intro x2 x3 σ H locs ls h hI hl
    exact s_Mod_lift_L36 C hlocks hr (K36 := p_Mod_lift_L36 Q n) (fun x2 x3 σ H locs ls h hI hl => ih x2 x3 σ H locs ls h hI hl) h hI hl
set_option maxRecDepth 100000 in
set_option maxHeartbeats 4000000 in
theorem c_Mod_lift {l : Launch} {V : xV} {σ : xS} {x1 x2 : Int32} {Q : Int32 → xS → Prop} (h : p_Mod_lift x1 x2 σ Q) : xMi l y_Mod_lift (.code y_Mod_lift cd_Mod_lift 5 (some .int) :: xG) rm_Mod_lift V [.ref (V.2.2 31), .int x1, .int x2] σ Q := by
  refine x_begini (by decide) (Nat.le_of_ble_eq_true rfl) (fun p e s m below meth c ls C hlocks hr hI hl => ?_)
  have C : xC p s m _ c cd_Mod_lift 5 R_Mod V := C
  have hx := C.1
  have hb := C.2.1
  have hl : lv_has ls 5 [(0, .ref (V.2.2 31)), (1, .int x1), (2, .int x2)] := hl
  unfold p_Mod_lift at h
  refine lv_aload_n hx hb d_Mod_lift_0 rfl (lv_at hl 0 rfl) ?_
  refine lv_iload_n hx hb d_Mod_lift_1 rfl (lv_at hl 1 rfl) ?_
  refine x_calliS C hI hl.1 (As := [.int x1]) (rest := [.ref (V.2.2 31)]) (c_Mod_isRoot h) yw_Mod_isRoot ml_Mod_151 rfl rfl ⟨Nat.le_of_ble_eq_true rfl, Nat.le_of_ble_eq_true rfl⟩ rfl rfl (Nat.le_of_ble_eq_true rfl) d_Mod_lift_2 ⟨Nat.zero_le _, Nat.zero_le _⟩ (fun r2 σ1 H locs h hI => ?_)
  refine lv_aload_n hx hb d_Mod_lift_5 rfl (lv_at hl 0 rfl) ?_
  refine lv_iload_n hx hb d_Mod_lift_6 rfl (lv_at hl 2 rfl) ?_
  refine x_calli C hI hl.1 (d := 31) (As := [.int x2]) (rest := [.int r2, .ref (V.2.2 31)]) (by decide) (c_Mod_isRegion h) (xE31 V _) rfl yw_Mod_isRegion ml_Mod_140 rfl rfl ⟨Nat.le_of_ble_eq_true rfl, Nat.le_of_ble_eq_true rfl⟩ rfl rfl (Nat.le_of_ble_eq_true rfl) d_Mod_lift_7 ⟨Nat.zero_le _, Nat.zero_le _⟩ (fun r4 σ3 H locs h hI => ?_)
  refine x_calli C hI hl.1 (d := 31) (As := [.int r2, .int r4]) (rest := []) (by decide) (c_Mod_goes h) (xE31 V _) rfl yw_Mod_goes ml_Mod_144 rfl rfl ⟨Nat.le_of_ble_eq_true rfl, Nat.le_of_ble_eq_true rfl⟩ rfl rfl (Nat.le_of_ble_eq_true rfl) d_Mod_lift_10 ⟨Nat.zero_le _, Nat.zero_le _⟩ (fun r6 σ5 H locs h hI => ?_)
  refine lv_if_ne (tgt := 18) hx hb d_Mod_lift_13 (by decide) (fun c7 => ?_) (fun c7 => ?_)
  · have h := h.1 c7
    refine lv_aload_n hx hb d_Mod_lift_18 rfl (lv_at hl 0 rfl) ?_
    refine lv_iload_n hx hb d_Mod_lift_19 rfl (lv_at hl 1 rfl) ?_
    refine lv_iload_n hx hb d_Mod_lift_20 rfl (lv_at hl 2 rfl) ?_
    refine x_callv C hI hl.1 (d := 31) (As := [.int x1, .int x2]) (rest := []) (by decide) (c_Mod_findParts h) (xE31 V _) rfl yw_Mod_findParts ml_Mod_168 rfl rfl ⟨Nat.le_of_ble_eq_true rfl, Nat.le_of_ble_eq_true rfl⟩ rfl rfl (Nat.le_of_ble_eq_true rfl) d_Mod_lift_21 ⟨Nat.zero_le _, Nat.zero_le _⟩ (fun σ8 H locs h hI => ?_)
    refine lv_aload_n hx hb d_Mod_lift_24 rfl (lv_at hl 0 rfl) ?_
    refine lv_iload_n hx hb d_Mod_lift_25 rfl (lv_at hl 2 rfl) ?_
    refine x_calli C hI hl.1 (d := 31) (As := [.int x2]) (rest := []) (by decide) (c_Mod_haveRoom h) (xE31 V _) rfl yw_Mod_haveRoom ml_Mod_171 rfl rfl ⟨Nat.le_of_ble_eq_true rfl, Nat.le_of_ble_eq_true rfl⟩ rfl rfl (Nat.le_of_ble_eq_true rfl) d_Mod_lift_26 ⟨Nat.zero_le _, Nat.zero_le _⟩ (fun r10 σ9 H locs h hI => ?_)
    refine lv_if_ne (tgt := 34) hx hb d_Mod_lift_29 (by decide) (fun c11 => ?_) (fun c11 => ?_)
    · have h := h.1 c11
      refine lv_iconst (v := 0) hx hb d_Mod_lift_34 (by decide) ?_
      refine lv_istore_n (lv' := [(3, .int 0), (0, .ref (V.2.2 31)), (1, .int x1), (2, .int x2)]) hx hb d_Mod_lift_35 rfl hl (by decide) rfl (fun ls hl => ?_)
      obtain ⟨n, h⟩ := h
      exact w_Mod_lift_L36 C hlocks hr n _ _ _ _ _ _ h hI (lv_sub hl [1, 3, 0] rfl)
    · have h := h.2 c11
      refine lv_iconst (v := (-1)) hx hb d_Mod_lift_32 (by decide) ?_
      exact x_iret C hlocks hr hI h d_Mod_lift_33
  · have h := h.2 c7
    refine lv_iconst (v := 0) hx hb d_Mod_lift_16 (by decide) ?_
    exact x_iret C hlocks hr hI h d_Mod_lift_17
def y_Mod_copy : MethodName := ⟨"RegionPoolModel", "copy", "(III)I"⟩
abbrev cd_Mod_copy : ByteArray := prog_12_method_35_code
theorem fd_Mod_177 : xFd R_Mod 177 10 25 := ⟨R_Mod, T_Mod, 32, rfl, in_Mod, by decide, xG_mem 1009 (by decide +kernel) (by decide +kernel)⟩
theorem fw_Mod_177 : xFw R_Mod 177 10 25 := ⟨R_Mod, T_Mod, 32, t_Mod, rfl, in_Mod, by decide, xG_mem 1009 (by decide +kernel) (by decide +kernel), tk_Mod, nm_Mod, rfl, by decide +kernel⟩
theorem xP_31_25 (V : xV) (f : Nat → Int32) (x : Int32) : xE V 31 (upd f 25 x) = .inr (10, [.int (f 0), .ref (V.2.2 40), .ref (V.2.2 41), .ref (V.2.2 42), .ref (V.2.2 43), .ref (V.2.2 44), .ref (V.2.2 45), .ref (V.2.2 46), .ref (V.2.2 47), .ref (V.2.2 48), .int (f 10), .ref (V.2.2 49), .ref (V.2.2 50), .int (f 13), .ref (V.2.2 51), .ref (V.2.2 52), .ref (V.2.2 53), .ref (V.2.2 54), .ref (V.2.2 55), .int (f 19), .ref (V.2.2 56), .int (f 21), .int (f 22), .int (f 23), .int (f 24), .int (f 25), .int (f 26), .ref (V.2.2 57), .ref (V.2.2 58), .ref (V.2.2 59), .ref (V.2.2 60), .int (f 31)].set 25 (.int x)) := rfl
def p_Mod_copy_J315 (Q : Int32 → xS → Prop) (y0 : Int32) (y1 : Int32) (σ : xS) : Prop :=
  (vp_in y1 16 ∧ Q ((xu (xu σ 55 y1.toNatClampNeg y0) 31 25 (((xu σ 55 y1.toNatClampNeg y0) 31 25) + ((xu σ 55 y1.toNatClampNeg y0) 31 26))) 31 26) (xu (xu σ 55 y1.toNatClampNeg y0) 31 25 (((xu σ 55 y1.toNatClampNeg y0) 31 25) + ((xu σ 55 y1.toNatClampNeg y0) 31 26))))
def b_Mod_copy_L152 (K117 : Int32 → Int32 → Int32 → xS → Prop) (K152 : Int32 → Int32 → Int32 → Int32 → Int32 → Int32 → xS → Prop) (Q : Int32 → xS → Prop) (x1 x2 x4 x5 x6 x7 : Int32) (σ : xS) : Prop :=
  (vp_in x5 640 ∧ (((σ 42 x5.toNatClampNeg) ≤ x7 → (∀ z27 : Int32, z27 = x4 + 1 → K117 x1 x2 z27 σ)) ∧ (¬ (σ 42 x5.toNatClampNeg) ≤ x7 → (vp_in ((15 * x5) + x7) 9600 ∧ (∀ z29 : Int32, z29 = (σ 46 ((15 * x5) + x7).toNatClampNeg) → (vp_in ((15 * x5) + x7) 9600 ∧ (∀ z31 : Int32, z31 = (σ 47 ((15 * x5) + x7).toNatClampNeg) → (vp_in ((15 * x6) + x7) 9600 ∧ ((¬ z29 = 2 → (vp_in ((15 * x6) + x7) 9600 ∧ (∀ z35 : Int32, z35 = x7 + 1 → K152 x1 x2 x4 x5 x6 z35 (xu (xu σ 46 ((15 * x6) + x7).toNatClampNeg z29) 47 ((15 * x6) + x7).toNatClampNeg z31)))) ∧ (z29 = 2 → (vp_in z31 640 ∧ ((((xu σ 46 ((15 * x6) + x7).toNatClampNeg z29) 58 z31.toNatClampNeg) = (-1) → (vp_in ((15 * x6) + x7) 9600 ∧ (∀ z39 : Int32, z39 = x7 + 1 → K152 x1 x2 x4 x5 x6 z39 (xu (xu σ 46 ((15 * x6) + x7).toNatClampNeg z29) 47 ((15 * x6) + x7).toNatClampNeg z31)))) ∧ (¬ ((xu σ 46 ((15 * x6) + x7).toNatClampNeg z29) 58 z31.toNatClampNeg) = (-1) → (vp_in z31 640 ∧ (vp_in (((xu σ 46 ((15 * x6) + x7).toNatClampNeg z29) 31 19) + ((xu σ 46 ((15 * x6) + x7).toNatClampNeg z29) 58 z31.toNatClampNeg)) 1400 ∧ (vp_in ((15 * x6) + x7) 9600 ∧ (∀ z43 : Int32, z43 = x7 + 1 → K152 x1 x2 x4 x5 x6 z43 (xu (xu σ 46 ((15 * x6) + x7).toNatClampNeg z29) 47 ((15 * x6) + x7).toNatClampNeg ((xu σ 46 ((15 * x6) + x7).toNatClampNeg z29) 56 (((xu σ 46 ((15 * x6) + x7).toNatClampNeg z29) 31 19) + ((xu σ 46 ((15 * x6) + x7).toNatClampNeg z29) 58 z31.toNatClampNeg)).toNatClampNeg)))))))))))))))))))
def p_Mod_copy_L152 (K117 : Int32 → Int32 → Int32 → xS → Prop) (Q : Int32 → xS → Prop) (n : Nat) : Int32 → Int32 → Int32 → Int32 → Int32 → Int32 → xS → Prop := Nat.rec (motive := fun _ => Int32 → Int32 → Int32 → Int32 → Int32 → Int32 → xS → Prop) (fun _ _ _ _ _ _ _ => False) (fun _ K x1 x2 x4 x5 x6 x7 σ => b_Mod_copy_L152 K117 K Q x1 x2 x4 x5 x6 x7 σ) n
def b_Mod_copy_L117 (K117 : Int32 → Int32 → Int32 → xS → Prop) (Q : Int32 → xS → Prop) (x1 x2 x4 : Int32) (σ : xS) : Prop :=
  (((σ 31 26) ≤ x4 → (vp_in x2 16 ∧ (vp_in x1 16 ∧ ((((xu σ 54 x1.toNatClampNeg (σ 54 x2.toNatClampNeg)) 31 26) ≤ 0 → (vp_in x2 16 ∧ p_Mod_copy_J315 Q ((xu σ 54 x1.toNatClampNeg (σ 54 x2.toNatClampNeg)) 55 x2.toNatClampNeg) x1 (xu σ 54 x1.toNatClampNeg (σ 54 x2.toNatClampNeg)))) ∧ (¬ ((xu σ 54 x1.toNatClampNeg (σ 54 x2.toNatClampNeg)) 31 26) ≤ 0 → (vp_in ((xu σ 54 x1.toNatClampNeg (σ 54 x2.toNatClampNeg)) 31 19) 1400 ∧ p_Mod_copy_J315 Q ((xu σ 54 x1.toNatClampNeg (σ 54 x2.toNatClampNeg)) 56 ((xu σ 54 x1.toNatClampNeg (σ 54 x2.toNatClampNeg)) 31 19).toNatClampNeg) x1 (xu σ 54 x1.toNatClampNeg (σ 54 x2.toNatClampNeg)))))))) ∧ (¬ (σ 31 26) ≤ x4 → (vp_in x4 640 ∧ (∀ z22 : Int32, z22 = (σ 57 x4.toNatClampNeg) → (vp_in ((σ 31 19) + x4) 1400 ∧ (∀ z24 : Int32, z24 = (σ 56 ((σ 31 19) + x4).toNatClampNeg) → (∃ n, p_Mod_copy_L152 K117 Q n x1 x2 x4 z22 z24 0 σ)))))))
def p_Mod_copy_L117 (Q : Int32 → xS → Prop) (n : Nat) : Int32 → Int32 → Int32 → xS → Prop := Nat.rec (motive := fun _ => Int32 → Int32 → Int32 → xS → Prop) (fun _ _ _ _ => False) (fun _ K x1 x2 x4 σ => b_Mod_copy_L117 K Q x1 x2 x4 σ) n
def b_Mod_copy_L52 (K52 : Int32 → Int32 → Int32 → Int32 → xS → Prop) (Q : Int32 → xS → Prop) (x1 x2 x3 x4 : Int32) (σ : xS) : Prop :=
  (((σ 31 26) ≤ x4 → (∃ n, p_Mod_copy_L117 Q n x1 x2 0 σ)) ∧ (¬ (σ 31 26) ≤ x4 → (vp_in x4 640 ∧ (∀ z45 : Int32, z45 = (σ 57 x4.toNatClampNeg) → (vp_in z45 640 ∧ (vp_in z45 640 ∧ (vp_in z45 640 ∧ p_Mod_create x3 (σ 40 z45.toNatClampNeg) (σ 41 z45.toNatClampNeg) (σ 42 z45.toNatClampNeg) σ (fun r50 σ49 => (vp_in ((σ 31 19) + x4) 1400 ∧ (∀ z52 : Int32, z52 = x4 + 1 → K52 x1 x2 x3 z52 (xu σ49 56 ((σ 31 19) + x4).toNatClampNeg r50)))))))))))
def p_Mod_copy_L52 (Q : Int32 → xS → Prop) (n : Nat) : Int32 → Int32 → Int32 → Int32 → xS → Prop := Nat.rec (motive := fun _ => Int32 → Int32 → Int32 → Int32 → xS → Prop) (fun _ _ _ _ _ => False) (fun _ K x1 x2 x3 x4 σ => b_Mod_copy_L52 K Q x1 x2 x3 x4 σ) n
def p_Mod_copy_J20 (Q : Int32 → xS → Prop) (x1 x2 x3 : Int32) (y0 : Int32) (σ : xS) : Prop :=
  p_Mod_isRegion x3 σ (fun r5 σ4 => p_Mod_goes y0 r5 σ4 (fun r7 σ6 => ((¬ r7 = 0 → p_Mod_findParts x2 x3 σ6 (fun σ9 => p_Mod_haveRoom x3 σ9 (fun r11 σ10 => ((¬ r11 = 0 → (∃ n, p_Mod_copy_L52 Q n x1 x2 x3 0 σ10)) ∧ (r11 = 0 → Q (-1) σ10))))) ∧ (r7 = 0 → Q 0 σ6))))
def p_Mod_copy_J19 (Q : Int32 → xS → Prop) (x1 x2 x3 : Int32) (σ : xS) : Prop :=
  p_Mod_copy_J20 Q x1 x2 x3 0 σ
def p_Mod_copy (x1 x2 x3 : Int32) (σ : xS) (Q : Int32 → xS → Prop) : Prop :=
  p_Mod_isRoot x1 σ (fun r2 σ1 => ((r2 = 0 → p_Mod_copy_J19 Q x1 x2 x3 σ1) ∧ (¬ r2 = 0 → p_Mod_isRoot x2 σ1 (fun r54 σ53 => ((r54 = 0 → p_Mod_copy_J19 Q x1 x2 x3 σ53) ∧ (¬ r54 = 0 → p_Mod_copy_J20 Q x1 x2 x3 1 σ53))))))
abbrev rm_Mod_copy : Room := { frames := 4, cells := 0, slots := 0, locals := 96 }
theorem d_Mod_copy_0 : decode cd_Mod_copy 0 = .ok (.aload_n 0, 1) := by decide +kernel
theorem d_Mod_copy_1 : decode cd_Mod_copy 1 = .ok (.iload_n 1, 1) := by decide +kernel
theorem d_Mod_copy_2 : decode cd_Mod_copy 2 = .ok (.invokestatic 151, 3) := by decide +kernel
theorem d_Mod_copy_5 : decode cd_Mod_copy 5 = .ok (.ifCond .eq 14, 3) := by decide +kernel
theorem d_Mod_copy_8 : decode cd_Mod_copy 8 = .ok (.iload_n 2, 1) := by decide +kernel
theorem d_Mod_copy_9 : decode cd_Mod_copy 9 = .ok (.invokestatic 151, 3) := by decide +kernel
theorem d_Mod_copy_12 : decode cd_Mod_copy 12 = .ok (.ifCond .eq 7, 3) := by decide +kernel
theorem d_Mod_copy_15 : decode cd_Mod_copy 15 = .ok (.iconst 1, 1) := by decide +kernel
theorem d_Mod_copy_16 : decode cd_Mod_copy 16 = .ok (.goto 4, 3) := by decide +kernel
theorem d_Mod_copy_19 : decode cd_Mod_copy 19 = .ok (.iconst 0, 1) := by decide +kernel
theorem d_Mod_copy_20 : decode cd_Mod_copy 20 = .ok (.aload_n 0, 1) := by decide +kernel
theorem d_Mod_copy_21 : decode cd_Mod_copy 21 = .ok (.iload_n 3, 1) := by decide +kernel
theorem d_Mod_copy_22 : decode cd_Mod_copy 22 = .ok (.invokevirtual 140, 3) := by decide +kernel
theorem d_Mod_copy_25 : decode cd_Mod_copy 25 = .ok (.invokevirtual 144, 3) := by decide +kernel
theorem d_Mod_copy_28 : decode cd_Mod_copy 28 = .ok (.ifCond .ne 5, 3) := by decide +kernel
theorem d_Mod_copy_31 : decode cd_Mod_copy 31 = .ok (.iconst 0, 1) := by decide +kernel
theorem d_Mod_copy_32 : decode cd_Mod_copy 32 = .ok (.ireturn, 1) := by decide +kernel
theorem d_Mod_copy_33 : decode cd_Mod_copy 33 = .ok (.aload_n 0, 1) := by decide +kernel
theorem d_Mod_copy_34 : decode cd_Mod_copy 34 = .ok (.iload_n 2, 1) := by decide +kernel
theorem d_Mod_copy_35 : decode cd_Mod_copy 35 = .ok (.iload_n 3, 1) := by decide +kernel
theorem d_Mod_copy_36 : decode cd_Mod_copy 36 = .ok (.invokevirtual 168, 3) := by decide +kernel
theorem d_Mod_copy_39 : decode cd_Mod_copy 39 = .ok (.aload_n 0, 1) := by decide +kernel
theorem d_Mod_copy_40 : decode cd_Mod_copy 40 = .ok (.iload_n 3, 1) := by decide +kernel
theorem d_Mod_copy_41 : decode cd_Mod_copy 41 = .ok (.invokevirtual 171, 3) := by decide +kernel
theorem d_Mod_copy_44 : decode cd_Mod_copy 44 = .ok (.ifCond .ne 5, 3) := by decide +kernel
theorem d_Mod_copy_47 : decode cd_Mod_copy 47 = .ok (.iconst (-1), 1) := by decide +kernel
theorem d_Mod_copy_48 : decode cd_Mod_copy 48 = .ok (.ireturn, 1) := by decide +kernel
theorem d_Mod_copy_49 : decode cd_Mod_copy 49 = .ok (.iconst 0, 1) := by decide +kernel
theorem d_Mod_copy_50 : decode cd_Mod_copy 50 = .ok (.istore 4, 2) := by decide +kernel
theorem d_Mod_copy_52 : decode cd_Mod_copy 52 = .ok (.iload 4, 2) := by decide +kernel
theorem d_Mod_copy_54 : decode cd_Mod_copy 54 = .ok (.aload_n 0, 1) := by decide +kernel
theorem d_Mod_copy_55 : decode cd_Mod_copy 55 = .ok (.getfield 161, 3) := by decide +kernel
theorem d_Mod_copy_58 : decode cd_Mod_copy 58 = .ok (.if_icmp .ge 56, 3) := by decide +kernel
theorem d_Mod_copy_61 : decode cd_Mod_copy 61 = .ok (.aload_n 0, 1) := by decide +kernel
theorem d_Mod_copy_62 : decode cd_Mod_copy 62 = .ok (.getfield 62, 3) := by decide +kernel
theorem d_Mod_copy_65 : decode cd_Mod_copy 65 = .ok (.iload 4, 2) := by decide +kernel
theorem d_Mod_copy_67 : decode cd_Mod_copy 67 = .ok (.iaload, 1) := by decide +kernel
theorem d_Mod_copy_68 : decode cd_Mod_copy 68 = .ok (.istore 5, 2) := by decide +kernel
theorem d_Mod_copy_70 : decode cd_Mod_copy 70 = .ok (.aload_n 0, 1) := by decide +kernel
theorem d_Mod_copy_71 : decode cd_Mod_copy 71 = .ok (.getfield 59, 3) := by decide +kernel
theorem d_Mod_copy_74 : decode cd_Mod_copy 74 = .ok (.aload_n 0, 1) := by decide +kernel
theorem d_Mod_copy_75 : decode cd_Mod_copy 75 = .ok (.getfield 97, 3) := by decide +kernel
theorem d_Mod_copy_78 : decode cd_Mod_copy 78 = .ok (.iload 4, 2) := by decide +kernel
theorem d_Mod_copy_80 : decode cd_Mod_copy 80 = .ok (.iadd, 1) := by decide +kernel
theorem d_Mod_copy_81 : decode cd_Mod_copy 81 = .ok (.aload_n 0, 1) := by decide +kernel
theorem d_Mod_copy_82 : decode cd_Mod_copy 82 = .ok (.iload_n 3, 1) := by decide +kernel
theorem d_Mod_copy_83 : decode cd_Mod_copy 83 = .ok (.aload_n 0, 1) := by decide +kernel
theorem d_Mod_copy_84 : decode cd_Mod_copy 84 = .ok (.getfield 7, 3) := by decide +kernel
theorem d_Mod_copy_87 : decode cd_Mod_copy 87 = .ok (.iload 5, 2) := by decide +kernel
theorem d_Mod_copy_89 : decode cd_Mod_copy 89 = .ok (.iaload, 1) := by decide +kernel
theorem d_Mod_copy_90 : decode cd_Mod_copy 90 = .ok (.aload_n 0, 1) := by decide +kernel
theorem d_Mod_copy_91 : decode cd_Mod_copy 91 = .ok (.getfield 13, 3) := by decide +kernel
theorem d_Mod_copy_94 : decode cd_Mod_copy 94 = .ok (.iload 5, 2) := by decide +kernel
theorem d_Mod_copy_96 : decode cd_Mod_copy 96 = .ok (.iaload, 1) := by decide +kernel
theorem d_Mod_copy_97 : decode cd_Mod_copy 97 = .ok (.aload_n 0, 1) := by decide +kernel
theorem d_Mod_copy_98 : decode cd_Mod_copy 98 = .ok (.getfield 16, 3) := by decide +kernel
theorem d_Mod_copy_101 : decode cd_Mod_copy 101 = .ok (.iload 5, 2) := by decide +kernel
theorem d_Mod_copy_103 : decode cd_Mod_copy 103 = .ok (.iaload, 1) := by decide +kernel
theorem d_Mod_copy_104 : decode cd_Mod_copy 104 = .ok (.invokevirtual 154, 3) := by decide +kernel
theorem d_Mod_copy_107 : decode cd_Mod_copy 107 = .ok (.iastore, 1) := by decide +kernel
theorem d_Mod_copy_108 : decode cd_Mod_copy 108 = .ok (.iinc 4 1, 3) := by decide +kernel
theorem d_Mod_copy_111 : decode cd_Mod_copy 111 = .ok (.goto (-59), 3) := by decide +kernel
theorem d_Mod_copy_114 : decode cd_Mod_copy 114 = .ok (.iconst 0, 1) := by decide +kernel
theorem d_Mod_copy_115 : decode cd_Mod_copy 115 = .ok (.istore 4, 2) := by decide +kernel
theorem d_Mod_copy_117 : decode cd_Mod_copy 117 = .ok (.iload 4, 2) := by decide +kernel
theorem d_Mod_copy_119 : decode cd_Mod_copy 119 = .ok (.aload_n 0, 1) := by decide +kernel
theorem d_Mod_copy_120 : decode cd_Mod_copy 120 = .ok (.getfield 161, 3) := by decide +kernel
theorem d_Mod_copy_123 : decode cd_Mod_copy 123 = .ok (.if_icmp .ge 150, 3) := by decide +kernel
theorem d_Mod_copy_126 : decode cd_Mod_copy 126 = .ok (.aload_n 0, 1) := by decide +kernel
theorem d_Mod_copy_127 : decode cd_Mod_copy 127 = .ok (.getfield 62, 3) := by decide +kernel
theorem d_Mod_copy_130 : decode cd_Mod_copy 130 = .ok (.iload 4, 2) := by decide +kernel
theorem d_Mod_copy_132 : decode cd_Mod_copy 132 = .ok (.iaload, 1) := by decide +kernel
theorem d_Mod_copy_133 : decode cd_Mod_copy 133 = .ok (.istore 5, 2) := by decide +kernel
theorem d_Mod_copy_135 : decode cd_Mod_copy 135 = .ok (.aload_n 0, 1) := by decide +kernel
theorem d_Mod_copy_136 : decode cd_Mod_copy 136 = .ok (.getfield 59, 3) := by decide +kernel
theorem d_Mod_copy_139 : decode cd_Mod_copy 139 = .ok (.aload_n 0, 1) := by decide +kernel
theorem d_Mod_copy_140 : decode cd_Mod_copy 140 = .ok (.getfield 97, 3) := by decide +kernel
theorem d_Mod_copy_143 : decode cd_Mod_copy 143 = .ok (.iload 4, 2) := by decide +kernel
theorem d_Mod_copy_145 : decode cd_Mod_copy 145 = .ok (.iadd, 1) := by decide +kernel
theorem d_Mod_copy_146 : decode cd_Mod_copy 146 = .ok (.iaload, 1) := by decide +kernel
theorem d_Mod_copy_147 : decode cd_Mod_copy 147 = .ok (.istore 6, 2) := by decide +kernel
theorem d_Mod_copy_149 : decode cd_Mod_copy 149 = .ok (.iconst 0, 1) := by decide +kernel
theorem d_Mod_copy_150 : decode cd_Mod_copy 150 = .ok (.istore 7, 2) := by decide +kernel
theorem d_Mod_copy_152 : decode cd_Mod_copy 152 = .ok (.iload 7, 2) := by decide +kernel
theorem d_Mod_copy_154 : decode cd_Mod_copy 154 = .ok (.aload_n 0, 1) := by decide +kernel
theorem d_Mod_copy_155 : decode cd_Mod_copy 155 = .ok (.getfield 16, 3) := by decide +kernel
theorem d_Mod_copy_158 : decode cd_Mod_copy 158 = .ok (.iload 5, 2) := by decide +kernel
theorem d_Mod_copy_160 : decode cd_Mod_copy 160 = .ok (.iaload, 1) := by decide +kernel
theorem d_Mod_copy_161 : decode cd_Mod_copy 161 = .ok (.if_icmp .ge 106, 3) := by decide +kernel
theorem d_Mod_copy_164 : decode cd_Mod_copy 164 = .ok (.aload_n 0, 1) := by decide +kernel
theorem d_Mod_copy_165 : decode cd_Mod_copy 165 = .ok (.getfield 28, 3) := by decide +kernel
theorem d_Mod_copy_168 : decode cd_Mod_copy 168 = .ok (.bipush 15, 2) := by decide +kernel
theorem d_Mod_copy_170 : decode cd_Mod_copy 170 = .ok (.iload 5, 2) := by decide +kernel
theorem d_Mod_copy_172 : decode cd_Mod_copy 172 = .ok (.imul, 1) := by decide +kernel
theorem d_Mod_copy_173 : decode cd_Mod_copy 173 = .ok (.iload 7, 2) := by decide +kernel
theorem d_Mod_copy_175 : decode cd_Mod_copy 175 = .ok (.iadd, 1) := by decide +kernel
theorem d_Mod_copy_176 : decode cd_Mod_copy 176 = .ok (.iaload, 1) := by decide +kernel
theorem d_Mod_copy_177 : decode cd_Mod_copy 177 = .ok (.istore 8, 2) := by decide +kernel
theorem d_Mod_copy_179 : decode cd_Mod_copy 179 = .ok (.aload_n 0, 1) := by decide +kernel
theorem d_Mod_copy_180 : decode cd_Mod_copy 180 = .ok (.getfield 31, 3) := by decide +kernel
theorem d_Mod_copy_183 : decode cd_Mod_copy 183 = .ok (.bipush 15, 2) := by decide +kernel
theorem d_Mod_copy_185 : decode cd_Mod_copy 185 = .ok (.iload 5, 2) := by decide +kernel
theorem d_Mod_copy_187 : decode cd_Mod_copy 187 = .ok (.imul, 1) := by decide +kernel
theorem d_Mod_copy_188 : decode cd_Mod_copy 188 = .ok (.iload 7, 2) := by decide +kernel
theorem d_Mod_copy_190 : decode cd_Mod_copy 190 = .ok (.iadd, 1) := by decide +kernel
theorem d_Mod_copy_191 : decode cd_Mod_copy 191 = .ok (.iaload, 1) := by decide +kernel
theorem d_Mod_copy_192 : decode cd_Mod_copy 192 = .ok (.istore 9, 2) := by decide +kernel
theorem d_Mod_copy_194 : decode cd_Mod_copy 194 = .ok (.aload_n 0, 1) := by decide +kernel
theorem d_Mod_copy_195 : decode cd_Mod_copy 195 = .ok (.getfield 28, 3) := by decide +kernel
theorem d_Mod_copy_198 : decode cd_Mod_copy 198 = .ok (.bipush 15, 2) := by decide +kernel
theorem d_Mod_copy_200 : decode cd_Mod_copy 200 = .ok (.iload 6, 2) := by decide +kernel
theorem d_Mod_copy_202 : decode cd_Mod_copy 202 = .ok (.imul, 1) := by decide +kernel
theorem d_Mod_copy_203 : decode cd_Mod_copy 203 = .ok (.iload 7, 2) := by decide +kernel
theorem d_Mod_copy_205 : decode cd_Mod_copy 205 = .ok (.iadd, 1) := by decide +kernel
theorem d_Mod_copy_206 : decode cd_Mod_copy 206 = .ok (.iload 8, 2) := by decide +kernel
theorem d_Mod_copy_208 : decode cd_Mod_copy 208 = .ok (.iastore, 1) := by decide +kernel
theorem d_Mod_copy_209 : decode cd_Mod_copy 209 = .ok (.aload_n 0, 1) := by decide +kernel
theorem d_Mod_copy_210 : decode cd_Mod_copy 210 = .ok (.getfield 31, 3) := by decide +kernel
theorem d_Mod_copy_213 : decode cd_Mod_copy 213 = .ok (.bipush 15, 2) := by decide +kernel
theorem d_Mod_copy_215 : decode cd_Mod_copy 215 = .ok (.iload 6, 2) := by decide +kernel
theorem d_Mod_copy_217 : decode cd_Mod_copy 217 = .ok (.imul, 1) := by decide +kernel
theorem d_Mod_copy_218 : decode cd_Mod_copy 218 = .ok (.iload 7, 2) := by decide +kernel
theorem d_Mod_copy_220 : decode cd_Mod_copy 220 = .ok (.iadd, 1) := by decide +kernel
theorem d_Mod_copy_221 : decode cd_Mod_copy 221 = .ok (.iload 8, 2) := by decide +kernel
theorem d_Mod_copy_223 : decode cd_Mod_copy 223 = .ok (.iconst 2, 1) := by decide +kernel
theorem d_Mod_copy_224 : decode cd_Mod_copy 224 = .ok (.if_icmp .ne 34, 3) := by decide +kernel
theorem d_Mod_copy_227 : decode cd_Mod_copy 227 = .ok (.aload_n 0, 1) := by decide +kernel
theorem d_Mod_copy_228 : decode cd_Mod_copy 228 = .ok (.getfield 65, 3) := by decide +kernel
theorem d_Mod_copy_231 : decode cd_Mod_copy 231 = .ok (.iload 9, 2) := by decide +kernel
theorem d_Mod_copy_233 : decode cd_Mod_copy 233 = .ok (.iaload, 1) := by decide +kernel
theorem d_Mod_copy_234 : decode cd_Mod_copy 234 = .ok (.iconst (-1), 1) := by decide +kernel
theorem d_Mod_copy_235 : decode cd_Mod_copy 235 = .ok (.if_icmp .eq 23, 3) := by decide +kernel
theorem d_Mod_copy_238 : decode cd_Mod_copy 238 = .ok (.aload_n 0, 1) := by decide +kernel
theorem d_Mod_copy_239 : decode cd_Mod_copy 239 = .ok (.getfield 59, 3) := by decide +kernel
theorem d_Mod_copy_242 : decode cd_Mod_copy 242 = .ok (.aload_n 0, 1) := by decide +kernel
theorem d_Mod_copy_243 : decode cd_Mod_copy 243 = .ok (.getfield 97, 3) := by decide +kernel
theorem d_Mod_copy_246 : decode cd_Mod_copy 246 = .ok (.aload_n 0, 1) := by decide +kernel
theorem d_Mod_copy_247 : decode cd_Mod_copy 247 = .ok (.getfield 65, 3) := by decide +kernel
theorem d_Mod_copy_250 : decode cd_Mod_copy 250 = .ok (.iload 9, 2) := by decide +kernel
theorem d_Mod_copy_252 : decode cd_Mod_copy 252 = .ok (.iaload, 1) := by decide +kernel
theorem d_Mod_copy_253 : decode cd_Mod_copy 253 = .ok (.iadd, 1) := by decide +kernel
theorem d_Mod_copy_254 : decode cd_Mod_copy 254 = .ok (.iaload, 1) := by decide +kernel
theorem d_Mod_copy_255 : decode cd_Mod_copy 255 = .ok (.goto 5, 3) := by decide +kernel
theorem d_Mod_copy_258 : decode cd_Mod_copy 258 = .ok (.iload 9, 2) := by decide +kernel
theorem d_Mod_copy_260 : decode cd_Mod_copy 260 = .ok (.iastore, 1) := by decide +kernel
theorem d_Mod_copy_261 : decode cd_Mod_copy 261 = .ok (.iinc 7 1, 3) := by decide +kernel
theorem d_Mod_copy_264 : decode cd_Mod_copy 264 = .ok (.goto (-112), 3) := by decide +kernel
theorem d_Mod_copy_267 : decode cd_Mod_copy 267 = .ok (.iinc 4 1, 3) := by decide +kernel
theorem d_Mod_copy_270 : decode cd_Mod_copy 270 = .ok (.goto (-153), 3) := by decide +kernel
theorem d_Mod_copy_273 : decode cd_Mod_copy 273 = .ok (.aload_n 0, 1) := by decide +kernel
theorem d_Mod_copy_274 : decode cd_Mod_copy 274 = .ok (.getfield 53, 3) := by decide +kernel
theorem d_Mod_copy_277 : decode cd_Mod_copy 277 = .ok (.iload_n 1, 1) := by decide +kernel
theorem d_Mod_copy_278 : decode cd_Mod_copy 278 = .ok (.aload_n 0, 1) := by decide +kernel
theorem d_Mod_copy_279 : decode cd_Mod_copy 279 = .ok (.getfield 53, 3) := by decide +kernel
theorem d_Mod_copy_282 : decode cd_Mod_copy 282 = .ok (.iload_n 2, 1) := by decide +kernel
theorem d_Mod_copy_283 : decode cd_Mod_copy 283 = .ok (.iaload, 1) := by decide +kernel
theorem d_Mod_copy_284 : decode cd_Mod_copy 284 = .ok (.iastore, 1) := by decide +kernel
theorem d_Mod_copy_285 : decode cd_Mod_copy 285 = .ok (.aload_n 0, 1) := by decide +kernel
theorem d_Mod_copy_286 : decode cd_Mod_copy 286 = .ok (.getfield 56, 3) := by decide +kernel
theorem d_Mod_copy_289 : decode cd_Mod_copy 289 = .ok (.iload_n 1, 1) := by decide +kernel
theorem d_Mod_copy_290 : decode cd_Mod_copy 290 = .ok (.aload_n 0, 1) := by decide +kernel
theorem d_Mod_copy_291 : decode cd_Mod_copy 291 = .ok (.getfield 161, 3) := by decide +kernel
theorem d_Mod_copy_294 : decode cd_Mod_copy 294 = .ok (.ifCond .le 15, 3) := by decide +kernel
theorem d_Mod_copy_297 : decode cd_Mod_copy 297 = .ok (.aload_n 0, 1) := by decide +kernel
theorem d_Mod_copy_298 : decode cd_Mod_copy 298 = .ok (.getfield 59, 3) := by decide +kernel
theorem d_Mod_copy_301 : decode cd_Mod_copy 301 = .ok (.aload_n 0, 1) := by decide +kernel
theorem d_Mod_copy_302 : decode cd_Mod_copy 302 = .ok (.getfield 97, 3) := by decide +kernel
theorem d_Mod_copy_305 : decode cd_Mod_copy 305 = .ok (.iaload, 1) := by decide +kernel
theorem d_Mod_copy_306 : decode cd_Mod_copy 306 = .ok (.goto 9, 3) := by decide +kernel
theorem d_Mod_copy_309 : decode cd_Mod_copy 309 = .ok (.aload_n 0, 1) := by decide +kernel
theorem d_Mod_copy_310 : decode cd_Mod_copy 310 = .ok (.getfield 56, 3) := by decide +kernel
theorem d_Mod_copy_313 : decode cd_Mod_copy 313 = .ok (.iload_n 2, 1) := by decide +kernel
theorem d_Mod_copy_314 : decode cd_Mod_copy 314 = .ok (.iaload, 1) := by decide +kernel
theorem d_Mod_copy_315 : decode cd_Mod_copy 315 = .ok (.iastore, 1) := by decide +kernel
theorem d_Mod_copy_316 : decode cd_Mod_copy 316 = .ok (.aload_n 0, 1) := by decide +kernel
theorem d_Mod_copy_317 : decode cd_Mod_copy 317 = .ok (.dup, 1) := by decide +kernel
theorem d_Mod_copy_318 : decode cd_Mod_copy 318 = .ok (.getfield 177, 3) := by decide +kernel
theorem d_Mod_copy_321 : decode cd_Mod_copy 321 = .ok (.aload_n 0, 1) := by decide +kernel
theorem d_Mod_copy_322 : decode cd_Mod_copy 322 = .ok (.getfield 161, 3) := by decide +kernel
theorem d_Mod_copy_325 : decode cd_Mod_copy 325 = .ok (.iadd, 1) := by decide +kernel
theorem d_Mod_copy_326 : decode cd_Mod_copy 326 = .ok (.putfield 177, 3) := by decide +kernel
theorem d_Mod_copy_329 : decode cd_Mod_copy 329 = .ok (.aload_n 0, 1) := by decide +kernel
theorem d_Mod_copy_330 : decode cd_Mod_copy 330 = .ok (.getfield 161, 3) := by decide +kernel
theorem d_Mod_copy_333 : decode cd_Mod_copy 333 = .ok (.ireturn, 1) := by decide +kernel
set_option maxRecDepth 100000 in
set_option maxHeartbeats 4000000 in
theorem t_Mod_copy_J315 {p : Program} {l : Launch} {e : Env} {s : State} {m : MethodId} {args : Array Value} {below : List Frame} {meth : Method} {c : Code} {V : xV} (C : xC p s m args c cd_Mod_copy 10 R_Mod V) (hlocks : meth.locks = false) (hr : meth.sig.returnType = (some .int)) {Q : Int32 → xS → Prop} {y0 : Int32} {y1 : Int32} {σ : xS} {H : Heap} {locs : List Loc} {ls : Array Slot} (h : p_Mod_copy_J315 Q y0 y1 σ) (hI : xI V s.heap σ H locs) (hl : lv_has ls 10 [(0, .ref (V.2.2 31))]) : W p l e rm_Mod_copy s m args below meth c H locs 0 0 (xZi below V args s Q) (F0 m 315 ls [.int y0, .int y1, .ref (V.2.2 55)]) := by
  have hx := C.1
  have hb := C.2.1
  unfold p_Mod_copy_J315 at h
  obtain ⟨i19, h⟩ := h
  refine x_iast C hI (d := 55) (by decide) (xE55 V) i19 d_Mod_copy_315 (fun H locs hI => ?_)
  refine lv_aload_n hx hb d_Mod_copy_316 rfl (lv_at hl 0 rfl) ?_
  refine lv_dup hx hb d_Mod_copy_317 rfl ?_
  refine x_get C hI (d := 31) (by decide) (xE31 V _) fd_Mod_177 rfl d_Mod_copy_318 ?_
  refine lv_aload_n hx hb d_Mod_copy_321 rfl (lv_at hl 0 rfl) ?_
  refine x_get C hI (d := 31) (by decide) (xE31 V _) fd_Mod_161 rfl d_Mod_copy_322 ?_
  refine lv_iadd hx hb d_Mod_copy_325 ?_
  refine x_put C hI (d := 31) (by decide) (xE31 V _) (xP_31_25 V _ _) fw_Mod_177 (Nat.le_of_ble_eq_true rfl) d_Mod_copy_326 (fun H locs hI => ?_)
  refine lv_aload_n hx hb d_Mod_copy_329 rfl (lv_at hl 0 rfl) ?_
  refine x_get C hI (d := 31) (by decide) (xE31 V _) fd_Mod_161 rfl d_Mod_copy_330 ?_
  exact x_iret C hlocks hr hI h d_Mod_copy_333
set_option maxRecDepth 100000 in
set_option maxHeartbeats 4000000 in
theorem s_Mod_copy_L152 {p : Program} {l : Launch} {e : Env} {s : State} {m : MethodId} {args : Array Value} {below : List Frame} {meth : Method} {c : Code} {V : xV} (C : xC p s m args c cd_Mod_copy 10 R_Mod V) (hlocks : meth.locks = false) (hr : meth.sig.returnType = (some .int)) {Q : Int32 → xS → Prop} {K117 : Int32 → Int32 → Int32 → xS → Prop} {K152 : Int32 → Int32 → Int32 → Int32 → Int32 → Int32 → xS → Prop} (hK117 : ∀ (x1 : Int32) (x2 : Int32) (x4 : Int32) (σ : xS) (H : Heap) (locs : List Loc) (ls : Array Slot), K117 x1 x2 x4 σ → xI V s.heap σ H locs → lv_has ls 10 [(0, .ref (V.2.2 31)), (1, .int x1), (2, .int x2), (4, .int x4)] → W p l e rm_Mod_copy s m args below meth c H locs 0 0 (xZi below V args s Q) (F0 m 117 ls [])) (hK152 : ∀ (x1 : Int32) (x2 : Int32) (x4 : Int32) (x5 : Int32) (x6 : Int32) (x7 : Int32) (σ : xS) (H : Heap) (locs : List Loc) (ls : Array Slot), K152 x1 x2 x4 x5 x6 x7 σ → xI V s.heap σ H locs → lv_has ls 10 [(0, .ref (V.2.2 31)), (1, .int x1), (2, .int x2), (4, .int x4), (5, .int x5), (6, .int x6), (7, .int x7)] → W p l e rm_Mod_copy s m args below meth c H locs 0 0 (xZi below V args s Q) (F0 m 152 ls [])) {x1 x2 x4 x5 x6 x7 : Int32} {σ : xS} {H : Heap} {locs : List Loc} {ls : Array Slot} (h : b_Mod_copy_L152 K117 K152 Q x1 x2 x4 x5 x6 x7 σ) (hI : xI V s.heap σ H locs) (hl : lv_has ls 10 [(0, .ref (V.2.2 31)), (1, .int x1), (2, .int x2), (4, .int x4), (5, .int x5), (6, .int x6), (7, .int x7)]) : W p l e rm_Mod_copy s m args below meth c H locs 0 0 (xZi below V args s Q) (F0 m 152 ls []) := by
  have hx := C.1
  have hb := C.2.1
  unfold b_Mod_copy_L152 at h
  refine lv_iload hx hb d_Mod_copy_152 (lv_at hl 6 rfl) ?_
  refine lv_aload_n hx hb d_Mod_copy_154 rfl (lv_at hl 0 rfl) ?_
  refine x_get C hI (d := 31) (by decide) (xE31 V _) fd_Mod_16 rfl d_Mod_copy_155 ?_
  refine lv_iload hx hb d_Mod_copy_158 (lv_at hl 4 rfl) ?_
  obtain ⟨i25, h⟩ := h
  refine x_iald C hI (d := 42) (by decide) (xE42 V) i25 d_Mod_copy_160 ?_
  refine lv_icmp_ge (tgt := 267) hx hb d_Mod_copy_161 (by decide) (fun c26 => ?_) (fun c26 => ?_)
  · have h := h.1 c26
    obtain ⟨z27, ez27⟩ : ∃ y : Int32, y = x4 + 1 := ⟨_, rfl⟩
    have h := h z27 ez27
    refine lv_iinc (v := z27) (lv' := [(4, .int z27), (0, .ref (V.2.2 31)), (1, .int x1), (2, .int x2), (5, .int x5), (6, .int x6), (7, .int x7)]) hx hb d_Mod_copy_267 hl (k := 3) rfl (by rw [ez27]; rfl) (by decide) rfl (fun ls hl => ?_)
    refine lv_goto (tgt := 117) hx hb d_Mod_copy_270 (by decide) ?_
    exact hK117 _ _ _ _ _ _ _ h hI (lv_sub hl [1, 2, 3, 0] rfl)
  · have h := h.2 c26
    refine lv_aload_n hx hb d_Mod_copy_164 rfl (lv_at hl 0 rfl) ?_
    refine x_get C hI (d := 31) (by decide) (xE31 V _) fd_Mod_28 rfl d_Mod_copy_165 ?_
    refine lv_bipush (v := 15) hx hb d_Mod_copy_168 (by decide) ?_
    refine lv_iload hx hb d_Mod_copy_170 (lv_at hl 4 rfl) ?_
    refine lv_imul hx hb d_Mod_copy_172 ?_
    refine lv_iload hx hb d_Mod_copy_173 (lv_at hl 6 rfl) ?_
    refine lv_iadd hx hb d_Mod_copy_175 ?_
    obtain ⟨i28, h⟩ := h
    refine x_iald C hI (d := 46) (by decide) (xE46 V) i28 d_Mod_copy_176 ?_
    refine lv_topi (fun z29 ez29 => ?_)
    have h := h z29 ez29
    refine lv_istore (lv' := [(8, .int z29), (0, .ref (V.2.2 31)), (1, .int x1), (2, .int x2), (4, .int x4), (5, .int x5), (6, .int x6), (7, .int x7)]) hx hb d_Mod_copy_177 hl (by decide) rfl (fun ls hl => ?_)
    refine lv_aload_n hx hb d_Mod_copy_179 rfl (lv_at hl 1 rfl) ?_
    refine x_get C hI (d := 31) (by decide) (xE31 V _) fd_Mod_31 rfl d_Mod_copy_180 ?_
    refine lv_bipush (v := 15) hx hb d_Mod_copy_183 (by decide) ?_
    refine lv_iload hx hb d_Mod_copy_185 (lv_at hl 5 rfl) ?_
    refine lv_imul hx hb d_Mod_copy_187 ?_
    refine lv_iload hx hb d_Mod_copy_188 (lv_at hl 7 rfl) ?_
    refine lv_iadd hx hb d_Mod_copy_190 ?_
    obtain ⟨i30, h⟩ := h
    refine x_iald C hI (d := 47) (by decide) (xE47 V) i30 d_Mod_copy_191 ?_
    refine lv_topi (fun z31 ez31 => ?_)
    have h := h z31 ez31
    refine lv_istore (lv' := [(9, .int z31), (8, .int z29), (0, .ref (V.2.2 31)), (1, .int x1), (2, .int x2), (4, .int x4), (5, .int x5), (6, .int x6), (7, .int x7)]) hx hb d_Mod_copy_192 hl (by decide) rfl (fun ls hl => ?_)
    refine lv_aload_n hx hb d_Mod_copy_194 rfl (lv_at hl 2 rfl) ?_
    refine x_get C hI (d := 31) (by decide) (xE31 V _) fd_Mod_28 rfl d_Mod_copy_195 ?_
    refine lv_bipush (v := 15) hx hb d_Mod_copy_198 (by decide) ?_
    refine lv_iload hx hb d_Mod_copy_200 (lv_at hl 7 rfl) ?_
    refine lv_imul hx hb d_Mod_copy_202 ?_
    refine lv_iload hx hb d_Mod_copy_203 (lv_at hl 8 rfl) ?_
    refine lv_iadd hx hb d_Mod_copy_205 ?_
    refine lv_iload hx hb d_Mod_copy_206 (lv_at hl 1 rfl) ?_
    obtain ⟨i32, h⟩ := h
    refine x_iast C hI (d := 46) (by decide) (xE46 V) i32 d_Mod_copy_208 (fun H locs hI => ?_)
    refine lv_aload_n hx hb d_Mod_copy_209 rfl (lv_at hl 2 rfl) ?_
    refine x_get C hI (d := 31) (by decide) (xE31 V _) fd_Mod_31 rfl d_Mod_copy_210 ?_
    refine lv_bipush (v := 15) hx hb d_Mod_copy_213 (by decide) ?_
    refine lv_iload hx hb d_Mod_copy_215 (lv_at hl 7 rfl) ?_
    refine lv_imul hx hb d_Mod_copy_217 ?_
    refine lv_iload hx hb d_Mod_copy_218 (lv_at hl 8 rfl) ?_
    refine lv_iadd hx hb d_Mod_copy_220 ?_
    refine lv_iload hx hb d_Mod_copy_221 (lv_at hl 1 rfl) ?_
    refine lv_iconst (v := 2) hx hb d_Mod_copy_223 (by decide) ?_
    refine lv_icmp_ne (tgt := 258) hx hb d_Mod_copy_224 (by decide) (fun c33 => ?_) (fun c33 => ?_)
    · have h := h.1 c33
      refine lv_iload hx hb d_Mod_copy_258 (lv_at hl 0 rfl) ?_
      obtain ⟨i34, h⟩ := h
      refine x_iast C hI (d := 47) (by decide) (xE47 V) i34 d_Mod_copy_260 (fun H locs hI => ?_)
      obtain ⟨z35, ez35⟩ : ∃ y : Int32, y = x7 + 1 := ⟨_, rfl⟩
      have h := h z35 ez35
      refine lv_iinc (v := z35) (lv' := [(7, .int z35), (9, .int z31), (8, .int z29), (0, .ref (V.2.2 31)), (1, .int x1), (2, .int x2), (4, .int x4), (5, .int x5), (6, .int x6)]) hx hb d_Mod_copy_261 hl (k := 8) rfl (by rw [ez35]; rfl) (by decide) rfl (fun ls hl => ?_)
      refine lv_goto (tgt := 152) hx hb d_Mod_copy_264 (by decide) ?_
      exact hK152 _ _ _ _ _ _ _ _ _ _ h hI (lv_sub hl [3, 4, 5, 6, 7, 8, 0] rfl)
    · have h := h.2 c33
      refine lv_aload_n hx hb d_Mod_copy_227 rfl (lv_at hl 2 rfl) ?_
      refine x_get C hI (d := 31) (by decide) (xE31 V _) fd_Mod_65 rfl d_Mod_copy_228 ?_
      refine lv_iload hx hb d_Mod_copy_231 (lv_at hl 0 rfl) ?_
      obtain ⟨i36, h⟩ := h
      refine x_iald C hI (d := 58) (by decide) (xE58 V) i36 d_Mod_copy_233 ?_
      refine lv_iconst (v := (-1)) hx hb d_Mod_copy_234 (by decide) ?_
      refine lv_icmp_eq (tgt := 258) hx hb d_Mod_copy_235 (by decide) (fun c37 => ?_) (fun c37 => ?_)
      · have h := h.1 c37
        refine lv_iload hx hb d_Mod_copy_258 (lv_at hl 0 rfl) ?_
        obtain ⟨i38, h⟩ := h
        refine x_iast C hI (d := 47) (by decide) (xE47 V) i38 d_Mod_copy_260 (fun H locs hI => ?_)
        obtain ⟨z39, ez39⟩ : ∃ y : Int32, y = x7 + 1 := ⟨_, rfl⟩
        have h := h z39 ez39
        refine lv_iinc (v := z39) (lv' := [(7, .int z39), (9, .int z31), (8, .int z29), (0, .ref (V.2.2 31)), (1, .int x1), (2, .int x2), (4, .int x4), (5, .int x5), (6, .int x6)]) hx hb d_Mod_copy_261 hl (k := 8) rfl (by rw [ez39]; rfl) (by decide) rfl (fun ls hl => ?_)
        refine lv_goto (tgt := 152) hx hb d_Mod_copy_264 (by decide) ?_
        exact hK152 _ _ _ _ _ _ _ _ _ _ h hI (lv_sub hl [3, 4, 5, 6, 7, 8, 0] rfl)
      · have h := h.2 c37
        refine lv_aload_n hx hb d_Mod_copy_238 rfl (lv_at hl 2 rfl) ?_
        refine x_get C hI (d := 31) (by decide) (xE31 V _) fd_Mod_59 rfl d_Mod_copy_239 ?_
        refine lv_aload_n hx hb d_Mod_copy_242 rfl (lv_at hl 2 rfl) ?_
        refine x_get C hI (d := 31) (by decide) (xE31 V _) fd_Mod_97 rfl d_Mod_copy_243 ?_
        refine lv_aload_n hx hb d_Mod_copy_246 rfl (lv_at hl 2 rfl) ?_
        refine x_get C hI (d := 31) (by decide) (xE31 V _) fd_Mod_65 rfl d_Mod_copy_247 ?_
        refine lv_iload hx hb d_Mod_copy_250 (lv_at hl 0 rfl) ?_
        obtain ⟨i40, h⟩ := h
        refine x_iald C hI (d := 58) (by decide) (xE58 V) i40 d_Mod_copy_252 ?_
        refine lv_iadd hx hb d_Mod_copy_253 ?_
        obtain ⟨i41, h⟩ := h
        refine x_iald C hI (d := 56) (by decide) (xE56 V) i41 d_Mod_copy_254 ?_
        refine lv_goto (tgt := 260) hx hb d_Mod_copy_255 (by decide) ?_
        obtain ⟨i42, h⟩ := h
        refine x_iast C hI (d := 47) (by decide) (xE47 V) i42 d_Mod_copy_260 (fun H locs hI => ?_)
        obtain ⟨z43, ez43⟩ : ∃ y : Int32, y = x7 + 1 := ⟨_, rfl⟩
        have h := h z43 ez43
        refine lv_iinc (v := z43) (lv' := [(7, .int z43), (9, .int z31), (8, .int z29), (0, .ref (V.2.2 31)), (1, .int x1), (2, .int x2), (4, .int x4), (5, .int x5), (6, .int x6)]) hx hb d_Mod_copy_261 hl (k := 8) rfl (by rw [ez43]; rfl) (by decide) rfl (fun ls hl => ?_)
        refine lv_goto (tgt := 152) hx hb d_Mod_copy_264 (by decide) ?_
        exact hK152 _ _ _ _ _ _ _ _ _ _ h hI (lv_sub hl [3, 4, 5, 6, 7, 8, 0] rfl)
theorem w_Mod_copy_L152 {p : Program} {l : Launch} {e : Env} {s : State} {m : MethodId} {args : Array Value} {below : List Frame} {meth : Method} {c : Code} {V : xV} (C : xC p s m args c cd_Mod_copy 10 R_Mod V) (hlocks : meth.locks = false) (hr : meth.sig.returnType = (some .int)) {Q : Int32 → xS → Prop} {K117 : Int32 → Int32 → Int32 → xS → Prop} (hK117 : ∀ (x1 : Int32) (x2 : Int32) (x4 : Int32) (σ : xS) (H : Heap) (locs : List Loc) (ls : Array Slot), K117 x1 x2 x4 σ → xI V s.heap σ H locs → lv_has ls 10 [(0, .ref (V.2.2 31)), (1, .int x1), (2, .int x2), (4, .int x4)] → W p l e rm_Mod_copy s m args below meth c H locs 0 0 (xZi below V args s Q) (F0 m 117 ls [])) : ∀ (n : Nat) (x1 : Int32) (x2 : Int32) (x4 : Int32) (x5 : Int32) (x6 : Int32) (x7 : Int32) (σ : xS) (H : Heap) (locs : List Loc) (ls : Array Slot), p_Mod_copy_L152 K117 Q n x1 x2 x4 x5 x6 x7 σ → xI V s.heap σ H locs → lv_has ls 10 [(0, .ref (V.2.2 31)), (1, .int x1), (2, .int x2), (4, .int x4), (5, .int x5), (6, .int x6), (7, .int x7)] → W p l e rm_Mod_copy s m args below meth c H locs 0 0 (xZi below V args s Q) (F0 m 152 ls []) := by
  intro n
  induction n with
  | zero =>
    intro x1 x2 x4 x5 x6 x7 σ H locs ls h
    exact False.elim h
  | succ n ih =>
    intro x1 x2 x4 x5 x6 x7 σ H locs ls h hI hl
    exact s_Mod_copy_L152 C hlocks hr hK117 (K152 := p_Mod_copy_L152 K117 Q n) (fun x1 x2 x4 x5 x6 x7 σ H locs ls h hI hl => ih x1 x2 x4 x5 x6 x7 σ H locs ls h hI hl) h hI hl
set_option maxRecDepth 100000 in
set_option maxHeartbeats 4000000 in
theorem s_Mod_copy_L117 {p : Program} {l : Launch} {e : Env} {s : State} {m : MethodId} {args : Array Value} {below : List Frame} {meth : Method} {c : Code} {V : xV} (C : xC p s m args c cd_Mod_copy 10 R_Mod V) (hlocks : meth.locks = false) (hr : meth.sig.returnType = (some .int)) {Q : Int32 → xS → Prop} {K117 : Int32 → Int32 → Int32 → xS → Prop} (hK117 : ∀ (x1 : Int32) (x2 : Int32) (x4 : Int32) (σ : xS) (H : Heap) (locs : List Loc) (ls : Array Slot), K117 x1 x2 x4 σ → xI V s.heap σ H locs → lv_has ls 10 [(0, .ref (V.2.2 31)), (1, .int x1), (2, .int x2), (4, .int x4)] → W p l e rm_Mod_copy s m args below meth c H locs 0 0 (xZi below V args s Q) (F0 m 117 ls [])) {x1 x2 x4 : Int32} {σ : xS} {H : Heap} {locs : List Loc} {ls : Array Slot} (h : b_Mod_copy_L117 K117 Q x1 x2 x4 σ) (hI : xI V s.heap σ H locs) (hl : lv_has ls 10 [(0, .ref (V.2.2 31)), (1, .int x1), (2, .int x2), (4, .int x4)]) : W p l e rm_Mod_copy s m args below meth c H locs 0 0 (xZi below V args s Q) (F0 m 117 ls []) := by
  have hx := C.1
  have hb := C.2.1
  unfold b_Mod_copy_L117 at h
  refine lv_iload hx hb d_Mod_copy_117 (lv_at hl 3 rfl) ?_
  refine lv_aload_n hx hb d_Mod_copy_119 rfl (lv_at hl 0 rfl) ?_
  refine x_get C hI (d := 31) (by decide) (xE31 V _) fd_Mod_161 rfl d_Mod_copy_120 ?_
  refine lv_icmp_ge (tgt := 273) hx hb d_Mod_copy_123 (by decide) (fun c14 => ?_) (fun c14 => ?_)
  · have h := h.1 c14
    refine lv_aload_n hx hb d_Mod_copy_273 rfl (lv_at hl 0 rfl) ?_
    refine x_get C hI (d := 31) (by decide) (xE31 V _) fd_Mod_53 rfl d_Mod_copy_274 ?_
    refine lv_iload_n hx hb d_Mod_copy_277 rfl (lv_at hl 1 rfl) ?_
    refine lv_aload_n hx hb d_Mod_copy_278 rfl (lv_at hl 0 rfl) ?_
    refine x_get C hI (d := 31) (by decide) (xE31 V _) fd_Mod_53 rfl d_Mod_copy_279 ?_
    refine lv_iload_n hx hb d_Mod_copy_282 rfl (lv_at hl 2 rfl) ?_
    obtain ⟨i15, h⟩ := h
    refine x_iald C hI (d := 54) (by decide) (xE54 V) i15 d_Mod_copy_283 ?_
    obtain ⟨i16, h⟩ := h
    refine x_iast C hI (d := 54) (by decide) (xE54 V) i16 d_Mod_copy_284 (fun H locs hI => ?_)
    refine lv_aload_n hx hb d_Mod_copy_285 rfl (lv_at hl 0 rfl) ?_
    refine x_get C hI (d := 31) (by decide) (xE31 V _) fd_Mod_56 rfl d_Mod_copy_286 ?_
    refine lv_iload_n hx hb d_Mod_copy_289 rfl (lv_at hl 1 rfl) ?_
    refine lv_aload_n hx hb d_Mod_copy_290 rfl (lv_at hl 0 rfl) ?_
    refine x_get C hI (d := 31) (by decide) (xE31 V _) fd_Mod_161 rfl d_Mod_copy_291 ?_
    refine lv_if_le (tgt := 309) hx hb d_Mod_copy_294 (by decide) (fun c17 => ?_) (fun c17 => ?_)
    · have h := h.1 c17
      refine lv_aload_n hx hb d_Mod_copy_309 rfl (lv_at hl 0 rfl) ?_
      refine x_get C hI (d := 31) (by decide) (xE31 V _) fd_Mod_56 rfl d_Mod_copy_310 ?_
      refine lv_iload_n hx hb d_Mod_copy_313 rfl (lv_at hl 2 rfl) ?_
      obtain ⟨i18, h⟩ := h
      refine x_iald C hI (d := 55) (by decide) (xE55 V) i18 d_Mod_copy_314 ?_
      exact t_Mod_copy_J315 C hlocks hr h hI (lv_sub hl [0] rfl)
    · have h := h.2 c17
      refine lv_aload_n hx hb d_Mod_copy_297 rfl (lv_at hl 0 rfl) ?_
      refine x_get C hI (d := 31) (by decide) (xE31 V _) fd_Mod_59 rfl d_Mod_copy_298 ?_
      refine lv_aload_n hx hb d_Mod_copy_301 rfl (lv_at hl 0 rfl) ?_
      refine x_get C hI (d := 31) (by decide) (xE31 V _) fd_Mod_97 rfl d_Mod_copy_302 ?_
      obtain ⟨i20, h⟩ := h
      refine x_iald C hI (d := 56) (by decide) (xE56 V) i20 d_Mod_copy_305 ?_
      refine lv_goto (tgt := 315) hx hb d_Mod_copy_306 (by decide) ?_
      exact t_Mod_copy_J315 C hlocks hr h hI (lv_sub hl [0] rfl)
  · have h := h.2 c14
    refine lv_aload_n hx hb d_Mod_copy_126 rfl (lv_at hl 0 rfl) ?_
    refine x_get C hI (d := 31) (by decide) (xE31 V _) fd_Mod_62 rfl d_Mod_copy_127 ?_
    refine lv_iload hx hb d_Mod_copy_130 (lv_at hl 3 rfl) ?_
    obtain ⟨i21, h⟩ := h
    refine x_iald C hI (d := 57) (by decide) (xE57 V) i21 d_Mod_copy_132 ?_
    refine lv_topi (fun z22 ez22 => ?_)
    have h := h z22 ez22
    refine lv_istore (lv' := [(5, .int z22), (0, .ref (V.2.2 31)), (1, .int x1), (2, .int x2), (4, .int x4)]) hx hb d_Mod_copy_133 hl (by decide) rfl (fun ls hl => ?_)
    refine lv_aload_n hx hb d_Mod_copy_135 rfl (lv_at hl 1 rfl) ?_
    refine x_get C hI (d := 31) (by decide) (xE31 V _) fd_Mod_59 rfl d_Mod_copy_136 ?_
    refine lv_aload_n hx hb d_Mod_copy_139 rfl (lv_at hl 1 rfl) ?_
    refine x_get C hI (d := 31) (by decide) (xE31 V _) fd_Mod_97 rfl d_Mod_copy_140 ?_
    refine lv_iload hx hb d_Mod_copy_143 (lv_at hl 4 rfl) ?_
    refine lv_iadd hx hb d_Mod_copy_145 ?_
    obtain ⟨i23, h⟩ := h
    refine x_iald C hI (d := 56) (by decide) (xE56 V) i23 d_Mod_copy_146 ?_
    refine lv_topi (fun z24 ez24 => ?_)
    have h := h z24 ez24
    refine lv_istore (lv' := [(6, .int z24), (5, .int z22), (0, .ref (V.2.2 31)), (1, .int x1), (2, .int x2), (4, .int x4)]) hx hb d_Mod_copy_147 hl (by decide) rfl (fun ls hl => ?_)
    refine lv_iconst (v := 0) hx hb d_Mod_copy_149 (by decide) ?_
    refine lv_istore (lv' := [(7, .int 0), (6, .int z24), (5, .int z22), (0, .ref (V.2.2 31)), (1, .int x1), (2, .int x2), (4, .int x4)]) hx hb d_Mod_copy_150 hl (by decide) rfl (fun ls hl => ?_)
    obtain ⟨n, h⟩ := h
    exact w_Mod_copy_L152 C hlocks hr hK117 n _ _ _ _ _ _ _ _ _ _ h hI (lv_sub hl [3, 4, 5, 6, 2, 1, 0] rfl)
theorem w_Mod_copy_L117 {p : Program} {l : Launch} {e : Env} {s : State} {m : MethodId} {args : Array Value} {below : List Frame} {meth : Method} {c : Code} {V : xV} (C : xC p s m args c cd_Mod_copy 10 R_Mod V) (hlocks : meth.locks = false) (hr : meth.sig.returnType = (some .int)) {Q : Int32 → xS → Prop} : ∀ (n : Nat) (x1 : Int32) (x2 : Int32) (x4 : Int32) (σ : xS) (H : Heap) (locs : List Loc) (ls : Array Slot), p_Mod_copy_L117 Q n x1 x2 x4 σ → xI V s.heap σ H locs → lv_has ls 10 [(0, .ref (V.2.2 31)), (1, .int x1), (2, .int x2), (4, .int x4)] → W p l e rm_Mod_copy s m args below meth c H locs 0 0 (xZi below V args s Q) (F0 m 117 ls []) := by
  intro n
  induction n with
  | zero =>
    intro x1 x2 x4 σ H locs ls h
    exact False.elim h
  | succ n ih =>
    intro x1 x2 x4 σ H locs ls h hI hl
    exact s_Mod_copy_L117 C hlocks hr (K117 := p_Mod_copy_L117 Q n) (fun x1 x2 x4 σ H locs ls h hI hl => ih x1 x2 x4 σ H locs ls h hI hl) h hI hl
set_option maxRecDepth 100000 in
set_option maxHeartbeats 4000000 in
theorem s_Mod_copy_L52 {p : Program} {l : Launch} {e : Env} {s : State} {m : MethodId} {args : Array Value} {below : List Frame} {meth : Method} {c : Code} {V : xV} (C : xC p s m args c cd_Mod_copy 10 R_Mod V) (hlocks : meth.locks = false) (hr : meth.sig.returnType = (some .int)) {Q : Int32 → xS → Prop} {K52 : Int32 → Int32 → Int32 → Int32 → xS → Prop} (hK52 : ∀ (x1 : Int32) (x2 : Int32) (x3 : Int32) (x4 : Int32) (σ : xS) (H : Heap) (locs : List Loc) (ls : Array Slot), K52 x1 x2 x3 x4 σ → xI V s.heap σ H locs → lv_has ls 10 [(0, .ref (V.2.2 31)), (1, .int x1), (2, .int x2), (3, .int x3), (4, .int x4)] → W p l e rm_Mod_copy s m args below meth c H locs 0 0 (xZi below V args s Q) (F0 m 52 ls [])) {x1 x2 x3 x4 : Int32} {σ : xS} {H : Heap} {locs : List Loc} {ls : Array Slot} (h : b_Mod_copy_L52 K52 Q x1 x2 x3 x4 σ) (hI : xI V s.heap σ H locs) (hl : lv_has ls 10 [(0, .ref (V.2.2 31)), (1, .int x1), (2, .int x2), (3, .int x3), (4, .int x4)]) : W p l e rm_Mod_copy s m args below meth c H locs 0 0 (xZi below V args s Q) (F0 m 52 ls []) := by
  have hx := C.1
  have hb := C.2.1
  unfold b_Mod_copy_L52 at h
  refine lv_iload hx hb d_Mod_copy_52 (lv_at hl 4 rfl) ?_
  refine lv_aload_n hx hb d_Mod_copy_54 rfl (lv_at hl 0 rfl) ?_
  refine x_get C hI (d := 31) (by decide) (xE31 V _) fd_Mod_161 rfl d_Mod_copy_55 ?_
  refine lv_icmp_ge (tgt := 114) hx hb d_Mod_copy_58 (by decide) (fun c13 => ?_) (fun c13 => ?_)
  · have h := h.1 c13
    refine lv_iconst (v := 0) hx hb d_Mod_copy_114 (by decide) ?_
    refine lv_istore (lv' := [(4, .int 0), (0, .ref (V.2.2 31)), (1, .int x1), (2, .int x2), (3, .int x3)]) hx hb d_Mod_copy_115 hl (by decide) rfl (fun ls hl => ?_)
    obtain ⟨n, h⟩ := h
    exact w_Mod_copy_L117 C hlocks hr n _ _ _ _ _ _ _ h hI (lv_sub hl [1, 2, 3, 0] rfl)
  · have h := h.2 c13
    refine lv_aload_n hx hb d_Mod_copy_61 rfl (lv_at hl 0 rfl) ?_
    refine x_get C hI (d := 31) (by decide) (xE31 V _) fd_Mod_62 rfl d_Mod_copy_62 ?_
    refine lv_iload hx hb d_Mod_copy_65 (lv_at hl 4 rfl) ?_
    obtain ⟨i44, h⟩ := h
    refine x_iald C hI (d := 57) (by decide) (xE57 V) i44 d_Mod_copy_67 ?_
    refine lv_topi (fun z45 ez45 => ?_)
    have h := h z45 ez45
    refine lv_istore (lv' := [(5, .int z45), (0, .ref (V.2.2 31)), (1, .int x1), (2, .int x2), (3, .int x3), (4, .int x4)]) hx hb d_Mod_copy_68 hl (by decide) rfl (fun ls hl => ?_)
    refine lv_aload_n hx hb d_Mod_copy_70 rfl (lv_at hl 1 rfl) ?_
    refine x_get C hI (d := 31) (by decide) (xE31 V _) fd_Mod_59 rfl d_Mod_copy_71 ?_
    refine lv_aload_n hx hb d_Mod_copy_74 rfl (lv_at hl 1 rfl) ?_
    refine x_get C hI (d := 31) (by decide) (xE31 V _) fd_Mod_97 rfl d_Mod_copy_75 ?_
    refine lv_iload hx hb d_Mod_copy_78 (lv_at hl 5 rfl) ?_
    refine lv_iadd hx hb d_Mod_copy_80 ?_
    refine lv_aload_n hx hb d_Mod_copy_81 rfl (lv_at hl 1 rfl) ?_
    refine lv_iload_n hx hb d_Mod_copy_82 rfl (lv_at hl 4 rfl) ?_
    refine lv_aload_n hx hb d_Mod_copy_83 rfl (lv_at hl 1 rfl) ?_
    refine x_get C hI (d := 31) (by decide) (xE31 V _) fd_Mod_7 rfl d_Mod_copy_84 ?_
    refine lv_iload hx hb d_Mod_copy_87 (lv_at hl 0 rfl) ?_
    obtain ⟨i46, h⟩ := h
    refine x_iald C hI (d := 40) (by decide) (xE40 V) i46 d_Mod_copy_89 ?_
    refine lv_aload_n hx hb d_Mod_copy_90 rfl (lv_at hl 1 rfl) ?_
    refine x_get C hI (d := 31) (by decide) (xE31 V _) fd_Mod_13 rfl d_Mod_copy_91 ?_
    refine lv_iload hx hb d_Mod_copy_94 (lv_at hl 0 rfl) ?_
    obtain ⟨i47, h⟩ := h
    refine x_iald C hI (d := 41) (by decide) (xE41 V) i47 d_Mod_copy_96 ?_
    refine lv_aload_n hx hb d_Mod_copy_97 rfl (lv_at hl 1 rfl) ?_
    refine x_get C hI (d := 31) (by decide) (xE31 V _) fd_Mod_16 rfl d_Mod_copy_98 ?_
    refine lv_iload hx hb d_Mod_copy_101 (lv_at hl 0 rfl) ?_
    obtain ⟨i48, h⟩ := h
    refine x_iald C hI (d := 42) (by decide) (xE42 V) i48 d_Mod_copy_103 ?_
    refine x_calli C hI hl.1 (d := 31) (As := [.int x3, .int (σ 40 z45.toNatClampNeg), .int (σ 41 z45.toNatClampNeg), .int (σ 42 z45.toNatClampNeg)]) (rest := [.int ((σ 31 19) + x4), .ref (V.2.2 56)]) (by decide) (c_Mod_create h) (xE31 V _) rfl yw_Mod_create ml_Mod_154 rfl rfl ⟨Nat.le_of_ble_eq_true rfl, Nat.le_of_ble_eq_true rfl⟩ rfl rfl (Nat.le_of_ble_eq_true rfl) d_Mod_copy_104 ⟨Nat.zero_le _, Nat.zero_le _⟩ (fun r50 σ49 H locs h hI => ?_)
    obtain ⟨i51, h⟩ := h
    refine x_iast C hI (d := 56) (by decide) (xE56 V) i51 d_Mod_copy_107 (fun H locs hI => ?_)
    obtain ⟨z52, ez52⟩ : ∃ y : Int32, y = x4 + 1 := ⟨_, rfl⟩
    have h := h z52 ez52
    refine lv_iinc (v := z52) (lv' := [(4, .int z52), (5, .int z45), (0, .ref (V.2.2 31)), (1, .int x1), (2, .int x2), (3, .int x3)]) hx hb d_Mod_copy_108 hl (k := 5) rfl (by rw [ez52]; rfl) (by decide) rfl (fun ls hl => ?_)
    refine lv_goto (tgt := 52) hx hb d_Mod_copy_111 (by decide) ?_
    exact hK52 _ _ _ _ _ _ _ _ h hI (lv_sub hl [2, 3, 4, 5, 0] rfl)
theorem w_Mod_copy_L52 {p : Program} {l : Launch} {e : Env} {s : State} {m : MethodId} {args : Array Value} {below : List Frame} {meth : Method} {c : Code} {V : xV} (C : xC p s m args c cd_Mod_copy 10 R_Mod V) (hlocks : meth.locks = false) (hr : meth.sig.returnType = (some .int)) {Q : Int32 → xS → Prop} : ∀ (n : Nat) (x1 : Int32) (x2 : Int32) (x3 : Int32) (x4 : Int32) (σ : xS) (H : Heap) (locs : List Loc) (ls : Array Slot), p_Mod_copy_L52 Q n x1 x2 x3 x4 σ → xI V s.heap σ H locs → lv_has ls 10 [(0, .ref (V.2.2 31)), (1, .int x1), (2, .int x2), (3, .int x3), (4, .int x4)] → W p l e rm_Mod_copy s m args below meth c H locs 0 0 (xZi below V args s Q) (F0 m 52 ls []) := by
  intro n
  induction n with
  | zero =>
    intro x1 x2 x3 x4 σ H locs ls h
    exact False.elim h
  | succ n ih =>
    intro x1 x2 x3 x4 σ H locs ls h hI hl
    exact s_Mod_copy_L52 C hlocks hr (K52 := p_Mod_copy_L52 Q n) (fun x1 x2 x3 x4 σ H locs ls h hI hl => ih x1 x2 x3 x4 σ H locs ls h hI hl) h hI hl
set_option maxRecDepth 100000 in
set_option maxHeartbeats 4000000 in
theorem t_Mod_copy_J20 {p : Program} {l : Launch} {e : Env} {s : State} {m : MethodId} {args : Array Value} {below : List Frame} {meth : Method} {c : Code} {V : xV} (C : xC p s m args c cd_Mod_copy 10 R_Mod V) (hlocks : meth.locks = false) (hr : meth.sig.returnType = (some .int)) {Q : Int32 → xS → Prop} {x1 x2 x3 : Int32} {y0 : Int32} {σ : xS} {H : Heap} {locs : List Loc} {ls : Array Slot} (h : p_Mod_copy_J20 Q x1 x2 x3 y0 σ) (hI : xI V s.heap σ H locs) (hl : lv_has ls 10 [(0, .ref (V.2.2 31)), (1, .int x1), (2, .int x2), (3, .int x3)]) : W p l e rm_Mod_copy s m args below meth c H locs 0 0 (xZi below V args s Q) (F0 m 20 ls [.int y0, .ref (V.2.2 31)]) := by
  have hx := C.1
  have hb := C.2.1
  unfold p_Mod_copy_J20 at h
  refine lv_aload_n hx hb d_Mod_copy_20 rfl (lv_at hl 0 rfl) ?_
  refine lv_iload_n hx hb d_Mod_copy_21 rfl (lv_at hl 3 rfl) ?_
  refine x_calli C hI hl.1 (d := 31) (As := [.int x3]) (rest := [.int y0, .ref (V.2.2 31)]) (by decide) (c_Mod_isRegion h) (xE31 V _) rfl yw_Mod_isRegion ml_Mod_140 rfl rfl ⟨Nat.le_of_ble_eq_true rfl, Nat.le_of_ble_eq_true rfl⟩ rfl rfl (Nat.le_of_ble_eq_true rfl) d_Mod_copy_22 ⟨Nat.zero_le _, Nat.zero_le _⟩ (fun r5 σ4 H locs h hI => ?_)
  refine x_calli C hI hl.1 (d := 31) (As := [.int y0, .int r5]) (rest := []) (by decide) (c_Mod_goes h) (xE31 V _) rfl yw_Mod_goes ml_Mod_144 rfl rfl ⟨Nat.le_of_ble_eq_true rfl, Nat.le_of_ble_eq_true rfl⟩ rfl rfl (Nat.le_of_ble_eq_true rfl) d_Mod_copy_25 ⟨Nat.zero_le _, Nat.zero_le _⟩ (fun r7 σ6 H locs h hI => ?_)
  refine lv_if_ne (tgt := 33) hx hb d_Mod_copy_28 (by decide) (fun c8 => ?_) (fun c8 => ?_)
  · have h := h.1 c8
    refine lv_aload_n hx hb d_Mod_copy_33 rfl (lv_at hl 0 rfl) ?_
    refine lv_iload_n hx hb d_Mod_copy_34 rfl (lv_at hl 2 rfl) ?_
    refine lv_iload_n hx hb d_Mod_copy_35 rfl (lv_at hl 3 rfl) ?_
    refine x_callv C hI hl.1 (d := 31) (As := [.int x2, .int x3]) (rest := []) (by decide) (c_Mod_findParts h) (xE31 V _) rfl yw_Mod_findParts ml_Mod_168 rfl rfl ⟨Nat.le_of_ble_eq_true rfl, Nat.le_of_ble_eq_true rfl⟩ rfl rfl (Nat.le_of_ble_eq_true rfl) d_Mod_copy_36 ⟨Nat.zero_le _, Nat.zero_le _⟩ (fun σ9 H locs h hI => ?_)
    refine lv_aload_n hx hb d_Mod_copy_39 rfl (lv_at hl 0 rfl) ?_
    refine lv_iload_n hx hb d_Mod_copy_40 rfl (lv_at hl 3 rfl) ?_
    refine x_calli C hI hl.1 (d := 31) (As := [.int x3]) (rest := []) (by decide) (c_Mod_haveRoom h) (xE31 V _) rfl yw_Mod_haveRoom ml_Mod_171 rfl rfl ⟨Nat.le_of_ble_eq_true rfl, Nat.le_of_ble_eq_true rfl⟩ rfl rfl (Nat.le_of_ble_eq_true rfl) d_Mod_copy_41 ⟨Nat.zero_le _, Nat.zero_le _⟩ (fun r11 σ10 H locs h hI => ?_)
    refine lv_if_ne (tgt := 49) hx hb d_Mod_copy_44 (by decide) (fun c12 => ?_) (fun c12 => ?_)
    · have h := h.1 c12
      refine lv_iconst (v := 0) hx hb d_Mod_copy_49 (by decide) ?_
      refine lv_istore (lv' := [(4, .int 0), (0, .ref (V.2.2 31)), (1, .int x1), (2, .int x2), (3, .int x3)]) hx hb d_Mod_copy_50 hl (by decide) rfl (fun ls hl => ?_)
      obtain ⟨n, h⟩ := h
      exact w_Mod_copy_L52 C hlocks hr n _ _ _ _ _ _ _ _ h hI (lv_sub hl [1, 2, 3, 4, 0] rfl)
    · have h := h.2 c12
      refine lv_iconst (v := (-1)) hx hb d_Mod_copy_47 (by decide) ?_
      exact x_iret C hlocks hr hI h d_Mod_copy_48
  · have h := h.2 c8
    refine lv_iconst (v := 0) hx hb d_Mod_copy_31 (by decide) ?_
    exact x_iret C hlocks hr hI h d_Mod_copy_32
set_option maxRecDepth 100000 in
set_option maxHeartbeats 4000000 in
theorem t_Mod_copy_J19 {p : Program} {l : Launch} {e : Env} {s : State} {m : MethodId} {args : Array Value} {below : List Frame} {meth : Method} {c : Code} {V : xV} (C : xC p s m args c cd_Mod_copy 10 R_Mod V) (hlocks : meth.locks = false) (hr : meth.sig.returnType = (some .int)) {Q : Int32 → xS → Prop} {x1 x2 x3 : Int32} {σ : xS} {H : Heap} {locs : List Loc} {ls : Array Slot} (h : p_Mod_copy_J19 Q x1 x2 x3 σ) (hI : xI V s.heap σ H locs) (hl : lv_has ls 10 [(0, .ref (V.2.2 31)), (1, .int x1), (2, .int x2), (3, .int x3)]) : W p l e rm_Mod_copy s m args below meth c H locs 0 0 (xZi below V args s Q) (F0 m 19 ls [.ref (V.2.2 31)]) := by
  have hx := C.1
  have hb := C.2.1
  unfold p_Mod_copy_J19 at h
  refine lv_iconst (v := 0) hx hb d_Mod_copy_19 (by decide) ?_
  exact t_Mod_copy_J20 C hlocks hr h hI (lv_sub hl [0, 1, 2, 3] rfl)
set_option maxRecDepth 100000 in
set_option maxHeartbeats 4000000 in
theorem c_Mod_copy {l : Launch} {V : xV} {σ : xS} {x1 x2 x3 : Int32} {Q : Int32 → xS → Prop} (h : p_Mod_copy x1 x2 x3 σ Q) : xMi l y_Mod_copy (.code y_Mod_copy cd_Mod_copy 10 (some .int) :: xG) rm_Mod_copy V [.ref (V.2.2 31), .int x1, .int x2, .int x3] σ Q := by
  refine x_begini (by decide) (Nat.le_of_ble_eq_true rfl) (fun p e s m below meth c ls C hlocks hr hI hl => ?_)
  have C : xC p s m _ c cd_Mod_copy 10 R_Mod V := C
  have hx := C.1
  have hb := C.2.1
  have hl : lv_has ls 10 [(0, .ref (V.2.2 31)), (1, .int x1), (2, .int x2), (3, .int x3)] := hl
  unfold p_Mod_copy at h
  refine lv_aload_n hx hb d_Mod_copy_0 rfl (lv_at hl 0 rfl) ?_
  refine lv_iload_n hx hb d_Mod_copy_1 rfl (lv_at hl 1 rfl) ?_
  refine x_calliS C hI hl.1 (As := [.int x1]) (rest := [.ref (V.2.2 31)]) (c_Mod_isRoot h) yw_Mod_isRoot ml_Mod_151 rfl rfl ⟨Nat.le_of_ble_eq_true rfl, Nat.le_of_ble_eq_true rfl⟩ rfl rfl (Nat.le_of_ble_eq_true rfl) d_Mod_copy_2 ⟨Nat.zero_le _, Nat.zero_le _⟩ (fun r2 σ1 H locs h hI => ?_)
  refine lv_if_eq (tgt := 19) hx hb d_Mod_copy_5 (by decide) (fun c3 => ?_) (fun c3 => ?_)
  · have h := h.1 c3
    exact t_Mod_copy_J19 C hlocks hr h hI (lv_sub hl [0, 1, 2, 3] rfl)
  · have h := h.2 c3
    refine lv_iload_n hx hb d_Mod_copy_8 rfl (lv_at hl 2 rfl) ?_
    refine x_calliS C hI hl.1 (As := [.int x2]) (rest := [.ref (V.2.2 31)]) (c_Mod_isRoot h) yw_Mod_isRoot ml_Mod_151 rfl rfl ⟨Nat.le_of_ble_eq_true rfl, Nat.le_of_ble_eq_true rfl⟩ rfl rfl (Nat.le_of_ble_eq_true rfl) d_Mod_copy_9 ⟨Nat.zero_le _, Nat.zero_le _⟩ (fun r54 σ53 H locs h hI => ?_)
    refine lv_if_eq (tgt := 19) hx hb d_Mod_copy_12 (by decide) (fun c55 => ?_) (fun c55 => ?_)
    · have h := h.1 c55
      exact t_Mod_copy_J19 C hlocks hr h hI (lv_sub hl [0, 1, 2, 3] rfl)
    · have h := h.2 c55
      refine lv_iconst (v := 1) hx hb d_Mod_copy_15 (by decide) ?_
      refine lv_goto (tgt := 20) hx hb d_Mod_copy_16 (by decide) ?_
      exact t_Mod_copy_J20 C hlocks hr h hI (lv_sub hl [0, 1, 2, 3] rfl)
def y_Mod_watch : MethodName := ⟨"RegionPoolModel", "watch", "(I)Z"⟩
abbrev cd_Mod_watch : ByteArray := prog_12_method_36_code
theorem fd_Mod_180 : xFd R_Mod 180 10 10 := ⟨R_Mod, T_Mod, 32, rfl, in_Mod, by decide, xG_mem 994 (by decide +kernel) (by decide +kernel)⟩
theorem fw_Mod_180 : xFw R_Mod 180 10 10 := ⟨R_Mod, T_Mod, 32, t_Mod, rfl, in_Mod, by decide, xG_mem 994 (by decide +kernel) (by decide +kernel), tk_Mod, nm_Mod, rfl, by decide +kernel⟩
theorem xP_31_10 (V : xV) (f : Nat → Int32) (x : Int32) : xE V 31 (upd f 10 x) = .inr (10, [.int (f 0), .ref (V.2.2 40), .ref (V.2.2 41), .ref (V.2.2 42), .ref (V.2.2 43), .ref (V.2.2 44), .ref (V.2.2 45), .ref (V.2.2 46), .ref (V.2.2 47), .ref (V.2.2 48), .int (f 10), .ref (V.2.2 49), .ref (V.2.2 50), .int (f 13), .ref (V.2.2 51), .ref (V.2.2 52), .ref (V.2.2 53), .ref (V.2.2 54), .ref (V.2.2 55), .int (f 19), .ref (V.2.2 56), .int (f 21), .int (f 22), .int (f 23), .int (f 24), .int (f 25), .int (f 26), .ref (V.2.2 57), .ref (V.2.2 58), .ref (V.2.2 59), .ref (V.2.2 60), .int (f 31)].set 10 (.int x)) := rfl
def p_Mod_watch_J24 (Q : Int32 → xS → Prop) (x1 : Int32) (y0 : Int32) (y1 : Int32) (σ : xS) : Prop :=
  p_Mod_goes y1 y0 σ (fun r5 σ4 => ((¬ r5 = 0 → (vp_in x1 16 ∧ (∀ z8 : Int32, z8 = (σ4 55 x1.toNatClampNeg) → (vp_in z8 640 ∧ (((σ4 45 z8.toNatClampNeg) ≤ 0 → (vp_in z8 640 ∧ Q 1 (xu (xu σ4 31 10 ((σ4 31 10) + 1)) 45 z8.toNatClampNeg ((xu σ4 31 10 ((σ4 31 10) + 1)) 31 10)))) ∧ (¬ (σ4 45 z8.toNatClampNeg) ≤ 0 → Q 0 σ4)))))) ∧ (r5 = 0 → Q 0 σ4)))
def p_Mod_watch_J23 (Q : Int32 → xS → Prop) (x1 : Int32) (y0 : Int32) (σ : xS) : Prop :=
  p_Mod_watch_J24 Q x1 0 y0 σ
def p_Mod_watch (x1 : Int32) (σ : xS) (Q : Int32 → xS → Prop) : Prop :=
  p_Mod_isRoot x1 σ (fun r2 σ1 => ((r2 = 0 → p_Mod_watch_J23 Q x1 r2 σ1) ∧ (¬ r2 = 0 → p_Mod_refers x1 σ1 (fun r13 σ12 => ((r13 = 0 → p_Mod_watch_J23 Q x1 r2 σ12) ∧ (¬ r13 = 0 → p_Mod_watch_J24 Q x1 1 r2 σ12))))))
abbrev rm_Mod_watch : Room := { frames := 2, cells := 0, slots := 0, locals := 41 }
theorem d_Mod_watch_0 : decode cd_Mod_watch 0 = .ok (.iload_n 1, 1) := by decide +kernel
theorem d_Mod_watch_1 : decode cd_Mod_watch 1 = .ok (.invokestatic 151, 3) := by decide +kernel
theorem d_Mod_watch_4 : decode cd_Mod_watch 4 = .ok (.istore_n 2, 1) := by decide +kernel
theorem d_Mod_watch_5 : decode cd_Mod_watch 5 = .ok (.aload_n 0, 1) := by decide +kernel
theorem d_Mod_watch_6 : decode cd_Mod_watch 6 = .ok (.iload_n 2, 1) := by decide +kernel
theorem d_Mod_watch_7 : decode cd_Mod_watch 7 = .ok (.iload_n 2, 1) := by decide +kernel
theorem d_Mod_watch_8 : decode cd_Mod_watch 8 = .ok (.ifCond .eq 15, 3) := by decide +kernel
theorem d_Mod_watch_11 : decode cd_Mod_watch 11 = .ok (.aload_n 0, 1) := by decide +kernel
theorem d_Mod_watch_12 : decode cd_Mod_watch 12 = .ok (.iload_n 1, 1) := by decide +kernel
theorem d_Mod_watch_13 : decode cd_Mod_watch 13 = .ok (.invokevirtual 158, 3) := by decide +kernel
theorem d_Mod_watch_16 : decode cd_Mod_watch 16 = .ok (.ifCond .eq 7, 3) := by decide +kernel
theorem d_Mod_watch_19 : decode cd_Mod_watch 19 = .ok (.iconst 1, 1) := by decide +kernel
theorem d_Mod_watch_20 : decode cd_Mod_watch 20 = .ok (.goto 4, 3) := by decide +kernel
theorem d_Mod_watch_23 : decode cd_Mod_watch 23 = .ok (.iconst 0, 1) := by decide +kernel
theorem d_Mod_watch_24 : decode cd_Mod_watch 24 = .ok (.invokevirtual 144, 3) := by decide +kernel
theorem d_Mod_watch_27 : decode cd_Mod_watch 27 = .ok (.ifCond .ne 5, 3) := by decide +kernel
theorem d_Mod_watch_30 : decode cd_Mod_watch 30 = .ok (.iconst 0, 1) := by decide +kernel
theorem d_Mod_watch_31 : decode cd_Mod_watch 31 = .ok (.ireturn, 1) := by decide +kernel
theorem d_Mod_watch_32 : decode cd_Mod_watch 32 = .ok (.aload_n 0, 1) := by decide +kernel
theorem d_Mod_watch_33 : decode cd_Mod_watch 33 = .ok (.getfield 56, 3) := by decide +kernel
theorem d_Mod_watch_36 : decode cd_Mod_watch 36 = .ok (.iload_n 1, 1) := by decide +kernel
theorem d_Mod_watch_37 : decode cd_Mod_watch 37 = .ok (.iaload, 1) := by decide +kernel
theorem d_Mod_watch_38 : decode cd_Mod_watch 38 = .ok (.istore_n 3, 1) := by decide +kernel
theorem d_Mod_watch_39 : decode cd_Mod_watch 39 = .ok (.aload_n 0, 1) := by decide +kernel
theorem d_Mod_watch_40 : decode cd_Mod_watch 40 = .ok (.getfield 25, 3) := by decide +kernel
theorem d_Mod_watch_43 : decode cd_Mod_watch 43 = .ok (.iload_n 3, 1) := by decide +kernel
theorem d_Mod_watch_44 : decode cd_Mod_watch 44 = .ok (.iaload, 1) := by decide +kernel
theorem d_Mod_watch_45 : decode cd_Mod_watch 45 = .ok (.ifCond .le 5, 3) := by decide +kernel
theorem d_Mod_watch_48 : decode cd_Mod_watch 48 = .ok (.iconst 0, 1) := by decide +kernel
theorem d_Mod_watch_49 : decode cd_Mod_watch 49 = .ok (.ireturn, 1) := by decide +kernel
theorem d_Mod_watch_50 : decode cd_Mod_watch 50 = .ok (.aload_n 0, 1) := by decide +kernel
theorem d_Mod_watch_51 : decode cd_Mod_watch 51 = .ok (.dup, 1) := by decide +kernel
theorem d_Mod_watch_52 : decode cd_Mod_watch 52 = .ok (.getfield 180, 3) := by decide +kernel
theorem d_Mod_watch_55 : decode cd_Mod_watch 55 = .ok (.iconst 1, 1) := by decide +kernel
theorem d_Mod_watch_56 : decode cd_Mod_watch 56 = .ok (.iadd, 1) := by decide +kernel
theorem d_Mod_watch_57 : decode cd_Mod_watch 57 = .ok (.putfield 180, 3) := by decide +kernel
theorem d_Mod_watch_60 : decode cd_Mod_watch 60 = .ok (.aload_n 0, 1) := by decide +kernel
theorem d_Mod_watch_61 : decode cd_Mod_watch 61 = .ok (.getfield 25, 3) := by decide +kernel
theorem d_Mod_watch_64 : decode cd_Mod_watch 64 = .ok (.iload_n 3, 1) := by decide +kernel
theorem d_Mod_watch_65 : decode cd_Mod_watch 65 = .ok (.aload_n 0, 1) := by decide +kernel
theorem d_Mod_watch_66 : decode cd_Mod_watch 66 = .ok (.getfield 180, 3) := by decide +kernel
theorem d_Mod_watch_69 : decode cd_Mod_watch 69 = .ok (.iastore, 1) := by decide +kernel
theorem d_Mod_watch_70 : decode cd_Mod_watch 70 = .ok (.iconst 1, 1) := by decide +kernel
theorem d_Mod_watch_71 : decode cd_Mod_watch 71 = .ok (.ireturn, 1) := by decide +kernel
set_option maxRecDepth 100000 in
set_option maxHeartbeats 4000000 in
theorem t_Mod_watch_J24 {p : Program} {l : Launch} {e : Env} {s : State} {m : MethodId} {args : Array Value} {below : List Frame} {meth : Method} {c : Code} {V : xV} (C : xC p s m args c cd_Mod_watch 4 R_Mod V) (hlocks : meth.locks = false) (hr : meth.sig.returnType = (some .boolean)) {Q : Int32 → xS → Prop} {x1 : Int32} {y0 : Int32} {y1 : Int32} {σ : xS} {H : Heap} {locs : List Loc} {ls : Array Slot} (h : p_Mod_watch_J24 Q x1 y0 y1 σ) (hI : xI V s.heap σ H locs) (hl : lv_has ls 4 [(0, .ref (V.2.2 31)), (1, .int x1)]) : W p l e rm_Mod_watch s m args below meth c H locs 0 0 (xZi below V args s Q) (F0 m 24 ls [.int y0, .int y1, .ref (V.2.2 31)]) := by
  have hx := C.1
  have hb := C.2.1
  unfold p_Mod_watch_J24 at h
  refine x_calli C hI hl.1 (d := 31) (As := [.int y1, .int y0]) (rest := []) (by decide) (c_Mod_goes h) (xE31 V _) rfl yw_Mod_goes ml_Mod_144 rfl rfl ⟨Nat.le_of_ble_eq_true rfl, Nat.le_of_ble_eq_true rfl⟩ rfl rfl (Nat.le_of_ble_eq_true rfl) d_Mod_watch_24 ⟨Nat.zero_le _, Nat.zero_le _⟩ (fun r5 σ4 H locs h hI => ?_)
  refine lv_if_ne (tgt := 32) hx hb d_Mod_watch_27 (by decide) (fun c6 => ?_) (fun c6 => ?_)
  · have h := h.1 c6
    refine lv_aload_n hx hb d_Mod_watch_32 rfl (lv_at hl 0 rfl) ?_
    refine x_get C hI (d := 31) (by decide) (xE31 V _) fd_Mod_56 rfl d_Mod_watch_33 ?_
    refine lv_iload_n hx hb d_Mod_watch_36 rfl (lv_at hl 1 rfl) ?_
    obtain ⟨i7, h⟩ := h
    refine x_iald C hI (d := 55) (by decide) (xE55 V) i7 d_Mod_watch_37 ?_
    refine lv_topi (fun z8 ez8 => ?_)
    have h := h z8 ez8
    refine lv_istore_n (lv' := [(3, .int z8), (0, .ref (V.2.2 31)), (1, .int x1)]) hx hb d_Mod_watch_38 rfl hl (by decide) rfl (fun ls hl => ?_)
    refine lv_aload_n hx hb d_Mod_watch_39 rfl (lv_at hl 1 rfl) ?_
    refine x_get C hI (d := 31) (by decide) (xE31 V _) fd_Mod_25 rfl d_Mod_watch_40 ?_
    refine lv_iload_n hx hb d_Mod_watch_43 rfl (lv_at hl 0 rfl) ?_
    obtain ⟨i9, h⟩ := h
    refine x_iald C hI (d := 45) (by decide) (xE45 V) i9 d_Mod_watch_44 ?_
    refine lv_if_le (tgt := 50) hx hb d_Mod_watch_45 (by decide) (fun c10 => ?_) (fun c10 => ?_)
    · have h := h.1 c10
      refine lv_aload_n hx hb d_Mod_watch_50 rfl (lv_at hl 1 rfl) ?_
      refine lv_dup hx hb d_Mod_watch_51 rfl ?_
      refine x_get C hI (d := 31) (by decide) (xE31 V _) fd_Mod_180 rfl d_Mod_watch_52 ?_
      refine lv_iconst (v := 1) hx hb d_Mod_watch_55 (by decide) ?_
      refine lv_iadd hx hb d_Mod_watch_56 ?_
      refine x_put C hI (d := 31) (by decide) (xE31 V _) (xP_31_10 V _ _) fw_Mod_180 (Nat.le_of_ble_eq_true rfl) d_Mod_watch_57 (fun H locs hI => ?_)
      refine lv_aload_n hx hb d_Mod_watch_60 rfl (lv_at hl 1 rfl) ?_
      refine x_get C hI (d := 31) (by decide) (xE31 V _) fd_Mod_25 rfl d_Mod_watch_61 ?_
      refine lv_iload_n hx hb d_Mod_watch_64 rfl (lv_at hl 0 rfl) ?_
      refine lv_aload_n hx hb d_Mod_watch_65 rfl (lv_at hl 1 rfl) ?_
      refine x_get C hI (d := 31) (by decide) (xE31 V _) fd_Mod_180 rfl d_Mod_watch_66 ?_
      obtain ⟨i11, h⟩ := h
      refine x_iast C hI (d := 45) (by decide) (xE45 V) i11 d_Mod_watch_69 (fun H locs hI => ?_)
      refine lv_iconst (v := 1) hx hb d_Mod_watch_70 (by decide) ?_
      exact x_zret C hlocks hr hI ⟨rfl, h⟩ d_Mod_watch_71
    · have h := h.2 c10
      refine lv_iconst (v := 0) hx hb d_Mod_watch_48 (by decide) ?_
      exact x_zret C hlocks hr hI ⟨rfl, h⟩ d_Mod_watch_49
  · have h := h.2 c6
    refine lv_iconst (v := 0) hx hb d_Mod_watch_30 (by decide) ?_
    exact x_zret C hlocks hr hI ⟨rfl, h⟩ d_Mod_watch_31
set_option maxRecDepth 100000 in
set_option maxHeartbeats 4000000 in
theorem t_Mod_watch_J23 {p : Program} {l : Launch} {e : Env} {s : State} {m : MethodId} {args : Array Value} {below : List Frame} {meth : Method} {c : Code} {V : xV} (C : xC p s m args c cd_Mod_watch 4 R_Mod V) (hlocks : meth.locks = false) (hr : meth.sig.returnType = (some .boolean)) {Q : Int32 → xS → Prop} {x1 : Int32} {y0 : Int32} {σ : xS} {H : Heap} {locs : List Loc} {ls : Array Slot} (h : p_Mod_watch_J23 Q x1 y0 σ) (hI : xI V s.heap σ H locs) (hl : lv_has ls 4 [(0, .ref (V.2.2 31)), (1, .int x1)]) : W p l e rm_Mod_watch s m args below meth c H locs 0 0 (xZi below V args s Q) (F0 m 23 ls [.int y0, .ref (V.2.2 31)]) := by
  have hx := C.1
  have hb := C.2.1
  unfold p_Mod_watch_J23 at h
  refine lv_iconst (v := 0) hx hb d_Mod_watch_23 (by decide) ?_
  exact t_Mod_watch_J24 C hlocks hr h hI (lv_sub hl [0, 1] rfl)
set_option maxRecDepth 100000 in
set_option maxHeartbeats 4000000 in
theorem c_Mod_watch {l : Launch} {V : xV} {σ : xS} {x1 : Int32} {Q : Int32 → xS → Prop} (h : p_Mod_watch x1 σ Q) : xMi l y_Mod_watch (.code y_Mod_watch cd_Mod_watch 4 (some .boolean) :: xG) rm_Mod_watch V [.ref (V.2.2 31), .int x1] σ Q := by
  refine x_begini (by decide) (Nat.le_of_ble_eq_true rfl) (fun p e s m below meth c ls C hlocks hr hI hl => ?_)
  have C : xC p s m _ c cd_Mod_watch 4 R_Mod V := C
  have hx := C.1
  have hb := C.2.1
  have hl : lv_has ls 4 [(0, .ref (V.2.2 31)), (1, .int x1)] := hl
  unfold p_Mod_watch at h
  refine lv_iload_n hx hb d_Mod_watch_0 rfl (lv_at hl 1 rfl) ?_
  refine x_calliS C hI hl.1 (As := [.int x1]) (rest := []) (c_Mod_isRoot h) yw_Mod_isRoot ml_Mod_151 rfl rfl ⟨Nat.le_of_ble_eq_true rfl, Nat.le_of_ble_eq_true rfl⟩ rfl rfl (Nat.le_of_ble_eq_true rfl) d_Mod_watch_1 ⟨Nat.zero_le _, Nat.zero_le _⟩ (fun r2 σ1 H locs h hI => ?_)
  refine lv_istore_n (lv' := [(2, .int r2), (0, .ref (V.2.2 31)), (1, .int x1)]) hx hb d_Mod_watch_4 rfl hl (by decide) rfl (fun ls hl => ?_)
  refine lv_aload_n hx hb d_Mod_watch_5 rfl (lv_at hl 1 rfl) ?_
  refine lv_iload_n hx hb d_Mod_watch_6 rfl (lv_at hl 0 rfl) ?_
  refine lv_iload_n hx hb d_Mod_watch_7 rfl (lv_at hl 0 rfl) ?_
  refine lv_if_eq (tgt := 23) hx hb d_Mod_watch_8 (by decide) (fun c3 => ?_) (fun c3 => ?_)
  · have h := h.1 c3
    exact t_Mod_watch_J23 C hlocks hr h hI (lv_sub hl [1, 2] rfl)
  · have h := h.2 c3
    refine lv_aload_n hx hb d_Mod_watch_11 rfl (lv_at hl 1 rfl) ?_
    refine lv_iload_n hx hb d_Mod_watch_12 rfl (lv_at hl 2 rfl) ?_
    refine x_calli C hI hl.1 (d := 31) (As := [.int x1]) (rest := [.int r2, .ref (V.2.2 31)]) (by decide) (c_Mod_refers h) (xE31 V _) rfl yw_Mod_refers ml_Mod_158 rfl rfl ⟨Nat.le_of_ble_eq_true rfl, Nat.le_of_ble_eq_true rfl⟩ rfl rfl (Nat.le_of_ble_eq_true rfl) d_Mod_watch_13 ⟨Nat.zero_le _, Nat.zero_le _⟩ (fun r13 σ12 H locs h hI => ?_)
    refine lv_if_eq (tgt := 23) hx hb d_Mod_watch_16 (by decide) (fun c14 => ?_) (fun c14 => ?_)
    · have h := h.1 c14
      exact t_Mod_watch_J23 C hlocks hr h hI (lv_sub hl [1, 2] rfl)
    · have h := h.2 c14
      refine lv_iconst (v := 1) hx hb d_Mod_watch_19 (by decide) ?_
      refine lv_goto (tgt := 24) hx hb d_Mod_watch_20 (by decide) ?_
      exact t_Mod_watch_J24 C hlocks hr h hI (lv_sub hl [1, 2] rfl)
def y_Mod_due : MethodName := ⟨"RegionPoolModel", "due", "(I)I"⟩
abbrev cd_Mod_due : ByteArray := prog_12_method_37_code
def b_Mod_due_L54 (K54 : Int32 → Int32 → xS → Prop) (Q : Int32 → xS → Prop) (x2 x3 : Int32) (σ : xS) : Prop :=
  (((σ 31 19) ≤ x3 → Q x2 σ) ∧ (¬ (σ 31 19) ≤ x3 → (vp_in (x3 + 1) 1400 ∧ (vp_in x3 1400 ∧ (∀ z14 : Int32, z14 = x3 + 1 → K54 x2 z14 (xu σ 56 x3.toNatClampNeg (σ 56 (x3 + 1).toNatClampNeg)))))))
def p_Mod_due_L54 (Q : Int32 → xS → Prop) (n : Nat) : Int32 → Int32 → xS → Prop := Nat.rec (motive := fun _ => Int32 → Int32 → xS → Prop) (fun _ _ _ => False) (fun _ K x2 x3 σ => b_Mod_due_L54 K Q x2 x3 σ) n
def p_Mod_due (x1 : Int32) (σ : xS) (Q : Int32 → xS → Prop) : Prop :=
  p_Mod_isRoot x1 σ (fun r2 σ1 => p_Mod_goes r2 1 σ1 (fun r4 σ3 => ((¬ r4 = 0 → (∀ z6 : Int32, z6 = (σ3 31 19) → ((z6 ≤ 0 → Q z6 σ3) ∧ (¬ z6 ≤ 0 → (vp_in x1 16 ∧ (vp_in 0 1400 ∧ (vp_in x1 16 ∧ (∃ n, p_Mod_due_L54 Q n z6 0 (xu (xu (xu σ3 54 x1.toNatClampNeg 2) 55 x1.toNatClampNeg ((xu σ3 54 x1.toNatClampNeg 2) 56 (0 : Int32).toNatClampNeg)) 31 19 (((xu (xu σ3 54 x1.toNatClampNeg 2) 55 x1.toNatClampNeg ((xu σ3 54 x1.toNatClampNeg 2) 56 (0 : Int32).toNatClampNeg)) 31 19) - 1)))))))))) ∧ (r4 = 0 → Q 0 σ3))))
abbrev rm_Mod_due : Room := { frames := 1, cells := 0, slots := 0, locals := 22 }
theorem d_Mod_due_0 : decode cd_Mod_due 0 = .ok (.aload_n 0, 1) := by decide +kernel
theorem d_Mod_due_1 : decode cd_Mod_due 1 = .ok (.iload_n 1, 1) := by decide +kernel
theorem d_Mod_due_2 : decode cd_Mod_due 2 = .ok (.invokestatic 151, 3) := by decide +kernel
theorem d_Mod_due_5 : decode cd_Mod_due 5 = .ok (.iconst 1, 1) := by decide +kernel
theorem d_Mod_due_6 : decode cd_Mod_due 6 = .ok (.invokevirtual 144, 3) := by decide +kernel
theorem d_Mod_due_9 : decode cd_Mod_due 9 = .ok (.ifCond .ne 5, 3) := by decide +kernel
theorem d_Mod_due_12 : decode cd_Mod_due 12 = .ok (.iconst 0, 1) := by decide +kernel
theorem d_Mod_due_13 : decode cd_Mod_due 13 = .ok (.ireturn, 1) := by decide +kernel
theorem d_Mod_due_14 : decode cd_Mod_due 14 = .ok (.aload_n 0, 1) := by decide +kernel
theorem d_Mod_due_15 : decode cd_Mod_due 15 = .ok (.getfield 97, 3) := by decide +kernel
theorem d_Mod_due_18 : decode cd_Mod_due 18 = .ok (.istore_n 2, 1) := by decide +kernel
theorem d_Mod_due_19 : decode cd_Mod_due 19 = .ok (.iload_n 2, 1) := by decide +kernel
theorem d_Mod_due_20 : decode cd_Mod_due 20 = .ok (.ifCond .le 62, 3) := by decide +kernel
theorem d_Mod_due_23 : decode cd_Mod_due 23 = .ok (.aload_n 0, 1) := by decide +kernel
theorem d_Mod_due_24 : decode cd_Mod_due 24 = .ok (.getfield 53, 3) := by decide +kernel
theorem d_Mod_due_27 : decode cd_Mod_due 27 = .ok (.iload_n 1, 1) := by decide +kernel
theorem d_Mod_due_28 : decode cd_Mod_due 28 = .ok (.iconst 2, 1) := by decide +kernel
theorem d_Mod_due_29 : decode cd_Mod_due 29 = .ok (.iastore, 1) := by decide +kernel
theorem d_Mod_due_30 : decode cd_Mod_due 30 = .ok (.aload_n 0, 1) := by decide +kernel
theorem d_Mod_due_31 : decode cd_Mod_due 31 = .ok (.getfield 56, 3) := by decide +kernel
theorem d_Mod_due_34 : decode cd_Mod_due 34 = .ok (.iload_n 1, 1) := by decide +kernel
theorem d_Mod_due_35 : decode cd_Mod_due 35 = .ok (.aload_n 0, 1) := by decide +kernel
theorem d_Mod_due_36 : decode cd_Mod_due 36 = .ok (.getfield 59, 3) := by decide +kernel
theorem d_Mod_due_39 : decode cd_Mod_due 39 = .ok (.iconst 0, 1) := by decide +kernel
theorem d_Mod_due_40 : decode cd_Mod_due 40 = .ok (.iaload, 1) := by decide +kernel
theorem d_Mod_due_41 : decode cd_Mod_due 41 = .ok (.iastore, 1) := by decide +kernel
theorem d_Mod_due_42 : decode cd_Mod_due 42 = .ok (.aload_n 0, 1) := by decide +kernel
theorem d_Mod_due_43 : decode cd_Mod_due 43 = .ok (.dup, 1) := by decide +kernel
theorem d_Mod_due_44 : decode cd_Mod_due 44 = .ok (.getfield 97, 3) := by decide +kernel
theorem d_Mod_due_47 : decode cd_Mod_due 47 = .ok (.iconst 1, 1) := by decide +kernel
theorem d_Mod_due_48 : decode cd_Mod_due 48 = .ok (.isub, 1) := by decide +kernel
theorem d_Mod_due_49 : decode cd_Mod_due 49 = .ok (.putfield 97, 3) := by decide +kernel
theorem d_Mod_due_52 : decode cd_Mod_due 52 = .ok (.iconst 0, 1) := by decide +kernel
theorem d_Mod_due_53 : decode cd_Mod_due 53 = .ok (.istore_n 3, 1) := by decide +kernel
theorem d_Mod_due_54 : decode cd_Mod_due 54 = .ok (.iload_n 3, 1) := by decide +kernel
theorem d_Mod_due_55 : decode cd_Mod_due 55 = .ok (.aload_n 0, 1) := by decide +kernel
theorem d_Mod_due_56 : decode cd_Mod_due 56 = .ok (.getfield 97, 3) := by decide +kernel
theorem d_Mod_due_59 : decode cd_Mod_due 59 = .ok (.if_icmp .ge 23, 3) := by decide +kernel
theorem d_Mod_due_62 : decode cd_Mod_due 62 = .ok (.aload_n 0, 1) := by decide +kernel
theorem d_Mod_due_63 : decode cd_Mod_due 63 = .ok (.getfield 59, 3) := by decide +kernel
theorem d_Mod_due_66 : decode cd_Mod_due 66 = .ok (.iload_n 3, 1) := by decide +kernel
theorem d_Mod_due_67 : decode cd_Mod_due 67 = .ok (.aload_n 0, 1) := by decide +kernel
theorem d_Mod_due_68 : decode cd_Mod_due 68 = .ok (.getfield 59, 3) := by decide +kernel
theorem d_Mod_due_71 : decode cd_Mod_due 71 = .ok (.iload_n 3, 1) := by decide +kernel
theorem d_Mod_due_72 : decode cd_Mod_due 72 = .ok (.iconst 1, 1) := by decide +kernel
theorem d_Mod_due_73 : decode cd_Mod_due 73 = .ok (.iadd, 1) := by decide +kernel
theorem d_Mod_due_74 : decode cd_Mod_due 74 = .ok (.iaload, 1) := by decide +kernel
theorem d_Mod_due_75 : decode cd_Mod_due 75 = .ok (.iastore, 1) := by decide +kernel
theorem d_Mod_due_76 : decode cd_Mod_due 76 = .ok (.iinc 3 1, 3) := by decide +kernel
theorem d_Mod_due_79 : decode cd_Mod_due 79 = .ok (.goto (-25), 3) := by decide +kernel
theorem d_Mod_due_82 : decode cd_Mod_due 82 = .ok (.iload_n 2, 1) := by decide +kernel
theorem d_Mod_due_83 : decode cd_Mod_due 83 = .ok (.ireturn, 1) := by decide +kernel
set_option maxRecDepth 100000 in
set_option maxHeartbeats 4000000 in
theorem s_Mod_due_L54 {p : Program} {l : Launch} {e : Env} {s : State} {m : MethodId} {args : Array Value} {below : List Frame} {meth : Method} {c : Code} {V : xV} (C : xC p s m args c cd_Mod_due 4 R_Mod V) (hlocks : meth.locks = false) (hr : meth.sig.returnType = (some .int)) {Q : Int32 → xS → Prop} {K54 : Int32 → Int32 → xS → Prop} (hK54 : ∀ (x2 : Int32) (x3 : Int32) (σ : xS) (H : Heap) (locs : List Loc) (ls : Array Slot), K54 x2 x3 σ → xI V s.heap σ H locs → lv_has ls 4 [(0, .ref (V.2.2 31)), (2, .int x2), (3, .int x3)] → W p l e rm_Mod_due s m args below meth c H locs 0 0 (xZi below V args s Q) (F0 m 54 ls [])) {x2 x3 : Int32} {σ : xS} {H : Heap} {locs : List Loc} {ls : Array Slot} (h : b_Mod_due_L54 K54 Q x2 x3 σ) (hI : xI V s.heap σ H locs) (hl : lv_has ls 4 [(0, .ref (V.2.2 31)), (2, .int x2), (3, .int x3)]) : W p l e rm_Mod_due s m args below meth c H locs 0 0 (xZi below V args s Q) (F0 m 54 ls []) := by
  have hx := C.1
  have hb := C.2.1
  unfold b_Mod_due_L54 at h
  refine lv_iload_n hx hb d_Mod_due_54 rfl (lv_at hl 2 rfl) ?_
  refine lv_aload_n hx hb d_Mod_due_55 rfl (lv_at hl 0 rfl) ?_
  refine x_get C hI (d := 31) (by decide) (xE31 V _) fd_Mod_97 rfl d_Mod_due_56 ?_
  refine lv_icmp_ge (tgt := 82) hx hb d_Mod_due_59 (by decide) (fun c11 => ?_) (fun c11 => ?_)
  · have h := h.1 c11
    refine lv_iload_n hx hb d_Mod_due_82 rfl (lv_at hl 1 rfl) ?_
    exact x_iret C hlocks hr hI h d_Mod_due_83
  · have h := h.2 c11
    refine lv_aload_n hx hb d_Mod_due_62 rfl (lv_at hl 0 rfl) ?_
    refine x_get C hI (d := 31) (by decide) (xE31 V _) fd_Mod_59 rfl d_Mod_due_63 ?_
    refine lv_iload_n hx hb d_Mod_due_66 rfl (lv_at hl 2 rfl) ?_
    refine lv_aload_n hx hb d_Mod_due_67 rfl (lv_at hl 0 rfl) ?_
    refine x_get C hI (d := 31) (by decide) (xE31 V _) fd_Mod_59 rfl d_Mod_due_68 ?_
    refine lv_iload_n hx hb d_Mod_due_71 rfl (lv_at hl 2 rfl) ?_
    refine lv_iconst (v := 1) hx hb d_Mod_due_72 (by decide) ?_
    refine lv_iadd hx hb d_Mod_due_73 ?_
    obtain ⟨i12, h⟩ := h
    refine x_iald C hI (d := 56) (by decide) (xE56 V) i12 d_Mod_due_74 ?_
    obtain ⟨i13, h⟩ := h
    refine x_iast C hI (d := 56) (by decide) (xE56 V) i13 d_Mod_due_75 (fun H locs hI => ?_)
    obtain ⟨z14, ez14⟩ : ∃ y : Int32, y = x3 + 1 := ⟨_, rfl⟩
    have h := h z14 ez14
    refine lv_iinc (v := z14) (lv' := [(3, .int z14), (0, .ref (V.2.2 31)), (2, .int x2)]) hx hb d_Mod_due_76 hl (k := 2) rfl (by rw [ez14]; rfl) (by decide) rfl (fun ls hl => ?_)
    refine lv_goto (tgt := 54) hx hb d_Mod_due_79 (by decide) ?_
    exact hK54 _ _ _ _ _ _ h hI (lv_sub hl [1, 2, 0] rfl)
theorem w_Mod_due_L54 {p : Program} {l : Launch} {e : Env} {s : State} {m : MethodId} {args : Array Value} {below : List Frame} {meth : Method} {c : Code} {V : xV} (C : xC p s m args c cd_Mod_due 4 R_Mod V) (hlocks : meth.locks = false) (hr : meth.sig.returnType = (some .int)) {Q : Int32 → xS → Prop} : ∀ (n : Nat) (x2 : Int32) (x3 : Int32) (σ : xS) (H : Heap) (locs : List Loc) (ls : Array Slot), p_Mod_due_L54 Q n x2 x3 σ → xI V s.heap σ H locs → lv_has ls 4 [(0, .ref (V.2.2 31)), (2, .int x2), (3, .int x3)] → W p l e rm_Mod_due s m args below meth c H locs 0 0 (xZi below V args s Q) (F0 m 54 ls []) := by
  intro n
  induction n with
  | zero =>
    intro x2 x3 σ H locs ls h
    exact False.elim h
  | succ n ih =>
    intro x2 x3 σ H locs ls h hI hl
    exact s_Mod_due_L54 C hlocks hr (K54 := p_Mod_due_L54 Q n) (fun x2 x3 σ H locs ls h hI hl => ih x2 x3 σ H locs ls h hI hl) h hI hl
set_option maxRecDepth 100000 in
set_option maxHeartbeats 4000000 in
theorem c_Mod_due {l : Launch} {V : xV} {σ : xS} {x1 : Int32} {Q : Int32 → xS → Prop} (h : p_Mod_due x1 σ Q) : xMi l y_Mod_due (.code y_Mod_due cd_Mod_due 4 (some .int) :: xG) rm_Mod_due V [.ref (V.2.2 31), .int x1] σ Q := by
  refine x_begini (by decide) (Nat.le_of_ble_eq_true rfl) (fun p e s m below meth c ls C hlocks hr hI hl => ?_)
  have C : xC p s m _ c cd_Mod_due 4 R_Mod V := C
  have hx := C.1
  have hb := C.2.1
  have hl : lv_has ls 4 [(0, .ref (V.2.2 31)), (1, .int x1)] := hl
  unfold p_Mod_due at h
  refine lv_aload_n hx hb d_Mod_due_0 rfl (lv_at hl 0 rfl) ?_
  refine lv_iload_n hx hb d_Mod_due_1 rfl (lv_at hl 1 rfl) ?_
  refine x_calliS C hI hl.1 (As := [.int x1]) (rest := [.ref (V.2.2 31)]) (c_Mod_isRoot h) yw_Mod_isRoot ml_Mod_151 rfl rfl ⟨Nat.le_of_ble_eq_true rfl, Nat.le_of_ble_eq_true rfl⟩ rfl rfl (Nat.le_of_ble_eq_true rfl) d_Mod_due_2 ⟨Nat.zero_le _, Nat.zero_le _⟩ (fun r2 σ1 H locs h hI => ?_)
  refine lv_iconst (v := 1) hx hb d_Mod_due_5 (by decide) ?_
  refine x_calli C hI hl.1 (d := 31) (As := [.int r2, .int 1]) (rest := []) (by decide) (c_Mod_goes h) (xE31 V _) rfl yw_Mod_goes ml_Mod_144 rfl rfl ⟨Nat.le_of_ble_eq_true rfl, Nat.le_of_ble_eq_true rfl⟩ rfl rfl (Nat.le_of_ble_eq_true rfl) d_Mod_due_6 ⟨Nat.zero_le _, Nat.zero_le _⟩ (fun r4 σ3 H locs h hI => ?_)
  refine lv_if_ne (tgt := 14) hx hb d_Mod_due_9 (by decide) (fun c5 => ?_) (fun c5 => ?_)
  · have h := h.1 c5
    refine lv_aload_n hx hb d_Mod_due_14 rfl (lv_at hl 0 rfl) ?_
    refine x_get C hI (d := 31) (by decide) (xE31 V _) fd_Mod_97 rfl d_Mod_due_15 ?_
    refine lv_topi (fun z6 ez6 => ?_)
    have h := h z6 ez6
    refine lv_istore_n (lv' := [(2, .int z6), (0, .ref (V.2.2 31)), (1, .int x1)]) hx hb d_Mod_due_18 rfl hl (by decide) rfl (fun ls hl => ?_)
    refine lv_iload_n hx hb d_Mod_due_19 rfl (lv_at hl 0 rfl) ?_
    refine lv_if_le (tgt := 82) hx hb d_Mod_due_20 (by decide) (fun c7 => ?_) (fun c7 => ?_)
    · have h := h.1 c7
      refine lv_iload_n hx hb d_Mod_due_82 rfl (lv_at hl 0 rfl) ?_
      exact x_iret C hlocks hr hI h d_Mod_due_83
    · have h := h.2 c7
      refine lv_aload_n hx hb d_Mod_due_23 rfl (lv_at hl 1 rfl) ?_
      refine x_get C hI (d := 31) (by decide) (xE31 V _) fd_Mod_53 rfl d_Mod_due_24 ?_
      refine lv_iload_n hx hb d_Mod_due_27 rfl (lv_at hl 2 rfl) ?_
      refine lv_iconst (v := 2) hx hb d_Mod_due_28 (by decide) ?_
      obtain ⟨i8, h⟩ := h
      refine x_iast C hI (d := 54) (by decide) (xE54 V) i8 d_Mod_due_29 (fun H locs hI => ?_)
      refine lv_aload_n hx hb d_Mod_due_30 rfl (lv_at hl 1 rfl) ?_
      refine x_get C hI (d := 31) (by decide) (xE31 V _) fd_Mod_56 rfl d_Mod_due_31 ?_
      refine lv_iload_n hx hb d_Mod_due_34 rfl (lv_at hl 2 rfl) ?_
      refine lv_aload_n hx hb d_Mod_due_35 rfl (lv_at hl 1 rfl) ?_
      refine x_get C hI (d := 31) (by decide) (xE31 V _) fd_Mod_59 rfl d_Mod_due_36 ?_
      refine lv_iconst (v := 0) hx hb d_Mod_due_39 (by decide) ?_
      obtain ⟨i9, h⟩ := h
      refine x_iald C hI (d := 56) (by decide) (xE56 V) i9 d_Mod_due_40 ?_
      obtain ⟨i10, h⟩ := h
      refine x_iast C hI (d := 55) (by decide) (xE55 V) i10 d_Mod_due_41 (fun H locs hI => ?_)
      refine lv_aload_n hx hb d_Mod_due_42 rfl (lv_at hl 1 rfl) ?_
      refine lv_dup hx hb d_Mod_due_43 rfl ?_
      refine x_get C hI (d := 31) (by decide) (xE31 V _) fd_Mod_97 rfl d_Mod_due_44 ?_
      refine lv_iconst (v := 1) hx hb d_Mod_due_47 (by decide) ?_
      refine lv_isub hx hb d_Mod_due_48 ?_
      refine x_put C hI (d := 31) (by decide) (xE31 V _) (xP_31_19 V _ _) fw_Mod_97 (Nat.le_of_ble_eq_true rfl) d_Mod_due_49 (fun H locs hI => ?_)
      refine lv_iconst (v := 0) hx hb d_Mod_due_52 (by decide) ?_
      refine lv_istore_n (lv' := [(3, .int 0), (2, .int z6), (0, .ref (V.2.2 31)), (1, .int x1)]) hx hb d_Mod_due_53 rfl hl (by decide) rfl (fun ls hl => ?_)
      obtain ⟨n, h⟩ := h
      exact w_Mod_due_L54 C hlocks hr n _ _ _ _ _ _ h hI (lv_sub hl [2, 1, 0] rfl)
  · have h := h.2 c5
    refine lv_iconst (v := 0) hx hb d_Mod_due_12 (by decide) ?_
    exact x_iret C hlocks hr hI h d_Mod_due_13
