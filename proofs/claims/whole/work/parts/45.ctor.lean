def y_Col_init : MethodName := ⟨"RegionPool$Collector", "<init>", "(LRegionPool$Memory;)V"⟩
abbrev cd_Col_init : ByteArray := prog_2_method_1_code
theorem fy_Col_9 : yFw R_Col 9 2 0 := ⟨R_Col, T_Col, 5, t_Col, .object "RegionPool$Memory", rfl, in_Col, by decide, xG_mem 221 (by decide +kernel) (by decide +kernel), tk_Col, nm_Col, rfl, rfl, by decide +kernel, Or.inl ⟨_, rfl⟩⟩
theorem ml_Col_17 : Cond.methodLink R_Col 17 y_Mar_init ∈ xG := xG_mem 203 (by decide +kernel) (by decide +kernel)
theorem yc_Mar_init : yY y_Mar_init cd_Mar_init 2 1 := ⟨xG_mem 204 (by decide +kernel) (by decide +kernel), xG_mem 62 (by decide +kernel) (by decide +kernel), xG_mem 205 (by decide +kernel) (by decide +kernel), rfl, by decide, by decide, by decide +kernel⟩
theorem fy_Col_20 : yFw R_Col 20 2 1 := ⟨R_Col, T_Col, 5, t_Col, .object "RegionPool$Marker", rfl, in_Col, by decide, xG_mem 222 (by decide +kernel) (by decide +kernel), tk_Col, nm_Col, rfl, rfl, by decide +kernel, Or.inl ⟨_, rfl⟩⟩
theorem d_Col_init_0 : decode cd_Col_init 0 = .ok (.aload_n 0, 1) := by decide +kernel
theorem d_Col_init_1 : decode cd_Col_init 1 = .ok (.invokespecial 3, 3) := by decide +kernel
theorem d_Col_init_4 : decode cd_Col_init 4 = .ok (.aload_n 0, 1) := by decide +kernel
theorem d_Col_init_5 : decode cd_Col_init 5 = .ok (.aload_n 1, 1) := by decide +kernel
theorem d_Col_init_6 : decode cd_Col_init 6 = .ok (.putfield 9, 3) := by decide +kernel
theorem d_Col_init_9 : decode cd_Col_init 9 = .ok (.aload_n 0, 1) := by decide +kernel
theorem d_Col_init_10 : decode cd_Col_init 10 = .ok (.new 15, 3) := by decide +kernel
theorem d_Col_init_13 : decode cd_Col_init 13 = .ok (.dup, 1) := by decide +kernel
theorem d_Col_init_14 : decode cd_Col_init 14 = .ok (.aload_n 1, 1) := by decide +kernel
theorem d_Col_init_15 : decode cd_Col_init 15 = .ok (.invokespecial 17, 3) := by decide +kernel
theorem d_Col_init_18 : decode cd_Col_init 18 = .ok (.putfield 20, 3) := by decide +kernel
theorem d_Col_init_21 : decode cd_Col_init 21 = .ok (.aload_n 0, 1) := by decide +kernel
theorem d_Col_init_22 : decode cd_Col_init 22 = .ok (.iconst 0, 1) := by decide +kernel
theorem d_Col_init_23 : decode cd_Col_init 23 = .ok (.putfield 24, 3) := by decide +kernel
theorem d_Col_init_26 : decode cd_Col_init 26 = .ok (.aload_n 0, 1) := by decide +kernel
theorem d_Col_init_27 : decode cd_Col_init 27 = .ok (.iconst 0, 1) := by decide +kernel
theorem d_Col_init_28 : decode cd_Col_init 28 = .ok (.putfield 28, 3) := by decide +kernel
theorem d_Col_init_31 : decode cd_Col_init 31 = .ok (.aload_n 0, 1) := by decide +kernel
theorem d_Col_init_32 : decode cd_Col_init 32 = .ok (.iconst 0, 1) := by decide +kernel
theorem d_Col_init_33 : decode cd_Col_init 33 = .ok (.putfield 31, 3) := by decide +kernel
theorem d_Col_init_36 : decode cd_Col_init 36 = .ok (.return_, 1) := by decide +kernel
abbrev rm_Col_init : Room := { frames := 2, cells := 3, slots := 1284, locals := 33 }
set_option maxRecDepth 100000 in
set_option maxHeartbeats 8000000 in
theorem c_Col_init {l : Launch} (D : va_G) (ka : Nat → ClassId) (h0 : Nat) (x1 : Nat) : yM l y_Col_init (.code y_Col_init cd_Col_init 2 none :: xG) rm_Col_init D ka [.ref h0, .ref x1] [(h0, .inr (2, [.null, .null, .int 0, .int 0, .int 0]))] (fun a => [(h0, .inr (2, [.ref x1, .ref (a 0), .int 0, .int 0, .int 0])), ((a 0), .inr (9, [.ref x1, .ref (a 1), .ref (a 2), .int 0])), ((a 1), .inl (ka 1, 640, .inl (fun _ => 0))), ((a 2), .inl (ka 0, 640, .inl (fun _ => 0)))]) 3 1284 := by
  refine y_begin (by decide) (Nat.le_of_ble_eq_true rfl) (fun p e s m below meth c ls C hlocks hr hin hJ hl => ?_)
  have C : yC p s m _ c cd_Col_init 2 R_Col D ka := C
  have hin : meth.name = "<init>" := hin
  have hx := C.1
  have hb := C.2.1
  have hown := C.2.2.2.1
  have hl : lv_has ls 2 [(0, .ref h0), (1, .ref x1)] := hl
  generalize hAe : va_A [(h0, .inr (2, [.null, .null, .int 0, .int 0, .int 0]))] s.heap.size = A at hJ
  have hJ : yJ D A s.heap [(h0, .inr (2, [.null, .null, .int 0, .int 0, .int 0]))] s.heap [] := hJ
  refine lv_aload_n hx hb d_Col_init_0 rfl (lv_at hl 0 rfl) ?_
  refine y_obj C hl.1 (xG_mem 200 (by decide +kernel) (by decide +kernel)) (xG_mem 78 (by decide +kernel) (by decide +kernel)) (xG_mem 79 (by decide +kernel) (by decide +kernel)) d_Col_init_1 (Nat.le_of_ble_eq_true rfl) (Nat.le_of_ble_eq_true rfl) ?_
  refine lv_aload_n hx hb d_Col_init_4 rfl (lv_at hl 0 rfl) ?_
  refine lv_aload_n hx hb d_Col_init_5 rfl (lv_at hl 1 rfl) ?_
  refine y_putF C hin hJ 0 rfl fy_Col_9 (Nat.le_of_ble_eq_true rfl) d_Col_init_6 (fun H locs hJ => ?_)
  have hJ : yJ D A s.heap [(h0, .inr (2, [.ref x1, .null, .int 0, .int 0, .int 0]))] H _ := hJ
  refine lv_aload_n hx hb d_Col_init_9 rfl (lv_at hl 0 rfl) ?_
  refine y_new C hJ (ci := 9) (fs := [.null, .null, .null, .int 0]) rfl in_Mar t_Mar tk_Mar (xG_mem 201 (by decide +kernel) (by decide +kernel)) (xG_mem 202 (by decide +kernel) (by decide +kernel)) (xG_mem 62 (by decide +kernel) (by decide +kernel)) (fun j hj => by rcases (show j = 0 ∨ j = 1 ∨ j = 2 ∨ j = 3 by omega) with rfl | rfl | rfl | rfl <;> rfl) (Nat.le_of_ble_eq_true rfl) (Nat.le_of_ble_eq_true rfl) d_Col_init_10 (fun q1 H hJ => ?_)
  have hJ : yJ D A s.heap [(h0, .inr (2, [.ref x1, .null, .int 0, .int 0, .int 0])), (q1, .inr (9, [.null, .null, .null, .int 0]))] H _ := hJ
  refine lv_dup hx hb d_Col_init_13 rfl ?_
  refine lv_aload_n hx hb d_Col_init_14 rfl (lv_at hl 1 rfl) ?_
  refine y_callI C hJ hl.1 (As := [.ref x1]) (rest := [.ref q1, .ref h0]) (w0 := [(q1, .inr (9, [.null, .null, .null, .int 0]))]) (wr := [(h0, .inr (2, [.ref x1, .null, .int 0, .int 0, .int 0]))]) [1] [0] rfl rfl (by decide) (by decide) (by decide) (c_Mar_init (l := l) D ka q1 x1) yc_Mar_init ml_Col_17 rfl rfl ⟨Nat.le_of_ble_eq_true rfl, Nat.le_of_ble_eq_true rfl⟩ rfl rfl (Nat.le_of_ble_eq_true rfl) d_Col_init_15 ⟨Nat.le_of_ble_eq_true rfl, Nat.le_of_ble_eq_true rfl⟩ (fun a2 H locs hJ => ?_)
  have hJ : yJ D A s.heap [(h0, .inr (2, [.ref x1, .null, .int 0, .int 0, .int 0])), (q1, .inr (9, [.ref x1, .ref (a2 0), .ref (a2 1), .int 0])), ((a2 0), .inl (ka 1, 640, .inl (fun _ => 0))), ((a2 1), .inl (ka 0, 640, .inl (fun _ => 0)))] H _ := hJ
  refine y_putF C hin hJ 0 rfl fy_Col_20 (Nat.le_of_ble_eq_true rfl) d_Col_init_18 (fun H locs hJ => ?_)
  have hJ : yJ D A s.heap [(h0, .inr (2, [.ref x1, .ref q1, .int 0, .int 0, .int 0])), (q1, .inr (9, [.ref x1, .ref (a2 0), .ref (a2 1), .int 0])), ((a2 0), .inl (ka 1, 640, .inl (fun _ => 0))), ((a2 1), .inl (ka 0, 640, .inl (fun _ => 0)))] H _ := hJ
  refine lv_aload_n hx hb d_Col_init_21 rfl (lv_at hl 0 rfl) ?_
  refine lv_iconst (v := 0) hx hb d_Col_init_22 (by decide) ?_
  refine y_put C hJ 0 rfl fw_Col_24 (Nat.le_of_ble_eq_true rfl) d_Col_init_23 (fun H locs hJ => ?_)
  have hJ : yJ D A s.heap [(h0, .inr (2, [.ref x1, .ref q1, .int 0, .int 0, .int 0])), (q1, .inr (9, [.ref x1, .ref (a2 0), .ref (a2 1), .int 0])), ((a2 0), .inl (ka 1, 640, .inl (fun _ => 0))), ((a2 1), .inl (ka 0, 640, .inl (fun _ => 0)))] H _ := hJ
  refine lv_aload_n hx hb d_Col_init_26 rfl (lv_at hl 0 rfl) ?_
  refine lv_iconst (v := 0) hx hb d_Col_init_27 (by decide) ?_
  refine y_put C hJ 0 rfl fw_Col_28 (Nat.le_of_ble_eq_true rfl) d_Col_init_28 (fun H locs hJ => ?_)
  have hJ : yJ D A s.heap [(h0, .inr (2, [.ref x1, .ref q1, .int 0, .int 0, .int 0])), (q1, .inr (9, [.ref x1, .ref (a2 0), .ref (a2 1), .int 0])), ((a2 0), .inl (ka 1, 640, .inl (fun _ => 0))), ((a2 1), .inl (ka 0, 640, .inl (fun _ => 0)))] H _ := hJ
  refine lv_aload_n hx hb d_Col_init_31 rfl (lv_at hl 0 rfl) ?_
  refine lv_iconst (v := 0) hx hb d_Col_init_32 (by decide) ?_
  refine y_put C hJ 0 rfl fw_Col_31 (Nat.le_of_ble_eq_true rfl) d_Col_init_33 (fun H locs hJ => ?_)
  have hJ : yJ D A s.heap [(h0, .inr (2, [.ref x1, .ref q1, .int 0, .int 0, .int 0])), (q1, .inr (9, [.ref x1, .ref (a2 0), .ref (a2 1), .int 0])), ((a2 0), .inl (ka 1, 640, .inl (fun _ => 0))), ((a2 1), .inl (ka 0, 640, .inl (fun _ => 0)))] H _ := hJ
  rw [← hAe] at hJ
  exact y_ret C hlocks hr (hJ.re (w' := [(h0, .inr (2, [.ref x1, .ref q1, .int 0, .int 0, .int 0])), (q1, .inr (9, [.ref x1, .ref (a2 0), .ref (a2 1), .int 0])), ((a2 0), .inl (ka 1, 640, .inl (fun _ => 0))), ((a2 1), .inl (ka 0, 640, .inl (fun _ => 0)))]) [0, 1, 2, 3] (by decide +kernel) rfl) (fun k => [q1, (a2 0), (a2 1)].getD k 0) rfl (Nat.le_of_ble_eq_true rfl) (Nat.le_of_ble_eq_true rfl) d_Col_init_36
def y_Par_init : MethodName := ⟨"RegionPool$Parts", "<init>", "(LRegionPool$Memory;)V"⟩
abbrev cd_Par_init : ByteArray := prog_8_method_1_code
theorem fy_Par_9 : yFw R_Par 9 3 0 := ⟨R_Par, T_Par, 4, t_Par, .object "RegionPool$Memory", rfl, in_Par, by decide, xG_mem 243 (by decide +kernel) (by decide +kernel), tk_Par, nm_Par, rfl, rfl, by decide +kernel, Or.inl ⟨_, rfl⟩⟩
theorem fy_Par_15 : yFw R_Par 15 3 1 := ⟨R_Par, T_Par, 4, t_Par, .array .int, rfl, in_Par, by decide, xG_mem 244 (by decide +kernel) (by decide +kernel), tk_Par, nm_Par, rfl, rfl, by decide +kernel, Or.inr ⟨_, rfl⟩⟩
theorem fy_Par_19 : yFw R_Par 19 3 2 := ⟨R_Par, T_Par, 4, t_Par, .array .boolean, rfl, in_Par, by decide, xG_mem 245 (by decide +kernel) (by decide +kernel), tk_Par, nm_Par, rfl, rfl, by decide +kernel, Or.inr ⟨_, rfl⟩⟩
theorem d_Par_init_0 : decode cd_Par_init 0 = .ok (.aload_n 0, 1) := by decide +kernel
theorem d_Par_init_1 : decode cd_Par_init 1 = .ok (.invokespecial 3, 3) := by decide +kernel
theorem d_Par_init_4 : decode cd_Par_init 4 = .ok (.aload_n 0, 1) := by decide +kernel
theorem d_Par_init_5 : decode cd_Par_init 5 = .ok (.aload_n 1, 1) := by decide +kernel
theorem d_Par_init_6 : decode cd_Par_init 6 = .ok (.putfield 9, 3) := by decide +kernel
theorem d_Par_init_9 : decode cd_Par_init 9 = .ok (.aload_n 0, 1) := by decide +kernel
theorem d_Par_init_10 : decode cd_Par_init 10 = .ok (.sipush 640, 3) := by decide +kernel
theorem d_Par_init_13 : decode cd_Par_init 13 = .ok (.newarray .int, 2) := by decide +kernel
theorem d_Par_init_15 : decode cd_Par_init 15 = .ok (.putfield 15, 3) := by decide +kernel
theorem d_Par_init_18 : decode cd_Par_init 18 = .ok (.aload_n 0, 1) := by decide +kernel
theorem d_Par_init_19 : decode cd_Par_init 19 = .ok (.sipush 640, 3) := by decide +kernel
theorem d_Par_init_22 : decode cd_Par_init 22 = .ok (.newarray .boolean, 2) := by decide +kernel
theorem d_Par_init_24 : decode cd_Par_init 24 = .ok (.putfield 19, 3) := by decide +kernel
theorem d_Par_init_27 : decode cd_Par_init 27 = .ok (.aload_n 0, 1) := by decide +kernel
theorem d_Par_init_28 : decode cd_Par_init 28 = .ok (.iconst 0, 1) := by decide +kernel
theorem d_Par_init_29 : decode cd_Par_init 29 = .ok (.putfield 23, 3) := by decide +kernel
theorem d_Par_init_32 : decode cd_Par_init 32 = .ok (.return_, 1) := by decide +kernel
abbrev rm_Par_init : Room := { frames := 1, cells := 2, slots := 1280, locals := 12 }
set_option maxRecDepth 100000 in
set_option maxHeartbeats 8000000 in
theorem c_Par_init {l : Launch} (D : va_G) (ka : Nat → ClassId) (h0 : Nat) (x1 : Nat) : yM l y_Par_init (.code y_Par_init cd_Par_init 2 none :: xG) rm_Par_init D ka [.ref h0, .ref x1] [(h0, .inr (3, [.null, .null, .null, .int 0]))] (fun a => [(h0, .inr (3, [.ref x1, .ref (a 0), .ref (a 1), .int 0])), ((a 0), .inl (ka 0, 640, .inl (fun _ => 0))), ((a 1), .inl (ka 1, 640, .inl (fun _ => 0)))]) 2 1280 := by
  refine y_begin (by decide) (Nat.le_of_ble_eq_true rfl) (fun p e s m below meth c ls C hlocks hr hin hJ hl => ?_)
  have C : yC p s m _ c cd_Par_init 2 R_Par D ka := C
  have hin : meth.name = "<init>" := hin
  have hx := C.1
  have hb := C.2.1
  have hown := C.2.2.2.1
  have hl : lv_has ls 2 [(0, .ref h0), (1, .ref x1)] := hl
  generalize hAe : va_A [(h0, .inr (3, [.null, .null, .null, .int 0]))] s.heap.size = A at hJ
  have hJ : yJ D A s.heap [(h0, .inr (3, [.null, .null, .null, .int 0]))] s.heap [] := hJ
  refine lv_aload_n hx hb d_Par_init_0 rfl (lv_at hl 0 rfl) ?_
  refine y_obj C hl.1 (xG_mem 242 (by decide +kernel) (by decide +kernel)) (xG_mem 78 (by decide +kernel) (by decide +kernel)) (xG_mem 79 (by decide +kernel) (by decide +kernel)) d_Par_init_1 (Nat.le_of_ble_eq_true rfl) (Nat.le_of_ble_eq_true rfl) ?_
  refine lv_aload_n hx hb d_Par_init_4 rfl (lv_at hl 0 rfl) ?_
  refine lv_aload_n hx hb d_Par_init_5 rfl (lv_at hl 1 rfl) ?_
  refine y_putF C hin hJ 0 rfl fy_Par_9 (Nat.le_of_ble_eq_true rfl) d_Par_init_6 (fun H locs hJ => ?_)
  have hJ : yJ D A s.heap [(h0, .inr (3, [.ref x1, .null, .null, .int 0]))] H _ := hJ
  refine lv_aload_n hx hb d_Par_init_9 rfl (lv_at hl 0 rfl) ?_
  refine lv_sipush (v := 640) hx hb d_Par_init_10 (by decide) ?_
  refine y_newi C hJ (N := 640) (xG_mem 100 (by decide +kernel) (by decide +kernel)) (by decide) (by decide) (by decide) (Nat.le_of_ble_eq_true rfl) (Nat.le_of_ble_eq_true rfl) d_Par_init_13 (fun q1 H hJ => ?_)
  have hJ : yJ D A s.heap [(h0, .inr (3, [.ref x1, .null, .null, .int 0])), (q1, .inl (ka 0, 640, .inl (fun _ => 0)))] H _ := hJ
  refine y_putF C hin hJ 0 rfl fy_Par_15 (Nat.le_of_ble_eq_true rfl) d_Par_init_15 (fun H locs hJ => ?_)
  have hJ : yJ D A s.heap [(h0, .inr (3, [.ref x1, .ref q1, .null, .int 0])), (q1, .inl (ka 0, 640, .inl (fun _ => 0)))] H _ := hJ
  refine lv_aload_n hx hb d_Par_init_18 rfl (lv_at hl 0 rfl) ?_
  refine lv_sipush (v := 640) hx hb d_Par_init_19 (by decide) ?_
  refine y_newz C hJ (N := 640) (xG_mem 220 (by decide +kernel) (by decide +kernel)) (by decide) (by decide) (by decide) (Nat.le_of_ble_eq_true rfl) (Nat.le_of_ble_eq_true rfl) d_Par_init_22 (fun q2 H hJ => ?_)
  have hJ : yJ D A s.heap [(h0, .inr (3, [.ref x1, .ref q1, .null, .int 0])), (q1, .inl (ka 0, 640, .inl (fun _ => 0))), (q2, .inl (ka 1, 640, .inl (fun _ => 0)))] H _ := hJ
  refine y_putF C hin hJ 0 rfl fy_Par_19 (Nat.le_of_ble_eq_true rfl) d_Par_init_24 (fun H locs hJ => ?_)
  have hJ : yJ D A s.heap [(h0, .inr (3, [.ref x1, .ref q1, .ref q2, .int 0])), (q1, .inl (ka 0, 640, .inl (fun _ => 0))), (q2, .inl (ka 1, 640, .inl (fun _ => 0)))] H _ := hJ
  refine lv_aload_n hx hb d_Par_init_27 rfl (lv_at hl 0 rfl) ?_
  refine lv_iconst (v := 0) hx hb d_Par_init_28 (by decide) ?_
  refine y_put C hJ 0 rfl fw_Par_23 (Nat.le_of_ble_eq_true rfl) d_Par_init_29 (fun H locs hJ => ?_)
  have hJ : yJ D A s.heap [(h0, .inr (3, [.ref x1, .ref q1, .ref q2, .int 0])), (q1, .inl (ka 0, 640, .inl (fun _ => 0))), (q2, .inl (ka 1, 640, .inl (fun _ => 0)))] H _ := hJ
  rw [← hAe] at hJ
  exact y_ret C hlocks hr (hJ.re (w' := [(h0, .inr (3, [.ref x1, .ref q1, .ref q2, .int 0])), (q1, .inl (ka 0, 640, .inl (fun _ => 0))), (q2, .inl (ka 1, 640, .inl (fun _ => 0)))]) [0, 1, 2] (by decide +kernel) rfl) (fun k => [q1, q2].getD k 0) rfl (Nat.le_of_ble_eq_true rfl) (Nat.le_of_ble_eq_true rfl) d_Par_init_32
def y_Lik_init : MethodName := ⟨"RegionPool$Likeness", "<init>", "(LRegionPool$Heap;)V"⟩
abbrev cd_Lik_init : ByteArray := prog_4_method_1_code
theorem fy_Lik_9 : yFw R_Lik 9 4 0 := ⟨R_Lik, T_Lik, 5, t_Lik, .object "RegionPool$Heap", rfl, in_Lik, by decide, xG_mem 262 (by decide +kernel) (by decide +kernel), tk_Lik, nm_Lik, rfl, rfl, by decide +kernel, Or.inl ⟨_, rfl⟩⟩
theorem fy_Lik_15 : yFw R_Lik 15 4 1 := ⟨R_Lik, T_Lik, 5, t_Lik, .array .int, rfl, in_Lik, by decide, xG_mem 263 (by decide +kernel) (by decide +kernel), tk_Lik, nm_Lik, rfl, rfl, by decide +kernel, Or.inr ⟨_, rfl⟩⟩
theorem fy_Lik_19 : yFw R_Lik 19 4 2 := ⟨R_Lik, T_Lik, 5, t_Lik, .array .int, rfl, in_Lik, by decide, xG_mem 264 (by decide +kernel) (by decide +kernel), tk_Lik, nm_Lik, rfl, rfl, by decide +kernel, Or.inr ⟨_, rfl⟩⟩
theorem fy_Lik_22 : yFw R_Lik 22 4 3 := ⟨R_Lik, T_Lik, 5, t_Lik, .array .int, rfl, in_Lik, by decide, xG_mem 265 (by decide +kernel) (by decide +kernel), tk_Lik, nm_Lik, rfl, rfl, by decide +kernel, Or.inr ⟨_, rfl⟩⟩
theorem d_Lik_init_0 : decode cd_Lik_init 0 = .ok (.aload_n 0, 1) := by decide +kernel
theorem d_Lik_init_1 : decode cd_Lik_init 1 = .ok (.invokespecial 3, 3) := by decide +kernel
theorem d_Lik_init_4 : decode cd_Lik_init 4 = .ok (.aload_n 0, 1) := by decide +kernel
theorem d_Lik_init_5 : decode cd_Lik_init 5 = .ok (.aload_n 1, 1) := by decide +kernel
theorem d_Lik_init_6 : decode cd_Lik_init 6 = .ok (.putfield 9, 3) := by decide +kernel
theorem d_Lik_init_9 : decode cd_Lik_init 9 = .ok (.aload_n 0, 1) := by decide +kernel
theorem d_Lik_init_10 : decode cd_Lik_init 10 = .ok (.sipush 640, 3) := by decide +kernel
theorem d_Lik_init_13 : decode cd_Lik_init 13 = .ok (.newarray .int, 2) := by decide +kernel
theorem d_Lik_init_15 : decode cd_Lik_init 15 = .ok (.putfield 15, 3) := by decide +kernel
theorem d_Lik_init_18 : decode cd_Lik_init 18 = .ok (.aload_n 0, 1) := by decide +kernel
theorem d_Lik_init_19 : decode cd_Lik_init 19 = .ok (.sipush 640, 3) := by decide +kernel
theorem d_Lik_init_22 : decode cd_Lik_init 22 = .ok (.newarray .int, 2) := by decide +kernel
theorem d_Lik_init_24 : decode cd_Lik_init 24 = .ok (.putfield 19, 3) := by decide +kernel
theorem d_Lik_init_27 : decode cd_Lik_init 27 = .ok (.aload_n 0, 1) := by decide +kernel
theorem d_Lik_init_28 : decode cd_Lik_init 28 = .ok (.sipush 640, 3) := by decide +kernel
theorem d_Lik_init_31 : decode cd_Lik_init 31 = .ok (.newarray .int, 2) := by decide +kernel
theorem d_Lik_init_33 : decode cd_Lik_init 33 = .ok (.putfield 22, 3) := by decide +kernel
theorem d_Lik_init_36 : decode cd_Lik_init 36 = .ok (.aload_n 0, 1) := by decide +kernel
theorem d_Lik_init_37 : decode cd_Lik_init 37 = .ok (.iconst 0, 1) := by decide +kernel
theorem d_Lik_init_38 : decode cd_Lik_init 38 = .ok (.putfield 25, 3) := by decide +kernel
theorem d_Lik_init_41 : decode cd_Lik_init 41 = .ok (.return_, 1) := by decide +kernel
abbrev rm_Lik_init : Room := { frames := 1, cells := 3, slots := 1920, locals := 12 }
set_option maxRecDepth 100000 in
set_option maxHeartbeats 8000000 in
theorem c_Lik_init {l : Launch} (D : va_G) (ka : Nat → ClassId) (h0 : Nat) (x1 : Nat) : yM l y_Lik_init (.code y_Lik_init cd_Lik_init 2 none :: xG) rm_Lik_init D ka [.ref h0, .ref x1] [(h0, .inr (4, [.null, .null, .null, .null, .int 0]))] (fun a => [(h0, .inr (4, [.ref x1, .ref (a 0), .ref (a 1), .ref (a 2), .int 0])), ((a 0), .inl (ka 0, 640, .inl (fun _ => 0))), ((a 1), .inl (ka 0, 640, .inl (fun _ => 0))), ((a 2), .inl (ka 0, 640, .inl (fun _ => 0)))]) 3 1920 := by
  refine y_begin (by decide) (Nat.le_of_ble_eq_true rfl) (fun p e s m below meth c ls C hlocks hr hin hJ hl => ?_)
  have C : yC p s m _ c cd_Lik_init 2 R_Lik D ka := C
  have hin : meth.name = "<init>" := hin
  have hx := C.1
  have hb := C.2.1
  have hown := C.2.2.2.1
  have hl : lv_has ls 2 [(0, .ref h0), (1, .ref x1)] := hl
  generalize hAe : va_A [(h0, .inr (4, [.null, .null, .null, .null, .int 0]))] s.heap.size = A at hJ
  have hJ : yJ D A s.heap [(h0, .inr (4, [.null, .null, .null, .null, .int 0]))] s.heap [] := hJ
  refine lv_aload_n hx hb d_Lik_init_0 rfl (lv_at hl 0 rfl) ?_
  refine y_obj C hl.1 (xG_mem 261 (by decide +kernel) (by decide +kernel)) (xG_mem 78 (by decide +kernel) (by decide +kernel)) (xG_mem 79 (by decide +kernel) (by decide +kernel)) d_Lik_init_1 (Nat.le_of_ble_eq_true rfl) (Nat.le_of_ble_eq_true rfl) ?_
  refine lv_aload_n hx hb d_Lik_init_4 rfl (lv_at hl 0 rfl) ?_
  refine lv_aload_n hx hb d_Lik_init_5 rfl (lv_at hl 1 rfl) ?_
  refine y_putF C hin hJ 0 rfl fy_Lik_9 (Nat.le_of_ble_eq_true rfl) d_Lik_init_6 (fun H locs hJ => ?_)
  have hJ : yJ D A s.heap [(h0, .inr (4, [.ref x1, .null, .null, .null, .int 0]))] H _ := hJ
  refine lv_aload_n hx hb d_Lik_init_9 rfl (lv_at hl 0 rfl) ?_
  refine lv_sipush (v := 640) hx hb d_Lik_init_10 (by decide) ?_
  refine y_newi C hJ (N := 640) (xG_mem 100 (by decide +kernel) (by decide +kernel)) (by decide) (by decide) (by decide) (Nat.le_of_ble_eq_true rfl) (Nat.le_of_ble_eq_true rfl) d_Lik_init_13 (fun q1 H hJ => ?_)
  have hJ : yJ D A s.heap [(h0, .inr (4, [.ref x1, .null, .null, .null, .int 0])), (q1, .inl (ka 0, 640, .inl (fun _ => 0)))] H _ := hJ
  refine y_putF C hin hJ 0 rfl fy_Lik_15 (Nat.le_of_ble_eq_true rfl) d_Lik_init_15 (fun H locs hJ => ?_)
  have hJ : yJ D A s.heap [(h0, .inr (4, [.ref x1, .ref q1, .null, .null, .int 0])), (q1, .inl (ka 0, 640, .inl (fun _ => 0)))] H _ := hJ
  refine lv_aload_n hx hb d_Lik_init_18 rfl (lv_at hl 0 rfl) ?_
  refine lv_sipush (v := 640) hx hb d_Lik_init_19 (by decide) ?_
  refine y_newi C hJ (N := 640) (xG_mem 100 (by decide +kernel) (by decide +kernel)) (by decide) (by decide) (by decide) (Nat.le_of_ble_eq_true rfl) (Nat.le_of_ble_eq_true rfl) d_Lik_init_22 (fun q2 H hJ => ?_)
  have hJ : yJ D A s.heap [(h0, .inr (4, [.ref x1, .ref q1, .null, .null, .int 0])), (q1, .inl (ka 0, 640, .inl (fun _ => 0))), (q2, .inl (ka 0, 640, .inl (fun _ => 0)))] H _ := hJ
  refine y_putF C hin hJ 0 rfl fy_Lik_19 (Nat.le_of_ble_eq_true rfl) d_Lik_init_24 (fun H locs hJ => ?_)
  have hJ : yJ D A s.heap [(h0, .inr (4, [.ref x1, .ref q1, .ref q2, .null, .int 0])), (q1, .inl (ka 0, 640, .inl (fun _ => 0))), (q2, .inl (ka 0, 640, .inl (fun _ => 0)))] H _ := hJ
  refine lv_aload_n hx hb d_Lik_init_27 rfl (lv_at hl 0 rfl) ?_
  refine lv_sipush (v := 640) hx hb d_Lik_init_28 (by decide) ?_
  refine y_newi C hJ (N := 640) (xG_mem 100 (by decide +kernel) (by decide +kernel)) (by decide) (by decide) (by decide) (Nat.le_of_ble_eq_true rfl) (Nat.le_of_ble_eq_true rfl) d_Lik_init_31 (fun q3 H hJ => ?_)
  have hJ : yJ D A s.heap [(h0, .inr (4, [.ref x1, .ref q1, .ref q2, .null, .int 0])), (q1, .inl (ka 0, 640, .inl (fun _ => 0))), (q2, .inl (ka 0, 640, .inl (fun _ => 0))), (q3, .inl (ka 0, 640, .inl (fun _ => 0)))] H _ := hJ
  refine y_putF C hin hJ 0 rfl fy_Lik_22 (Nat.le_of_ble_eq_true rfl) d_Lik_init_33 (fun H locs hJ => ?_)
  have hJ : yJ D A s.heap [(h0, .inr (4, [.ref x1, .ref q1, .ref q2, .ref q3, .int 0])), (q1, .inl (ka 0, 640, .inl (fun _ => 0))), (q2, .inl (ka 0, 640, .inl (fun _ => 0))), (q3, .inl (ka 0, 640, .inl (fun _ => 0)))] H _ := hJ
  refine lv_aload_n hx hb d_Lik_init_36 rfl (lv_at hl 0 rfl) ?_
  refine lv_iconst (v := 0) hx hb d_Lik_init_37 (by decide) ?_
  refine y_put C hJ 0 rfl fw_Lik_25 (Nat.le_of_ble_eq_true rfl) d_Lik_init_38 (fun H locs hJ => ?_)
  have hJ : yJ D A s.heap [(h0, .inr (4, [.ref x1, .ref q1, .ref q2, .ref q3, .int 0])), (q1, .inl (ka 0, 640, .inl (fun _ => 0))), (q2, .inl (ka 0, 640, .inl (fun _ => 0))), (q3, .inl (ka 0, 640, .inl (fun _ => 0)))] H _ := hJ
  rw [← hAe] at hJ
  exact y_ret C hlocks hr (hJ.re (w' := [(h0, .inr (4, [.ref x1, .ref q1, .ref q2, .ref q3, .int 0])), (q1, .inl (ka 0, 640, .inl (fun _ => 0))), (q2, .inl (ka 0, 640, .inl (fun _ => 0))), (q3, .inl (ka 0, 640, .inl (fun _ => 0)))]) [0, 1, 2, 3] (by decide +kernel) rfl) (fun k => [q1, q2, q3].getD k 0) rfl (Nat.le_of_ble_eq_true rfl) (Nat.le_of_ble_eq_true rfl) d_Lik_init_41
