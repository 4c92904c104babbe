def y_Val_init : MethodName := ⟨"RegionPool$Values", "<init>", "([I[I)V"⟩
abbrev cd_Val_init : ByteArray := prog_10_method_1_code
theorem fy_Val_9 : yFw R_Val 9 5 0 := ⟨R_Val, T_Val, 2, t_Val, .array .int, rfl, in_Val, by decide, xG_mem 92 (by decide +kernel) (by decide +kernel), tk_Val, nm_Val, rfl, rfl, by decide +kernel, Or.inr ⟨_, rfl⟩⟩
theorem fy_Val_15 : yFw R_Val 15 5 1 := ⟨R_Val, T_Val, 2, t_Val, .array .int, rfl, in_Val, by decide, xG_mem 93 (by decide +kernel) (by decide +kernel), tk_Val, nm_Val, rfl, rfl, by decide +kernel, Or.inr ⟨_, rfl⟩⟩
theorem d_Val_init_0 : decode cd_Val_init 0 = .ok (.aload_n 0, 1) := by decide +kernel
theorem d_Val_init_1 : decode cd_Val_init 1 = .ok (.invokespecial 3, 3) := by decide +kernel
theorem d_Val_init_4 : decode cd_Val_init 4 = .ok (.aload_n 0, 1) := by decide +kernel
theorem d_Val_init_5 : decode cd_Val_init 5 = .ok (.aload_n 1, 1) := by decide +kernel
theorem d_Val_init_6 : decode cd_Val_init 6 = .ok (.putfield 9, 3) := by decide +kernel
theorem d_Val_init_9 : decode cd_Val_init 9 = .ok (.aload_n 0, 1) := by decide +kernel
theorem d_Val_init_10 : decode cd_Val_init 10 = .ok (.aload_n 2, 1) := by decide +kernel
theorem d_Val_init_11 : decode cd_Val_init 11 = .ok (.putfield 15, 3) := by decide +kernel
theorem d_Val_init_14 : decode cd_Val_init 14 = .ok (.return_, 1) := by decide +kernel
abbrev rm_Val_init : Room := { frames := 1, cells := 0, slots := 0, locals := 12 }
set_option maxRecDepth 100000 in
set_option maxHeartbeats 8000000 in
theorem c_Val_init {l : Launch} (D : va_G) (ka : Nat → ClassId) (h0 : Nat) (x1 : Nat) (x2 : Nat) : yM l y_Val_init (.code y_Val_init cd_Val_init 3 none :: xG) rm_Val_init D ka [.ref h0, .ref x1, .ref x2] [(h0, .inr (5, [.null, .null]))] (fun a => [(h0, .inr (5, [.ref x1, .ref x2]))]) 0 0 := by
  refine y_begin (by decide) (Nat.le_of_ble_eq_true rfl) (fun p e s m below meth c ls C hlocks hr hin hJ hl => ?_)
  have C : yC p s m _ c cd_Val_init 3 R_Val D ka := C
  have hin : meth.name = "<init>" := hin
  have hx := C.1
  have hb := C.2.1
  have hown := C.2.2.2.1
  have hl : lv_has ls 3 [(0, .ref h0), (1, .ref x1), (2, .ref x2)] := hl
  generalize hAe : va_A [(h0, .inr (5, [.null, .null]))] s.heap.size = A at hJ
  have hJ : yJ D A s.heap [(h0, .inr (5, [.null, .null]))] s.heap [] := hJ
  refine lv_aload_n hx hb d_Val_init_0 rfl (lv_at hl 0 rfl) ?_
  refine y_obj C hl.1 (xG_mem 91 (by decide +kernel) (by decide +kernel)) (xG_mem 78 (by decide +kernel) (by decide +kernel)) (xG_mem 79 (by decide +kernel) (by decide +kernel)) d_Val_init_1 (Nat.le_of_ble_eq_true rfl) (Nat.le_of_ble_eq_true rfl) ?_
  refine lv_aload_n hx hb d_Val_init_4 rfl (lv_at hl 0 rfl) ?_
  refine lv_aload_n hx hb d_Val_init_5 rfl (lv_at hl 1 rfl) ?_
  refine y_putF C hin hJ 0 rfl fy_Val_9 (Nat.le_of_ble_eq_true rfl) d_Val_init_6 (fun H locs hJ => ?_)
  have hJ : yJ D A s.heap [(h0, .inr (5, [.ref x1, .null]))] H _ := hJ
  refine lv_aload_n hx hb d_Val_init_9 rfl (lv_at hl 0 rfl) ?_
  refine lv_aload_n hx hb d_Val_init_10 rfl (lv_at hl 2 rfl) ?_
  refine y_putF C hin hJ 0 rfl fy_Val_15 (Nat.le_of_ble_eq_true rfl) d_Val_init_11 (fun H locs hJ => ?_)
  have hJ : yJ D A s.heap [(h0, .inr (5, [.ref x1, .ref x2]))] H _ := hJ
  rw [← hAe] at hJ
  exact y_ret C hlocks hr (hJ.re (w' := [(h0, .inr (5, [.ref x1, .ref x2]))]) [0] (by decide +kernel) rfl) (fun k => [].getD k 0) rfl (Nat.le_of_ble_eq_true rfl) (Nat.le_of_ble_eq_true rfl) d_Val_init_14
def y_Hea_init : MethodName := ⟨"RegionPool$Heap", "<init>", "()V"⟩
abbrev cd_Hea_init : ByteArray := prog_3_method_1_code
theorem mlF_Hea_9 : Cond.methodLink R_Hea 9 y_Fill ∈ xG := xG_mem 107 (by decide +kernel) (by decide +kernel)
theorem ml_Hea_17 : Cond.methodLink R_Hea 17 y_Val_init ∈ xG := xG_mem 111 (by decide +kernel) (by decide +kernel)
theorem yc_Val_init : yY y_Val_init cd_Val_init 3 2 := ⟨xG_mem 89 (by decide +kernel) (by decide +kernel), xG_mem 56 (by decide +kernel) (by decide +kernel), xG_mem 90 (by decide +kernel) (by decide +kernel), rfl, by decide, by decide, by decide +kernel⟩
theorem fy_Hea_20 : yFw R_Hea 20 6 0 := ⟨R_Hea, T_Hea, 1, t_Hea, .object "RegionPool$Values", rfl, in_Hea, by decide, xG_mem 112 (by decide +kernel) (by decide +kernel), tk_Hea, nm_Hea, rfl, rfl, by decide +kernel, Or.inl ⟨_, rfl⟩⟩
theorem d_Hea_init_0 : decode cd_Hea_init 0 = .ok (.aload_n 0, 1) := by decide +kernel
theorem d_Hea_init_1 : decode cd_Hea_init 1 = .ok (.invokespecial 3, 3) := by decide +kernel
theorem d_Hea_init_4 : decode cd_Hea_init 4 = .ok (.sipush 640, 3) := by decide +kernel
theorem d_Hea_init_7 : decode cd_Hea_init 7 = .ok (.newarray .int, 2) := by decide +kernel
theorem d_Hea_init_9 : decode cd_Hea_init 9 = .ok (.astore_n 1, 1) := by decide +kernel
theorem d_Hea_init_10 : decode cd_Hea_init 10 = .ok (.aload_n 1, 1) := by decide +kernel
theorem d_Hea_init_11 : decode cd_Hea_init 11 = .ok (.iconst 4, 1) := by decide +kernel
theorem d_Hea_init_12 : decode cd_Hea_init 12 = .ok (.invokestatic 9, 3) := by decide +kernel
theorem d_Hea_init_15 : decode cd_Hea_init 15 = .ok (.aload_n 0, 1) := by decide +kernel
theorem d_Hea_init_16 : decode cd_Hea_init 16 = .ok (.new 15, 3) := by decide +kernel
theorem d_Hea_init_19 : decode cd_Hea_init 19 = .ok (.dup, 1) := by decide +kernel
theorem d_Hea_init_20 : decode cd_Hea_init 20 = .ok (.aload_n 1, 1) := by decide +kernel
theorem d_Hea_init_21 : decode cd_Hea_init 21 = .ok (.sipush 640, 3) := by decide +kernel
theorem d_Hea_init_24 : decode cd_Hea_init 24 = .ok (.newarray .int, 2) := by decide +kernel
theorem d_Hea_init_26 : decode cd_Hea_init 26 = .ok (.invokespecial 17, 3) := by decide +kernel
theorem d_Hea_init_29 : decode cd_Hea_init 29 = .ok (.putfield 20, 3) := by decide +kernel
theorem d_Hea_init_32 : decode cd_Hea_init 32 = .ok (.return_, 1) := by decide +kernel
abbrev rm_Hea_init : Room := { frames := 2, cells := 3, slots := 1282, locals := 34 }
set_option maxRecDepth 100000 in
set_option maxHeartbeats 8000000 in
theorem c_Hea_init {l : Launch} (D : va_G) (ka : Nat → ClassId) (h0 : Nat) : yM l y_Hea_init (.code y_Hea_init cd_Hea_init 2 none :: xG) rm_Hea_init D ka [.ref h0] [(h0, .inr (6, [.null]))] (fun a => [(h0, .inr (6, [.ref (a 2)])), ((a 0), .inl (ka 0, 640, .inl (fun _ => 4))), ((a 1), .inl (ka 0, 640, .inl (fun _ => 0))), ((a 2), .inr (5, [.ref (a 0), .ref (a 1)]))]) 3 1282 := by
  refine y_begin (by decide) (Nat.le_of_ble_eq_true rfl) (fun p e s m below meth c ls C hlocks hr hin hJ hl => ?_)
  have C : yC p s m _ c cd_Hea_init 2 R_Hea D ka := C
  have hin : meth.name = "<init>" := hin
  have hx := C.1
  have hb := C.2.1
  have hown := C.2.2.2.1
  have hl : lv_has ls 2 [(0, .ref h0)] := hl
  generalize hAe : va_A [(h0, .inr (6, [.null]))] s.heap.size = A at hJ
  have hJ : yJ D A s.heap [(h0, .inr (6, [.null]))] s.heap [] := hJ
  refine lv_aload_n hx hb d_Hea_init_0 rfl (lv_at hl 0 rfl) ?_
  refine y_obj C hl.1 (xG_mem 106 (by decide +kernel) (by decide +kernel)) (xG_mem 78 (by decide +kernel) (by decide +kernel)) (xG_mem 79 (by decide +kernel) (by decide +kernel)) d_Hea_init_1 (Nat.le_of_ble_eq_true rfl) (Nat.le_of_ble_eq_true rfl) ?_
  refine lv_sipush (v := 640) hx hb d_Hea_init_4 (by decide) ?_
  refine y_newi C hJ (N := 640) (xG_mem 100 (by decide +kernel) (by decide +kernel)) (by decide) (by decide) (by decide) (Nat.le_of_ble_eq_true rfl) (Nat.le_of_ble_eq_true rfl) d_Hea_init_7 (fun q1 H hJ => ?_)
  have hJ : yJ D A s.heap [(h0, .inr (6, [.null])), (q1, .inl (ka 0, 640, .inl (fun _ => 0)))] H _ := hJ
  refine lv_astore_n (lv' := [(1, .ref q1), (0, .ref h0)]) hx hb d_Hea_init_9 rfl hl (by decide) rfl (fun ls hl => ?_)
  refine lv_aload_n hx hb d_Hea_init_10 rfl (lv_at hl 0 rfl) ?_
  refine lv_iconst (v := 4) hx hb d_Hea_init_11 (by decide) ?_
  refine y_fill C hJ hl.1 (rest := []) (wr := [(h0, .inr (6, [.null]))]) (by decide) [1] [0] rfl rfl (by decide) (by decide) (by decide) (xG_mem 108 (by decide +kernel) (by decide +kernel)) (xG_mem 58 (by decide +kernel) (by decide +kernel)) (xG_mem 109 (by decide +kernel) (by decide +kernel)) mlF_Hea_9 ⟨Nat.le_of_ble_eq_true rfl, Nat.le_of_ble_eq_true rfl⟩ (Nat.le_of_ble_eq_true rfl) d_Hea_init_12 ⟨Nat.le_of_ble_eq_true rfl, Nat.le_of_ble_eq_true rfl⟩ (fun H locs hJ => ?_)
  have hJ : yJ D A s.heap [(h0, .inr (6, [.null])), (q1, .inl (ka 0, 640, .inl (fun _ => 4)))] H _ := hJ
  refine lv_aload_n hx hb d_Hea_init_15 rfl (lv_at hl 1 rfl) ?_
  refine y_new C hJ (ci := 5) (fs := [.null, .null]) rfl in_Val t_Val tk_Val (xG_mem 110 (by decide +kernel) (by decide +kernel)) (xG_mem 87 (by decide +kernel) (by decide +kernel)) (xG_mem 56 (by decide +kernel) (by decide +kernel)) (fun j hj => by rcases (show j = 0 ∨ j = 1 by omega) with rfl | rfl <;> rfl) (Nat.le_of_ble_eq_true rfl) (Nat.le_of_ble_eq_true rfl) d_Hea_init_16 (fun q2 H hJ => ?_)
  have hJ : yJ D A s.heap [(h0, .inr (6, [.null])), (q1, .inl (ka 0, 640, .inl (fun _ => 4))), (q2, .inr (5, [.null, .null]))] H _ := hJ
  refine lv_dup hx hb d_Hea_init_19 rfl ?_
  refine lv_aload_n hx hb d_Hea_init_20 rfl (lv_at hl 0 rfl) ?_
  refine lv_sipush (v := 640) hx hb d_Hea_init_21 (by decide) ?_
  refine y_newi C hJ (N := 640) (xG_mem 100 (by decide +kernel) (by decide +kernel)) (by decide) (by decide) (by decide) (Nat.le_of_ble_eq_true rfl) (Nat.le_of_ble_eq_true rfl) d_Hea_init_24 (fun q3 H hJ => ?_)
  have hJ : yJ D A s.heap [(h0, .inr (6, [.null])), (q1, .inl (ka 0, 640, .inl (fun _ => 4))), (q2, .inr (5, [.null, .null])), (q3, .inl (ka 0, 640, .inl (fun _ => 0)))] H _ := hJ
  refine y_callI C hJ hl.1 (As := [.ref q1, .ref q3]) (rest := [.ref q2, .ref h0]) (w0 := [(q2, .inr (5, [.null, .null]))]) (wr := [(h0, .inr (6, [.null])), (q1, .inl (ka 0, 640, .inl (fun _ => 4))), (q3, .inl (ka 0, 640, .inl (fun _ => 0)))]) [2] [0, 1, 3] rfl rfl (by decide) (by decide) (by decide) (c_Val_init (l := l) D ka q2 q1 q3) yc_Val_init ml_Hea_17 rfl rfl ⟨Nat.le_of_ble_eq_true rfl, Nat.le_of_ble_eq_true rfl⟩ rfl rfl (Nat.le_of_ble_eq_true rfl) d_Hea_init_26 ⟨Nat.le_of_ble_eq_true rfl, Nat.le_of_ble_eq_true rfl⟩ (fun a4 H locs hJ => ?_)
  have hJ : yJ D A s.heap [(h0, .inr (6, [.null])), (q1, .inl (ka 0, 640, .inl (fun _ => 4))), (q3, .inl (ka 0, 640, .inl (fun _ => 0))), (q2, .inr (5, [.ref q1, .ref q3]))] H _ := hJ
  refine y_putF C hin hJ 0 rfl fy_Hea_20 (Nat.le_of_ble_eq_true rfl) d_Hea_init_29 (fun H locs hJ => ?_)
  have hJ : yJ D A s.heap [(h0, .inr (6, [.ref q2])), (q1, .inl (ka 0, 640, .inl (fun _ => 4))), (q3, .inl (ka 0, 640, .inl (fun _ => 0))), (q2, .inr (5, [.ref q1, .ref q3]))] H _ := hJ
  rw [← hAe] at hJ
  exact y_ret C hlocks hr (hJ.re (w' := [(h0, .inr (6, [.ref q2])), (q1, .inl (ka 0, 640, .inl (fun _ => 4))), (q3, .inl (ka 0, 640, .inl (fun _ => 0))), (q2, .inr (5, [.ref q1, .ref q3]))]) [0, 1, 2, 3] (by decide +kernel) rfl) (fun k => [q1, q3, q2].getD k 0) rfl (Nat.le_of_ble_eq_true rfl) (Nat.le_of_ble_eq_true rfl) d_Hea_init_32
def y_Reg_init : MethodName := ⟨"RegionPool$Regions", "<init>", "()V"⟩
abbrev cd_Reg_init : ByteArray := prog_9_method_1_code
theorem fy_Reg_9 : yFw R_Reg 9 7 0 := ⟨R_Reg, T_Reg, 5, t_Reg, .array .int, rfl, in_Reg, by decide, xG_mem 131 (by decide +kernel) (by decide +kernel), tk_Reg, nm_Reg, rfl, rfl, by decide +kernel, Or.inr ⟨_, rfl⟩⟩
theorem fy_Reg_17 : yFw R_Reg 17 7 1 := ⟨R_Reg, T_Reg, 5, t_Reg, .array (.array .int), rfl, in_Reg, by decide, xG_mem 132 (by decide +kernel) (by decide +kernel), tk_Reg, nm_Reg, rfl, rfl, by decide +kernel, Or.inr ⟨_, rfl⟩⟩
theorem fy_Reg_20 : yFw R_Reg 20 7 2 := ⟨R_Reg, T_Reg, 5, t_Reg, .array .int, rfl, in_Reg, by decide, xG_mem 133 (by decide +kernel) (by decide +kernel), tk_Reg, nm_Reg, rfl, rfl, by decide +kernel, Or.inr ⟨_, rfl⟩⟩
theorem fy_Reg_23 : yFw R_Reg 23 7 3 := ⟨R_Reg, T_Reg, 5, t_Reg, .array .int, rfl, in_Reg, by decide, xG_mem 134 (by decide +kernel) (by decide +kernel), tk_Reg, nm_Reg, rfl, rfl, by decide +kernel, Or.inr ⟨_, rfl⟩⟩
theorem mlF_Reg_30 : Cond.methodLink R_Reg 30 y_Fill ∈ xG := xG_mem 130 (by decide +kernel) (by decide +kernel)
theorem d_Reg_init_0 : decode cd_Reg_init 0 = .ok (.aload_n 0, 1) := by decide +kernel
theorem d_Reg_init_1 : decode cd_Reg_init 1 = .ok (.invokespecial 3, 3) := by decide +kernel
theorem d_Reg_init_4 : decode cd_Reg_init 4 = .ok (.aload_n 0, 1) := by decide +kernel
theorem d_Reg_init_5 : decode cd_Reg_init 5 = .ok (.bipush 40, 2) := by decide +kernel
theorem d_Reg_init_7 : decode cd_Reg_init 7 = .ok (.newarray .int, 2) := by decide +kernel
theorem d_Reg_init_9 : decode cd_Reg_init 9 = .ok (.putfield 9, 3) := by decide +kernel
theorem d_Reg_init_12 : decode cd_Reg_init 12 = .ok (.aload_n 0, 1) := by decide +kernel
theorem d_Reg_init_13 : decode cd_Reg_init 13 = .ok (.bipush 8, 2) := by decide +kernel
theorem d_Reg_init_15 : decode cd_Reg_init 15 = .ok (.bipush 40, 2) := by decide +kernel
theorem d_Reg_init_17 : decode cd_Reg_init 17 = .ok (.multianewarray 15 2, 4) := by decide +kernel
theorem d_Reg_init_21 : decode cd_Reg_init 21 = .ok (.putfield 17, 3) := by decide +kernel
theorem d_Reg_init_24 : decode cd_Reg_init 24 = .ok (.aload_n 0, 1) := by decide +kernel
theorem d_Reg_init_25 : decode cd_Reg_init 25 = .ok (.bipush 8, 2) := by decide +kernel
theorem d_Reg_init_27 : decode cd_Reg_init 27 = .ok (.newarray .int, 2) := by decide +kernel
theorem d_Reg_init_29 : decode cd_Reg_init 29 = .ok (.putfield 20, 3) := by decide +kernel
theorem d_Reg_init_32 : decode cd_Reg_init 32 = .ok (.aload_n 0, 1) := by decide +kernel
theorem d_Reg_init_33 : decode cd_Reg_init 33 = .ok (.bipush 8, 2) := by decide +kernel
theorem d_Reg_init_35 : decode cd_Reg_init 35 = .ok (.newarray .int, 2) := by decide +kernel
theorem d_Reg_init_37 : decode cd_Reg_init 37 = .ok (.putfield 23, 3) := by decide +kernel
theorem d_Reg_init_40 : decode cd_Reg_init 40 = .ok (.aload_n 0, 1) := by decide +kernel
theorem d_Reg_init_41 : decode cd_Reg_init 41 = .ok (.iconst 0, 1) := by decide +kernel
theorem d_Reg_init_42 : decode cd_Reg_init 42 = .ok (.putfield 26, 3) := by decide +kernel
theorem d_Reg_init_45 : decode cd_Reg_init 45 = .ok (.aload_n 0, 1) := by decide +kernel
theorem d_Reg_init_46 : decode cd_Reg_init 46 = .ok (.getfield 9, 3) := by decide +kernel
theorem d_Reg_init_49 : decode cd_Reg_init 49 = .ok (.iconst (-1), 1) := by decide +kernel
theorem d_Reg_init_50 : decode cd_Reg_init 50 = .ok (.invokestatic 30, 3) := by decide +kernel
theorem d_Reg_init_53 : decode cd_Reg_init 53 = .ok (.return_, 1) := by decide +kernel
abbrev rm_Reg_init : Room := { frames := 1, cells := 12, slots := 384, locals := 23 }
set_option maxRecDepth 100000 in
set_option maxHeartbeats 8000000 in
theorem c_Reg_init {l : Launch} (D : va_G) (ka : Nat → ClassId) (h0 : Nat) : yM l y_Reg_init (.code y_Reg_init cd_Reg_init 1 none :: xG) rm_Reg_init D ka [.ref h0] [(h0, .inr (7, [.null, .null, .null, .null, .int 0]))] (fun a => [(h0, .inr (7, [.ref (a 11), .ref (a 0), .ref (a 9), .ref (a 10), .int 0])), ((a 0), .inl (ka 3, 8, .inr (.inr (.inr (.inr (fun i => if i < 8 then some ((fun i => a (1 + i)) i) else none)))))), ((a 1), .inl (ka 0, 40, .inl (fun _ => 0))), ((a 2), .inl (ka 0, 40, .inl (fun _ => 0))), ((a 3), .inl (ka 0, 40, .inl (fun _ => 0))), ((a 4), .inl (ka 0, 40, .inl (fun _ => 0))), ((a 5), .inl (ka 0, 40, .inl (fun _ => 0))), ((a 6), .inl (ka 0, 40, .inl (fun _ => 0))), ((a 7), .inl (ka 0, 40, .inl (fun _ => 0))), ((a 8), .inl (ka 0, 40, .inl (fun _ => 0))), ((a 9), .inl (ka 0, 8, .inl (fun _ => 0))), ((a 10), .inl (ka 0, 8, .inl (fun _ => 0))), ((a 11), .inl (ka 0, 40, .inl (fun _ => (-1))))]) 12 384 := by
  refine y_begin (by decide) (Nat.le_of_ble_eq_true rfl) (fun p e s m below meth c ls C hlocks hr hin hJ hl => ?_)
  have C : yC p s m _ c cd_Reg_init 1 R_Reg D ka := C
  have hin : meth.name = "<init>" := hin
  have hx := C.1
  have hb := C.2.1
  have hown := C.2.2.2.1
  have hl : lv_has ls 1 [(0, .ref h0)] := hl
  generalize hAe : va_A [(h0, .inr (7, [.null, .null, .null, .null, .int 0]))] s.heap.size = A at hJ
  have hJ : yJ D A s.heap [(h0, .inr (7, [.null, .null, .null, .null, .int 0]))] s.heap [] := hJ
  refine lv_aload_n hx hb d_Reg_init_0 rfl (lv_at hl 0 rfl) ?_
  refine y_obj C hl.1 (xG_mem 127 (by decide +kernel) (by decide +kernel)) (xG_mem 78 (by decide +kernel) (by decide +kernel)) (xG_mem 79 (by decide +kernel) (by decide +kernel)) d_Reg_init_1 (Nat.le_of_ble_eq_true rfl) (Nat.le_of_ble_eq_true rfl) ?_
  refine lv_aload_n hx hb d_Reg_init_4 rfl (lv_at hl 0 rfl) ?_
  refine lv_bipush (v := 40) hx hb d_Reg_init_5 (by decide) ?_
  refine y_newi C hJ (N := 40) (xG_mem 100 (by decide +kernel) (by decide +kernel)) (by decide) (by decide) (by decide) (Nat.le_of_ble_eq_true rfl) (Nat.le_of_ble_eq_true rfl) d_Reg_init_7 (fun q1 H hJ => ?_)
  have hJ : yJ D A s.heap [(h0, .inr (7, [.null, .null, .null, .null, .int 0])), (q1, .inl (ka 0, 40, .inl (fun _ => 0)))] H _ := hJ
  refine y_putF C hin hJ 0 rfl fy_Reg_9 (Nat.le_of_ble_eq_true rfl) d_Reg_init_9 (fun H locs hJ => ?_)
  have hJ : yJ D A s.heap [(h0, .inr (7, [.ref q1, .null, .null, .null, .int 0])), (q1, .inl (ka 0, 40, .inl (fun _ => 0)))] H _ := hJ
  refine lv_aload_n hx hb d_Reg_init_12 rfl (lv_at hl 0 rfl) ?_
  refine lv_bipush (v := 8) hx hb d_Reg_init_13 (by decide) ?_
  refine lv_bipush (v := 40) hx hb d_Reg_init_15 (by decide) ?_
  refine y_grid C hJ (xG_mem 128 (by decide +kernel) (by decide +kernel)) (xG_mem 100 (by decide +kernel) (by decide +kernel)) (Nat.le_of_ble_eq_true rfl) (Nat.le_of_ble_eq_true rfl) d_Reg_init_17 (fun q2 r3 H hJ => ?_)
  have hJ : yJ D A s.heap [(h0, .inr (7, [.ref q1, .null, .null, .null, .int 0])), (q1, .inl (ka 0, 40, .inl (fun _ => 0))), (q2, .inl (ka 3, 8, .inr (.inr (.inr (.inr (fun i => if i < 8 then some (r3 i) else none)))))), ((r3 0), .inl (ka 0, 40, .inl (fun _ => 0))), ((r3 1), .inl (ka 0, 40, .inl (fun _ => 0))), ((r3 2), .inl (ka 0, 40, .inl (fun _ => 0))), ((r3 3), .inl (ka 0, 40, .inl (fun _ => 0))), ((r3 4), .inl (ka 0, 40, .inl (fun _ => 0))), ((r3 5), .inl (ka 0, 40, .inl (fun _ => 0))), ((r3 6), .inl (ka 0, 40, .inl (fun _ => 0))), ((r3 7), .inl (ka 0, 40, .inl (fun _ => 0)))] H _ := hJ
  refine y_putF C hin hJ 0 rfl fy_Reg_17 (Nat.le_of_ble_eq_true rfl) d_Reg_init_21 (fun H locs hJ => ?_)
  have hJ : yJ D A s.heap [(h0, .inr (7, [.ref q1, .ref q2, .null, .null, .int 0])), (q1, .inl (ka 0, 40, .inl (fun _ => 0))), (q2, .inl (ka 3, 8, .inr (.inr (.inr (.inr (fun i => if i < 8 then some (r3 i) else none)))))), ((r3 0), .inl (ka 0, 40, .inl (fun _ => 0))), ((r3 1), .inl (ka 0, 40, .inl (fun _ => 0))), ((r3 2), .inl (ka 0, 40, .inl (fun _ => 0))), ((r3 3), .inl (ka 0, 40, .inl (fun _ => 0))), ((r3 4), .inl (ka 0, 40, .inl (fun _ => 0))), ((r3 5), .inl (ka 0, 40, .inl (fun _ => 0))), ((r3 6), .inl (ka 0, 40, .inl (fun _ => 0))), ((r3 7), .inl (ka 0, 40, .inl (fun _ => 0)))] H _ := hJ
  refine lv_aload_n hx hb d_Reg_init_24 rfl (lv_at hl 0 rfl) ?_
  refine lv_bipush (v := 8) hx hb d_Reg_init_25 (by decide) ?_
  refine y_newi C hJ (N := 8) (xG_mem 100 (by decide +kernel) (by decide +kernel)) (by decide) (by decide) (by decide) (Nat.le_of_ble_eq_true rfl) (Nat.le_of_ble_eq_true rfl) d_Reg_init_27 (fun q4 H hJ => ?_)
  have hJ : yJ D A s.heap [(h0, .inr (7, [.ref q1, .ref q2, .null, .null, .int 0])), (q1, .inl (ka 0, 40, .inl (fun _ => 0))), (q2, .inl (ka 3, 8, .inr (.inr (.inr (.inr (fun i => if i < 8 then some (r3 i) else none)))))), ((r3 0), .inl (ka 0, 40, .inl (fun _ => 0))), ((r3 1), .inl (ka 0, 40, .inl (fun _ => 0))), ((r3 2), .inl (ka 0, 40, .inl (fun _ => 0))), ((r3 3), .inl (ka 0, 40, .inl (fun _ => 0))), ((r3 4), .inl (ka 0, 40, .inl (fun _ => 0))), ((r3 5), .inl (ka 0, 40, .inl (fun _ => 0))), ((r3 6), .inl (ka 0, 40, .inl (fun _ => 0))), ((r3 7), .inl (ka 0, 40, .inl (fun _ => 0))), (q4, .inl (ka 0, 8, .inl (fun _ => 0)))] H _ := hJ
  refine y_putF C hin hJ 0 rfl fy_Reg_20 (Nat.le_of_ble_eq_true rfl) d_Reg_init_29 (fun H locs hJ => ?_)
  have hJ : yJ D A s.heap [(h0, .inr (7, [.ref q1, .ref q2, .ref q4, .null, .int 0])), (q1, .inl (ka 0, 40, .inl (fun _ => 0))), (q2, .inl (ka 3, 8, .inr (.inr (.inr (.inr (fun i => if i < 8 then some (r3 i) else none)))))), ((r3 0), .inl (ka 0, 40, .inl (fun _ => 0))), ((r3 1), .inl (ka 0, 40, .inl (fun _ => 0))), ((r3 2), .inl (ka 0, 40, .inl (fun _ => 0))), ((r3 3), .inl (ka 0, 40, .inl (fun _ => 0))), ((r3 4), .inl (ka 0, 40, .inl (fun _ => 0))), ((r3 5), .inl (ka 0, 40, .inl (fun _ => 0))), ((r3 6), .inl (ka 0, 40, .inl (fun _ => 0))), ((r3 7), .inl (ka 0, 40, .inl (fun _ => 0))), (q4, .inl (ka 0, 8, .inl (fun _ => 0)))] H _ := hJ
  refine lv_aload_n hx hb d_Reg_init_32 rfl (lv_at hl 0 rfl) ?_
  refine lv_bipush (v := 8) hx hb d_Reg_init_33 (by decide) ?_
  refine y_newi C hJ (N := 8) (xG_mem 100 (by decide +kernel) (by decide +kernel)) (by decide) (by decide) (by decide) (Nat.le_of_ble_eq_true rfl) (Nat.le_of_ble_eq_true rfl) d_Reg_init_35 (fun q5 H hJ => ?_)
  have hJ : yJ D A s.heap [(h0, .inr (7, [.ref q1, .ref q2, .ref q4, .null, .int 0])), (q1, .inl (ka 0, 40, .inl (fun _ => 0))), (q2, .inl (ka 3, 8, .inr (.inr (.inr (.inr (fun i => if i < 8 then some (r3 i) else none)))))), ((r3 0), .inl (ka 0, 40, .inl (fun _ => 0))), ((r3 1), .inl (ka 0, 40, .inl (fun _ => 0))), ((r3 2), .inl (ka 0, 40, .inl (fun _ => 0))), ((r3 3), .inl (ka 0, 40, .inl (fun _ => 0))), ((r3 4), .inl (ka 0, 40, .inl (fun _ => 0))), ((r3 5), .inl (ka 0, 40, .inl (fun _ => 0))), ((r3 6), .inl (ka 0, 40, .inl (fun _ => 0))), ((r3 7), .inl (ka 0, 40, .inl (fun _ => 0))), (q4, .inl (ka 0, 8, .inl (fun _ => 0))), (q5, .inl (ka 0, 8, .inl (fun _ => 0)))] H _ := hJ
  refine y_putF C hin hJ 0 rfl fy_Reg_23 (Nat.le_of_ble_eq_true rfl) d_Reg_init_37 (fun H locs hJ => ?_)
  have hJ : yJ D A s.heap [(h0, .inr (7, [.ref q1, .ref q2, .ref q4, .ref q5, .int 0])), (q1, .inl (ka 0, 40, .inl (fun _ => 0))), (q2, .inl (ka 3, 8, .inr (.inr (.inr (.inr (fun i => if i < 8 then some (r3 i) else none)))))), ((r3 0), .inl (ka 0, 40, .inl (fun _ => 0))), ((r3 1), .inl (ka 0, 40, .inl (fun _ => 0))), ((r3 2), .inl (ka 0, 40, .inl (fun _ => 0))), ((r3 3), .inl (ka 0, 40, .inl (fun _ => 0))), ((r3 4), .inl (ka 0, 40, .inl (fun _ => 0))), ((r3 5), .inl (ka 0, 40, .inl (fun _ => 0))), ((r3 6), .inl (ka 0, 40, .inl (fun _ => 0))), ((r3 7), .inl (ka 0, 40, .inl (fun _ => 0))), (q4, .inl (ka 0, 8, .inl (fun _ => 0))), (q5, .inl (ka 0, 8, .inl (fun _ => 0)))] H _ := hJ
  refine lv_aload_n hx hb d_Reg_init_40 rfl (lv_at hl 0 rfl) ?_
  refine lv_iconst (v := 0) hx hb d_Reg_init_41 (by decide) ?_
  refine y_put C hJ 0 rfl fw_Reg_26 (Nat.le_of_ble_eq_true rfl) d_Reg_init_42 (fun H locs hJ => ?_)
  have hJ : yJ D A s.heap [(h0, .inr (7, [.ref q1, .ref q2, .ref q4, .ref q5, .int 0])), (q1, .inl (ka 0, 40, .inl (fun _ => 0))), (q2, .inl (ka 3, 8, .inr (.inr (.inr (.inr (fun i => if i < 8 then some (r3 i) else none)))))), ((r3 0), .inl (ka 0, 40, .inl (fun _ => 0))), ((r3 1), .inl (ka 0, 40, .inl (fun _ => 0))), ((r3 2), .inl (ka 0, 40, .inl (fun _ => 0))), ((r3 3), .inl (ka 0, 40, .inl (fun _ => 0))), ((r3 4), .inl (ka 0, 40, .inl (fun _ => 0))), ((r3 5), .inl (ka 0, 40, .inl (fun _ => 0))), ((r3 6), .inl (ka 0, 40, .inl (fun _ => 0))), ((r3 7), .inl (ka 0, 40, .inl (fun _ => 0))), (q4, .inl (ka 0, 8, .inl (fun _ => 0))), (q5, .inl (ka 0, 8, .inl (fun _ => 0)))] H _ := hJ
  refine lv_aload_n hx hb d_Reg_init_45 rfl (lv_at hl 0 rfl) ?_
  refine y_get C hJ 0 rfl fd_Reg_9 (k := 0) rfl d_Reg_init_46 ?_
  refine lv_iconst (v := (-1)) hx hb d_Reg_init_49 (by decide) ?_
  refine y_fill C hJ hl.1 (rest := []) (wr := [(h0, .inr (7, [.ref q1, .ref q2, .ref q4, .ref q5, .int 0])), (q2, .inl (ka 3, 8, .inr (.inr (.inr (.inr (fun i => if i < 8 then some (r3 i) else none)))))), ((r3 0), .inl (ka 0, 40, .inl (fun _ => 0))), ((r3 1), .inl (ka 0, 40, .inl (fun _ => 0))), ((r3 2), .inl (ka 0, 40, .inl (fun _ => 0))), ((r3 3), .inl (ka 0, 40, .inl (fun _ => 0))), ((r3 4), .inl (ka 0, 40, .inl (fun _ => 0))), ((r3 5), .inl (ka 0, 40, .inl (fun _ => 0))), ((r3 6), .inl (ka 0, 40, .inl (fun _ => 0))), ((r3 7), .inl (ka 0, 40, .inl (fun _ => 0))), (q4, .inl (ka 0, 8, .inl (fun _ => 0))), (q5, .inl (ka 0, 8, .inl (fun _ => 0)))]) (by decide) [1] [0, 2, 3, 4, 5, 6, 7, 8, 9, 10, 11, 12] rfl rfl (by decide) (by decide) (by decide) (xG_mem 108 (by decide +kernel) (by decide +kernel)) (xG_mem 58 (by decide +kernel) (by decide +kernel)) (xG_mem 109 (by decide +kernel) (by decide +kernel)) mlF_Reg_30 ⟨Nat.le_of_ble_eq_true rfl, Nat.le_of_ble_eq_true rfl⟩ (Nat.le_of_ble_eq_true rfl) d_Reg_init_50 ⟨Nat.le_of_ble_eq_true rfl, Nat.le_of_ble_eq_true rfl⟩ (fun H locs hJ => ?_)
  have hJ : yJ D A s.heap [(h0, .inr (7, [.ref q1, .ref q2, .ref q4, .ref q5, .int 0])), (q2, .inl (ka 3, 8, .inr (.inr (.inr (.inr (fun i => if i < 8 then some (r3 i) else none)))))), ((r3 0), .inl (ka 0, 40, .inl (fun _ => 0))), ((r3 1), .inl (ka 0, 40, .inl (fun _ => 0))), ((r3 2), .inl (ka 0, 40, .inl (fun _ => 0))), ((r3 3), .inl (ka 0, 40, .inl (fun _ => 0))), ((r3 4), .inl (ka 0, 40, .inl (fun _ => 0))), ((r3 5), .inl (ka 0, 40, .inl (fun _ => 0))), ((r3 6), .inl (ka 0, 40, .inl (fun _ => 0))), ((r3 7), .inl (ka 0, 40, .inl (fun _ => 0))), (q4, .inl (ka 0, 8, .inl (fun _ => 0))), (q5, .inl (ka 0, 8, .inl (fun _ => 0))), (q1, .inl (ka 0, 40, .inl (fun _ => (-1))))] H _ := hJ
  rw [← hAe] at hJ
  exact y_ret C hlocks hr (hJ.re (w' := [(h0, .inr (7, [.ref q1, .ref q2, .ref q4, .ref q5, .int 0])), (q2, .inl (ka 3, 8, .inr (.inr (.inr (.inr (fun i => if i < 8 then some (r3 i) else none)))))), ((r3 0), .inl (ka 0, 40, .inl (fun _ => 0))), ((r3 1), .inl (ka 0, 40, .inl (fun _ => 0))), ((r3 2), .inl (ka 0, 40, .inl (fun _ => 0))), ((r3 3), .inl (ka 0, 40, .inl (fun _ => 0))), ((r3 4), .inl (ka 0, 40, .inl (fun _ => 0))), ((r3 5), .inl (ka 0, 40, .inl (fun _ => 0))), ((r3 6), .inl (ka 0, 40, .inl (fun _ => 0))), ((r3 7), .inl (ka 0, 40, .inl (fun _ => 0))), (q4, .inl (ka 0, 8, .inl (fun _ => 0))), (q5, .inl (ka 0, 8, .inl (fun _ => 0))), (q1, .inl (ka 0, 40, .inl (fun _ => (-1))))]) [0, 1, 2, 3, 4, 5, 6, 7, 8, 9, 10, 11, 12] (by decide +kernel) rfl) (fun k => [q2, (r3 0), (r3 1), (r3 2), (r3 3), (r3 4), (r3 5), (r3 6), (r3 7), q4, q5, q1].getD k 0) (congrArg (fun (G : Nat → Option Nat) => ([(h0, .inr (7, [.ref q1, .ref q2, .ref q4, .ref q5, .int 0])), (q2, .inl (ka 3, 8, .inr (.inr (.inr (.inr G))))), ((r3 0), .inl (ka 0, 40, .inl (fun _ => 0))), ((r3 1), .inl (ka 0, 40, .inl (fun _ => 0))), ((r3 2), .inl (ka 0, 40, .inl (fun _ => 0))), ((r3 3), .inl (ka 0, 40, .inl (fun _ => 0))), ((r3 4), .inl (ka 0, 40, .inl (fun _ => 0))), ((r3 5), .inl (ka 0, 40, .inl (fun _ => 0))), ((r3 6), .inl (ka 0, 40, .inl (fun _ => 0))), ((r3 7), .inl (ka 0, 40, .inl (fun _ => 0))), (q4, .inl (ka 0, 8, .inl (fun _ => 0))), (q5, .inl (ka 0, 8, .inl (fun _ => 0))), (q1, .inl (ka 0, 40, .inl (fun _ => (-1))))] : va_W)) (y_geq (r := r3) (g := (fun i => [q2, (r3 0), (r3 1), (r3 2), (r3 3), (r3 4), (r3 5), (r3 6), (r3 7), q4, q5, q1].getD (1 + i) 0)) rfl rfl rfl rfl rfl rfl rfl rfl)) (Nat.le_of_ble_eq_true rfl) (Nat.le_of_ble_eq_true rfl) d_Reg_init_53
def y_Lin_init : MethodName := ⟨"RegionPool$Line", "<init>", "()V"⟩
abbrev cd_Lin_init : ByteArray := prog_5_method_1_code
theorem fy_Lin_9 : yFw R_Lin 9 8 0 := ⟨R_Lin, T_Lin, 2, t_Lin, .array .int, rfl, in_Lin, by decide, xG_mem 153 (by decide +kernel) (by decide +kernel), tk_Lin, nm_Lin, rfl, rfl, by decide +kernel, Or.inr ⟨_, rfl⟩⟩
theorem d_Lin_init_0 : decode cd_Lin_init 0 = .ok (.aload_n 0, 1) := by decide +kernel
theorem d_Lin_init_1 : decode cd_Lin_init 1 = .ok (.invokespecial 3, 3) := by decide +kernel
theorem d_Lin_init_4 : decode cd_Lin_init 4 = .ok (.aload_n 0, 1) := by decide +kernel
theorem d_Lin_init_5 : decode cd_Lin_init 5 = .ok (.sipush 640, 3) := by decide +kernel
theorem d_Lin_init_8 : decode cd_Lin_init 8 = .ok (.newarray .int, 2) := by decide +kernel
theorem d_Lin_init_10 : decode cd_Lin_init 10 = .ok (.putfield 9, 3) := by decide +kernel
theorem d_Lin_init_13 : decode cd_Lin_init 13 = .ok (.aload_n 0, 1) := by decide +kernel
theorem d_Lin_init_14 : decode cd_Lin_init 14 = .ok (.iconst 0, 1) := by decide +kernel
theorem d_Lin_init_15 : decode cd_Lin_init 15 = .ok (.putfield 15, 3) := by decide +kernel
theorem d_Lin_init_18 : decode cd_Lin_init 18 = .ok (.return_, 1) := by decide +kernel
abbrev rm_Lin_init : Room := { frames := 1, cells := 1, slots := 640, locals := 12 }
set_option maxRecDepth 100000 in
set_option maxHeartbeats 8000000 in
theorem c_Lin_init {l : Launch} (D : va_G) (ka : Nat → ClassId) (h0 : Nat) : yM l y_Lin_init (.code y_Lin_init cd_Lin_init 1 none :: xG) rm_Lin_init D ka [.ref h0] [(h0, .inr (8, [.null, .int 0]))] (fun a => [(h0, .inr (8, [.ref (a 0), .int 0])), ((a 0), .inl (ka 0, 640, .inl (fun _ => 0)))]) 1 640 := by
  refine y_begin (by decide) (Nat.le_of_ble_eq_true rfl) (fun p e s m below meth c ls C hlocks hr hin hJ hl => ?_)
  have C : yC p s m _ c cd_Lin_init 1 R_Lin D ka := C
  have hin : meth.name = "<init>" := hin
  have hx := C.1
  have hb := C.2.1
  have hown := C.2.2.2.1
  have hl : lv_has ls 1 [(0, .ref h0)] := hl
  generalize hAe : va_A [(h0, .inr (8, [.null, .int 0]))] s.heap.size = A at hJ
  have hJ : yJ D A s.heap [(h0, .inr (8, [.null, .int 0]))] s.heap [] := hJ
  refine lv_aload_n hx hb d_Lin_init_0 rfl (lv_at hl 0 rfl) ?_
  refine y_obj C hl.1 (xG_mem 152 (by decide +kernel) (by decide +kernel)) (xG_mem 78 (by decide +kernel) (by decide +kernel)) (xG_mem 79 (by decide +kernel) (by decide +kernel)) d_Lin_init_1 (Nat.le_of_ble_eq_true rfl) (Nat.le_of_ble_eq_true rfl) ?_
  refine lv_aload_n hx hb d_Lin_init_4 rfl (lv_at hl 0 rfl) ?_
  refine lv_sipush (v := 640) hx hb d_Lin_init_5 (by decide) ?_
  refine y_newi C hJ (N := 640) (xG_mem 100 (by decide +kernel) (by decide +kernel)) (by decide) (by decide) (by decide) (Nat.le_of_ble_eq_true rfl) (Nat.le_of_ble_eq_true rfl) d_Lin_init_8 (fun q1 H hJ => ?_)
  have hJ : yJ D A s.heap [(h0, .inr (8, [.null, .int 0])), (q1, .inl (ka 0, 640, .inl (fun _ => 0)))] H _ := hJ
  refine y_putF C hin hJ 0 rfl fy_Lin_9 (Nat.le_of_ble_eq_true rfl) d_Lin_init_10 (fun H locs hJ => ?_)
  have hJ : yJ D A s.heap [(h0, .inr (8, [.ref q1, .int 0])), (q1, .inl (ka 0, 640, .inl (fun _ => 0)))] H _ := hJ
  refine lv_aload_n hx hb d_Lin_init_13 rfl (lv_at hl 0 rfl) ?_
  refine lv_iconst (v := 0) hx hb d_Lin_init_14 (by decide) ?_
  refine y_put C hJ 0 rfl fw_Lin_15 (Nat.le_of_ble_eq_true rfl) d_Lin_init_15 (fun H locs hJ => ?_)
  have hJ : yJ D A s.heap [(h0, .inr (8, [.ref q1, .int 0])), (q1, .inl (ka 0, 640, .inl (fun _ => 0)))] H _ := hJ
  rw [← hAe] at hJ
  exact y_ret C hlocks hr (hJ.re (w' := [(h0, .inr (8, [.ref q1, .int 0])), (q1, .inl (ka 0, 640, .inl (fun _ => 0)))]) [0, 1] (by decide +kernel) rfl) (fun k => [q1].getD k 0) rfl (Nat.le_of_ble_eq_true rfl) (Nat.le_of_ble_eq_true rfl) d_Lin_init_18
def y_Mar_init : MethodName := ⟨"RegionPool$Marker", "<init>", "(LRegionPool$Memory;)V"⟩
abbrev cd_Mar_init : ByteArray := prog_6_method_1_code
theorem fy_Mar_9 : yFw R_Mar 9 9 0 := ⟨R_Mar, T_Mar, 4, t_Mar, .object "RegionPool$Memory", rfl, in_Mar, by decide, xG_mem 207 (by decide +kernel) (by decide +kernel), tk_Mar, nm_Mar, rfl, rfl, by decide +kernel, Or.inl ⟨_, rfl⟩⟩
theorem fy_Mar_15 : yFw R_Mar 15 9 1 := ⟨R_Mar, T_Mar, 4, t_Mar, .array .boolean, rfl, in_Mar, by decide, xG_mem 208 (by decide +kernel) (by decide +kernel), tk_Mar, nm_Mar, rfl, rfl, by decide +kernel, Or.inr ⟨_, rfl⟩⟩
theorem fy_Mar_19 : yFw R_Mar 19 9 2 := ⟨R_Mar, T_Mar, 4, t_Mar, .array .int, rfl, in_Mar, by decide, xG_mem 209 (by decide +kernel) (by decide +kernel), tk_Mar, nm_Mar, rfl, rfl, by decide +kernel, Or.inr ⟨_, rfl⟩⟩
theorem d_Mar_init_0 : decode cd_Mar_init 0 = .ok (.aload_n 0, 1) := by decide +kernel
theorem d_Mar_init_1 : decode cd_Mar_init 1 = .ok (.invokespecial 3, 3) := by decide +kernel
theorem d_Mar_init_4 : decode cd_Mar_init 4 = .ok (.aload_n 0, 1) := by decide +kernel
theorem d_Mar_init_5 : decode cd_Mar_init 5 = .ok (.aload_n 1, 1) := by decide +kernel
theorem d_Mar_init_6 : decode cd_Mar_init 6 = .ok (.putfield 9, 3) := by decide +kernel
theorem d_Mar_init_9 : decode cd_Mar_init 9 = .ok (.aload_n 0, 1) := by decide +kernel
theorem d_Mar_init_10 : decode cd_Mar_init 10 = .ok (.sipush 640, 3) := by decide +kernel
theorem d_Mar_init_13 : decode cd_Mar_init 13 = .ok (.newarray .boolean, 2) := by decide +kernel
theorem d_Mar_init_15 : decode cd_Mar_init 15 = .ok (.putfield 15, 3) := by decide +kernel
theorem d_Mar_init_18 : decode cd_Mar_init 18 = .ok (.aload_n 0, 1) := by decide +kernel
theorem d_Mar_init_19 : decode cd_Mar_init 19 = .ok (.sipush 640, 3) := by decide +kernel
theorem d_Mar_init_22 : decode cd_Mar_init 22 = .ok (.newarray .int, 2) := by decide +kernel
theorem d_Mar_init_24 : decode cd_Mar_init 24 = .ok (.putfield 19, 3) := by decide +kernel
theorem d_Mar_init_27 : decode cd_Mar_init 27 = .ok (.aload_n 0, 1) := by decide +kernel
theorem d_Mar_init_28 : decode cd_Mar_init 28 = .ok (.iconst 0, 1) := by decide +kernel
theorem d_Mar_init_29 : decode cd_Mar_init 29 = .ok (.putfield 23, 3) := by decide +kernel
theorem d_Mar_init_32 : decode cd_Mar_init 32 = .ok (.return_, 1) := by decide +kernel
abbrev rm_Mar_init : Room := { frames := 1, cells := 2, slots := 1280, locals := 12 }
set_option maxRecDepth 100000 in
set_option maxHeartbeats 8000000 in
theorem c_Mar_init {l : Launch} (D : va_G) (ka : Nat → ClassId) (h0 : Nat) (x1 : Nat) : yM l y_Mar_init (.code y_Mar_init cd_Mar_init 2 none :: xG) rm_Mar_init D ka [.ref h0, .ref x1] [(h0, .inr (9, [.null, .null, .null, .int 0]))] (fun a => [(h0, .inr (9, [.ref x1, .ref (a 0), .ref (a 1), .int 0])), ((a 0), .inl (ka 1, 640, .inl (fun _ => 0))), ((a 1), .inl (ka 0, 640, .inl (fun _ => 0)))]) 2 1280 := by
  refine y_begin (by decide) (Nat.le_of_ble_eq_true rfl) (fun p e s m below meth c ls C hlocks hr hin hJ hl => ?_)
  have C : yC p s m _ c cd_Mar_init 2 R_Mar D ka := C
  have hin : meth.name = "<init>" := hin
  have hx := C.1
  have hb := C.2.1
  have hown := C.2.2.2.1
  have hl : lv_has ls 2 [(0, .ref h0), (1, .ref x1)] := hl
  generalize hAe : va_A [(h0, .inr (9, [.null, .null, .null, .int 0]))] s.heap.size = A at hJ
  have hJ : yJ D A s.heap [(h0, .inr (9, [.null, .null, .null, .int 0]))] s.heap [] := hJ
  refine lv_aload_n hx hb d_Mar_init_0 rfl (lv_at hl 0 rfl) ?_
  refine y_obj C hl.1 (xG_mem 206 (by decide +kernel) (by decide +kernel)) (xG_mem 78 (by decide +kernel) (by decide +kernel)) (xG_mem 79 (by decide +kernel) (by decide +kernel)) d_Mar_init_1 (Nat.le_of_ble_eq_true rfl) (Nat.le_of_ble_eq_true rfl) ?_
  refine lv_aload_n hx hb d_Mar_init_4 rfl (lv_at hl 0 rfl) ?_
  refine lv_aload_n hx hb d_Mar_init_5 rfl (lv_at hl 1 rfl) ?_
  refine y_putF C hin hJ 0 rfl fy_Mar_9 (Nat.le_of_ble_eq_true rfl) d_Mar_init_6 (fun H locs hJ => ?_)
  have hJ : yJ D A s.heap [(h0, .inr (9, [.ref x1, .null, .null, .int 0]))] H _ := hJ
  refine lv_aload_n hx hb d_Mar_init_9 rfl (lv_at hl 0 rfl) ?_
  refine lv_sipush (v := 640) hx hb d_Mar_init_10 (by decide) ?_
  refine y_newz C hJ (N := 640) (xG_mem 220 (by decide +kernel) (by decide +kernel)) (by decide) (by decide) (by decide) (Nat.le_of_ble_eq_true rfl) (Nat.le_of_ble_eq_true rfl) d_Mar_init_13 (fun q1 H hJ => ?_)
  have hJ : yJ D A s.heap [(h0, .inr (9, [.ref x1, .null, .null, .int 0])), (q1, .inl (ka 1, 640, .inl (fun _ => 0)))] H _ := hJ
  refine y_putF C hin hJ 0 rfl fy_Mar_15 (Nat.le_of_ble_eq_true rfl) d_Mar_init_15 (fun H locs hJ => ?_)
  have hJ : yJ D A s.heap [(h0, .inr (9, [.ref x1, .ref q1, .null, .int 0])), (q1, .inl (ka 1, 640, .inl (fun _ => 0)))] H _ := hJ
  refine lv_aload_n hx hb d_Mar_init_18 rfl (lv_at hl 0 rfl) ?_
  refine lv_sipush (v := 640) hx hb d_Mar_init_19 (by decide) ?_
  refine y_newi C hJ (N := 640) (xG_mem 100 (by decide +kernel) (by decide +kernel)) (by decide) (by decide) (by decide) (Nat.le_of_ble_eq_true rfl) (Nat.le_of_ble_eq_true rfl) d_Mar_init_22 (fun q2 H hJ => ?_)
  have hJ : yJ D A s.heap [(h0, .inr (9, [.ref x1, .ref q1, .null, .int 0])), (q1, .inl (ka 1, 640, .inl (fun _ => 0))), (q2, .inl (ka 0, 640, .inl (fun _ => 0)))] H _ := hJ
  refine y_putF C hin hJ 0 rfl fy_Mar_19 (Nat.le_of_ble_eq_true rfl) d_Mar_init_24 (fun H locs hJ => ?_)
  have hJ : yJ D A s.heap [(h0, .inr (9, [.ref x1, .ref q1, .ref q2, .int 0])), (q1, .inl (ka 1, 640, .inl (fun _ => 0))), (q2, .inl (ka 0, 640, .inl (fun _ => 0)))] H _ := hJ
  refine lv_aload_n hx hb d_Mar_init_27 rfl (lv_at hl 0 rfl) ?_
  refine lv_iconst (v := 0) hx hb d_Mar_init_28 (by decide) ?_
  refine y_put C hJ 0 rfl fw_Mar_23 (Nat.le_of_ble_eq_true rfl) d_Mar_init_29 (fun H locs hJ => ?_)
  have hJ : yJ D A s.heap [(h0, .inr (9, [.ref x1, .ref q1, .ref q2, .int 0])), (q1, .inl (ka 1, 640, .inl (fun _ => 0))), (q2, .inl (ka 0, 640, .inl (fun _ => 0)))] H _ := hJ
  rw [← hAe] at hJ
  exact y_ret C hlocks hr (hJ.re (w' := [(h0, .inr (9, [.ref x1, .ref q1, .ref q2, .int 0])), (q1, .inl (ka 1, 640, .inl (fun _ => 0))), (q2, .inl (ka 0, 640, .inl (fun _ => 0)))]) [0, 1, 2] (by decide +kernel) rfl) (fun k => [q1, q2].getD k 0) rfl (Nat.le_of_ble_eq_true rfl) (Nat.le_of_ble_eq_true rfl) d_Mar_init_32
