abbrev rr_Reg_has : Room := { frames := 0, cells := 0, slots := 0, locals := 0 }
set_option maxRecDepth 100000 in
set_option maxHeartbeats 4000000 in
theorem r_Reg_has {l : Launch} {V : xV} {σ : xS} {x1 : Int32} {Q : Int32 → xS → Prop} (h : p_Reg_has x1 σ Q) : xRi l y_Reg_has (.code y_Reg_has cd_Reg_has 2 (some .boolean) :: xG) rr_Reg_has V [.ref (V.2.2 7), .int x1] σ (fun r => Q r σ) := by
  refine x_beginri (by decide) (Nat.le_of_ble_eq_true rfl) (fun p e s m below meth c ls C hlocks hr hI hl => ?_)
  have C : xC p s m _ c cd_Reg_has 2 R_Reg V := C
  have hx := C.1
  have hb := C.2.1
  have hl : lv_has ls 2 [(0, .ref (V.2.2 7)), (1, .int x1)] := hl
  unfold p_Reg_has at h
  refine lv_iload_n hx hb d_Reg_has_0 rfl (lv_at hl 1 rfl) ?_
  refine lv_if_lt (tgt := 16) hx hb d_Reg_has_1 (by decide) (fun c1 => ?_) (fun c1 => ?_)
  · have h := h.1 c1
    refine lv_iconst (v := 0) hx hb d_Reg_has_16 (by decide) ?_
    exact x_rzret C hlocks hr ⟨rfl, h⟩ d_Reg_has_17
  · have h := h.2 c1
    refine lv_iload_n hx hb d_Reg_has_4 rfl (lv_at hl 1 rfl) ?_
    refine lv_aload_n hx hb d_Reg_has_5 rfl (lv_at hl 0 rfl) ?_
    refine x_get C hI (d := 7) (by decide) (xE7 V _) fd_Reg_26 rfl d_Reg_has_6 ?_
    refine lv_icmp_ge (tgt := 16) hx hb d_Reg_has_9 (by decide) (fun c2 => ?_) (fun c2 => ?_)
    · have h := h.1 c2
      refine lv_iconst (v := 0) hx hb d_Reg_has_16 (by decide) ?_
      exact x_rzret C hlocks hr ⟨rfl, h⟩ d_Reg_has_17
    · have h := h.2 c2
      refine lv_iconst (v := 1) hx hb d_Reg_has_12 (by decide) ?_
      refine lv_goto (tgt := 17) hx hb d_Reg_has_13 (by decide) ?_
      exact x_rzret C hlocks hr ⟨rfl, h⟩ d_Reg_has_17
abbrev rr_Rp_checkRegion : Room := { frames := 1, cells := 0, slots := 0, locals := 21 }
set_option maxRecDepth 100000 in
set_option maxHeartbeats 4000000 in
theorem r_Rp_checkRegion {l : Launch} {V : xV} {σ : xS} {x1 : Int32} {Q : xS → Prop} (h : p_Rp_checkRegion x1 σ Q) : xRv l y_Rp_checkRegion (.code y_Rp_checkRegion cd_Rp_checkRegion 2 none :: xG) rr_Rp_checkRegion V [.ref (V.2.2 0), .int x1] σ (Q σ) := by
  refine x_beginrv (by decide) (Nat.le_of_ble_eq_true rfl) (fun p e s m below meth c ls C hlocks hr hI hl => ?_)
  have C : xC p s m _ c cd_Rp_checkRegion 2 "RegionPool" V := C
  have hx := C.1
  have hb := C.2.1
  have hl : lv_has ls 2 [(0, .ref (V.2.2 0)), (1, .int x1)] := hl
  unfold p_Rp_checkRegion at h
  refine lv_aload_n hx hb d_Rp_checkRegion_0 rfl (lv_at hl 0 rfl) ?_
  refine x_get C hI (d := 0) (by decide) (xE0 V _) fd_Rp_12 rfl d_Rp_checkRegion_1 ?_
  refine x_get C hI (d := 1) (by decide) (xE1 V _) fd_Rp_45 rfl d_Rp_checkRegion_4 ?_
  refine lv_iload_n hx hb d_Rp_checkRegion_7 rfl (lv_at hl 1 rfl) ?_
  refine x_rcalli C hI hl.1 (d := 7) (As := [.int x1]) (rest := []) (by decide) (r_Reg_has h) (xE7 V _) rfl yw_Reg_has ml_Rp_193 rfl rfl ⟨Nat.le_of_ble_eq_true rfl, Nat.le_of_ble_eq_true rfl⟩ rfl rfl (Nat.le_of_ble_eq_true rfl) d_Rp_checkRegion_8 ⟨Nat.zero_le _, Nat.zero_le _⟩ (fun r1 h => ?_)
  refine lv_if_ne (tgt := 24) hx hb d_Rp_checkRegion_11 (by decide) (fun c3 => ?_) (fun c3 => ?_)
  · have h := h.1 c3
    exact x_rvret C hlocks hr h d_Rp_checkRegion_24
  · have h := h.2 c3
    exact h.elim
theorem oa_243 : ∀ w ∈ Bundle.ownAtoms "RegionPool" 243 "java/lang/IllegalArgumentException" ["java/lang/RuntimeException", "java/lang/Exception"], w ∈ xG ∨ w ∈ xTw ∨ w ∈ xTd := by decide +kernel
def q_Rp_checkRegion (x1 : Int32) (σ : xS) (E : String) : Prop :=
  p_Reg_has x1 σ (fun r1 σ2 => ((¬ r1 = 0 → False) ∧ (r1 = 0 → E = "java/lang/IllegalArgumentException")))
abbrev rt_Rp_checkRegion : Room := { frames := 6, cells := 1, slots := 6, locals := 82 }
set_option maxRecDepth 100000 in
set_option maxHeartbeats 4000000 in
theorem e_Rp_checkRegion {l : Launch} (hfl : l.flags = flags0) {V : xV} {σ : xS} {x1 : Int32} {E : String} (h : q_Rp_checkRegion x1 σ E) : xMt l y_Rp_checkRegion (.code y_Rp_checkRegion cd_Rp_checkRegion 2 none :: xG) rt_Rp_checkRegion V [.ref (V.2.2 0), .int x1] σ E := by
  refine x_begint (by decide) (Nat.le_of_ble_eq_true rfl) (fun p e s m below meth c ls C hlocks hem hI hX hl => ?_)
  have C : xC p s m _ c cd_Rp_checkRegion 2 "RegionPool" V := C
  have hx := C.1
  have hb := C.2.1
  have hl : lv_has ls 2 [(0, .ref (V.2.2 0)), (1, .int x1)] := hl
  unfold q_Rp_checkRegion at h
  refine lv_aload_n hx hb d_Rp_checkRegion_0 rfl (lv_at hl 0 rfl) ?_
  refine x_get C hI (d := 0) (by decide) (xE0 V _) fd_Rp_12 rfl d_Rp_checkRegion_1 ?_
  refine x_get C hI (d := 1) (by decide) (xE1 V _) fd_Rp_45 rfl d_Rp_checkRegion_4 ?_
  refine lv_iload_n hx hb d_Rp_checkRegion_7 rfl (lv_at hl 1 rfl) ?_
  refine x_rcalli C hI hl.1 (d := 7) (As := [.int x1]) (rest := []) (by decide) (r_Reg_has h) (xE7 V _) rfl yw_Reg_has ml_Rp_193 rfl rfl ⟨Nat.le_of_ble_eq_true rfl, Nat.le_of_ble_eq_true rfl⟩ rfl rfl (Nat.le_of_ble_eq_true rfl) d_Rp_checkRegion_8 ⟨Nat.zero_le _, Nat.zero_le _⟩ (fun r1 h => ?_)
  refine lv_if_ne (tgt := 24) hx hb d_Rp_checkRegion_11 (by decide) (fun c3 => ?_) (fun c3 => ?_)
  · have h := h.1 c3
    exact False.elim h
  · have h := h.2 c3
    subst h
    exact x_throwS hfl C hlocks hem hX hl.1 (is := 241) (tx := "no such region") (by decide) oa_243 (xG_mem 467 (by decide +kernel) (by decide +kernel)) (xG_mem 468 (by decide +kernel) (by decide +kernel)) (xG_mem 69 (by decide +kernel) (by decide +kernel)) (by decide +kernel) (by decide +kernel) (Nat.le_of_ble_eq_true rfl) (Nat.le_of_ble_eq_true rfl) (Nat.le_of_ble_eq_true rfl) (Nat.le_of_ble_eq_true rfl) d_Rp_checkRegion_14 d_Rp_checkRegion_17 d_Rp_checkRegion_18 d_Rp_checkRegion_20 d_Rp_checkRegion_23
def q_Rp_collect (x1 : Int32) (σ : xS) (E : String) : Prop :=
  (q_Rp_checkRegion x1 σ E ∨ p_Rp_checkRegion x1 σ (fun σ1 => False))
abbrev rt_Rp_collect : Room := { frames := 7, cells := 1, slots := 6, locals := 103 }
set_option maxRecDepth 100000 in
set_option maxHeartbeats 4000000 in
theorem e_Rp_collect {l : Launch} (hfl : l.flags = flags0) {V : xV} {σ : xS} {x1 : Int32} {E : String} (h : q_Rp_collect x1 σ E) : xMt l y_Rp_collect (.code y_Rp_collect cd_Rp_collect 2 (some .int) :: xG) rt_Rp_collect V [.ref (V.2.2 0), .int x1] σ E := by
  refine x_begint (by decide) (Nat.le_of_ble_eq_true rfl) (fun p e s m below meth c ls C hlocks hem hI hX hl => ?_)
  have C : xC p s m _ c cd_Rp_collect 2 "RegionPool" V := C
  have hx := C.1
  have hb := C.2.1
  have hl : lv_has ls 2 [(0, .ref (V.2.2 0)), (1, .int x1)] := hl
  unfold q_Rp_collect at h
  refine lv_aload_n hx hb d_Rp_collect_0 rfl (lv_at hl 0 rfl) ?_
  refine lv_iload_n hx hb d_Rp_collect_1 rfl (lv_at hl 1 rfl) ?_
  rcases h with h | h
  · exact x_tcall C hI hX hlocks hem hl.1 (d := 0) (As := [.int x1]) (rest := []) (by decide) (e_Rp_checkRegion hfl h) (xE0 V _) rfl yw_Rp_checkRegion ml_Rp_65 rfl rfl ⟨Nat.le_of_ble_eq_true rfl, Nat.le_of_ble_eq_true rfl⟩ rfl rfl (Nat.le_of_ble_eq_true rfl) d_Rp_collect_2 ⟨Nat.le_of_ble_eq_true rfl, Nat.le_of_ble_eq_true rfl⟩
  refine x_rcallv C hI hl.1 (d := 0) (As := [.int x1]) (rest := []) (by decide) (r_Rp_checkRegion h) (xE0 V _) rfl yw_Rp_checkRegion ml_Rp_65 rfl rfl ⟨Nat.le_of_ble_eq_true rfl, Nat.le_of_ble_eq_true rfl⟩ rfl rfl (Nat.le_of_ble_eq_true rfl) d_Rp_collect_2 ⟨Nat.zero_le _, Nat.zero_le _⟩ (fun h => ?_)
  exact False.elim h
abbrev rr_Rp_checkRoot : Room := { frames := 0, cells := 0, slots := 0, locals := 0 }
set_option maxRecDepth 100000 in
set_option maxHeartbeats 4000000 in
theorem r_Rp_checkRoot {l : Launch} {V : xV} {σ : xS} {x1 : Int32} {Q : xS → Prop} (h : p_Rp_checkRoot x1 σ Q) : xRv l y_Rp_checkRoot (.code y_Rp_checkRoot cd_Rp_checkRoot 2 none :: xG) rr_Rp_checkRoot V [.ref (V.2.2 0), .int x1] σ (Q σ) := by
  refine x_beginrv (by decide) (Nat.le_of_ble_eq_true rfl) (fun p e s m below meth c ls C hlocks hr hI hl => ?_)
  have C : xC p s m _ c cd_Rp_checkRoot 2 "RegionPool" V := C
  have hx := C.1
  have hb := C.2.1
  have hl : lv_has ls 2 [(0, .ref (V.2.2 0)), (1, .int x1)] := hl
  unfold p_Rp_checkRoot at h
  refine lv_iload_n hx hb d_Rp_checkRoot_0 rfl (lv_at hl 1 rfl) ?_
  refine lv_if_lt (tgt := 10) hx hb d_Rp_checkRoot_1 (by decide) (fun c1 => ?_) (fun c1 => ?_)
  · have h := h.1 c1
    exact h.elim
  · have h := h.2 c1
    refine lv_iload_n hx hb d_Rp_checkRoot_4 rfl (lv_at hl 1 rfl) ?_
    refine lv_bipush (v := 16) hx hb d_Rp_checkRoot_5 (by decide) ?_
    refine lv_icmp_lt (tgt := 20) hx hb d_Rp_checkRoot_7 (by decide) (fun c2 => ?_) (fun c2 => ?_)
    · have h := h.1 c2
      exact x_rvret C hlocks hr h d_Rp_checkRoot_20
    · have h := h.2 c2
      exact h.elim
theorem oa_231 : ∀ w ∈ Bundle.ownAtoms "RegionPool" 231 "java/lang/IndexOutOfBoundsException" ["java/lang/RuntimeException", "java/lang/Exception"], w ∈ xG ∨ w ∈ xTw ∨ w ∈ xTd := by decide +kernel
def q_Rp_checkRoot (x1 : Int32) (σ : xS) (E : String) : Prop :=
  ((x1 < 0 → E = "java/lang/IndexOutOfBoundsException") ∧ (¬ x1 < 0 → ((x1 < 16 → False) ∧ (¬ x1 < 16 → E = "java/lang/IndexOutOfBoundsException"))))
abbrev rt_Rp_checkRoot : Room := { frames := 6, cells := 1, slots := 6, locals := 82 }
set_option maxRecDepth 100000 in
set_option maxHeartbeats 4000000 in
theorem e_Rp_checkRoot {l : Launch} (hfl : l.flags = flags0) {V : xV} {σ : xS} {x1 : Int32} {E : String} (h : q_Rp_checkRoot x1 σ E) : xMt l y_Rp_checkRoot (.code y_Rp_checkRoot cd_Rp_checkRoot 2 none :: xG) rt_Rp_checkRoot V [.ref (V.2.2 0), .int x1] σ E := by
  refine x_begint (by decide) (Nat.le_of_ble_eq_true rfl) (fun p e s m below meth c ls C hlocks hem hI hX hl => ?_)
  have C : xC p s m _ c cd_Rp_checkRoot 2 "RegionPool" V := C
  have hx := C.1
  have hb := C.2.1
  have hl : lv_has ls 2 [(0, .ref (V.2.2 0)), (1, .int x1)] := hl
  unfold q_Rp_checkRoot at h
  refine lv_iload_n hx hb d_Rp_checkRoot_0 rfl (lv_at hl 1 rfl) ?_
  refine lv_if_lt (tgt := 10) hx hb d_Rp_checkRoot_1 (by decide) (fun c1 => ?_) (fun c1 => ?_)
  · have h := h.1 c1
    subst h
    exact x_throwS hfl C hlocks hem hX hl.1 (is := 229) (tx := "no such root") (by decide) oa_231 (xG_mem 693 (by decide +kernel) (by decide +kernel)) (xG_mem 694 (by decide +kernel) (by decide +kernel)) (xG_mem 70 (by decide +kernel) (by decide +kernel)) (by decide +kernel) (by decide +kernel) (Nat.le_of_ble_eq_true rfl) (Nat.le_of_ble_eq_true rfl) (Nat.le_of_ble_eq_true rfl) (Nat.le_of_ble_eq_true rfl) d_Rp_checkRoot_10 d_Rp_checkRoot_13 d_Rp_checkRoot_14 d_Rp_checkRoot_16 d_Rp_checkRoot_19
  · have h := h.2 c1
    refine lv_iload_n hx hb d_Rp_checkRoot_4 rfl (lv_at hl 1 rfl) ?_
    refine lv_bipush (v := 16) hx hb d_Rp_checkRoot_5 (by decide) ?_
    refine lv_icmp_lt (tgt := 20) hx hb d_Rp_checkRoot_7 (by decide) (fun c2 => ?_) (fun c2 => ?_)
    · have h := h.1 c2
      exact False.elim h
    · have h := h.2 c2
      subst h
      exact x_throwS hfl C hlocks hem hX hl.1 (is := 229) (tx := "no such root") (by decide) oa_231 (xG_mem 693 (by decide +kernel) (by decide +kernel)) (xG_mem 694 (by decide +kernel) (by decide +kernel)) (xG_mem 70 (by decide +kernel) (by decide +kernel)) (by decide +kernel) (by decide +kernel) (Nat.le_of_ble_eq_true rfl) (Nat.le_of_ble_eq_true rfl) (Nat.le_of_ble_eq_true rfl) (Nat.le_of_ble_eq_true rfl) d_Rp_checkRoot_10 d_Rp_checkRoot_13 d_Rp_checkRoot_14 d_Rp_checkRoot_16 d_Rp_checkRoot_19
def q_Rp_clear (x1 : Int32) (σ : xS) (E : String) : Prop :=
  (q_Rp_checkRoot x1 σ E ∨ p_Rp_checkRoot x1 σ (fun σ1 => False))
abbrev rt_Rp_clear : Room := { frames := 7, cells := 1, slots := 6, locals := 103 }
set_option maxRecDepth 100000 in
set_option maxHeartbeats 4000000 in
theorem e_Rp_clear {l : Launch} (hfl : l.flags = flags0) {V : xV} {σ : xS} {x1 : Int32} {E : String} (h : q_Rp_clear x1 σ E) : xMt l y_Rp_clear (.code y_Rp_clear cd_Rp_clear 2 none :: xG) rt_Rp_clear V [.ref (V.2.2 0), .int x1] σ E := by
  refine x_begint (by decide) (Nat.le_of_ble_eq_true rfl) (fun p e s m below meth c ls C hlocks hem hI hX hl => ?_)
  have C : xC p s m _ c cd_Rp_clear 2 "RegionPool" V := C
  have hx := C.1
  have hb := C.2.1
  have hl : lv_has ls 2 [(0, .ref (V.2.2 0)), (1, .int x1)] := hl
  unfold q_Rp_clear at h
  refine lv_aload_n hx hb d_Rp_clear_0 rfl (lv_at hl 0 rfl) ?_
  refine lv_iload_n hx hb d_Rp_clear_1 rfl (lv_at hl 1 rfl) ?_
  rcases h with h | h
  · exact x_tcall C hI hX hlocks hem hl.1 (d := 0) (As := [.int x1]) (rest := []) (by decide) (e_Rp_checkRoot hfl h) (xE0 V _) rfl yw_Rp_checkRoot ml_Rp_72 rfl rfl ⟨Nat.le_of_ble_eq_true rfl, Nat.le_of_ble_eq_true rfl⟩ rfl rfl (Nat.le_of_ble_eq_true rfl) d_Rp_clear_2 ⟨Nat.le_of_ble_eq_true rfl, Nat.le_of_ble_eq_true rfl⟩
  refine x_rcallv C hI hl.1 (d := 0) (As := [.int x1]) (rest := []) (by decide) (r_Rp_checkRoot h) (xE0 V _) rfl yw_Rp_checkRoot ml_Rp_72 rfl rfl ⟨Nat.le_of_ble_eq_true rfl, Nat.le_of_ble_eq_true rfl⟩ rfl rfl (Nat.le_of_ble_eq_true rfl) d_Rp_clear_2 ⟨Nat.zero_le _, Nat.zero_le _⟩ (fun h => ?_)
  exact False.elim h
def q_Rp_number (x1 x2 : Int32) (σ : xS) (E : String) : Prop :=
  (q_Rp_checkRoot x1 σ E ∨ p_Rp_checkRoot x1 σ (fun σ1 => False))
abbrev rt_Rp_number : Room := { frames := 7, cells := 1, slots := 6, locals := 103 }
set_option maxRecDepth 100000 in
set_option maxHeartbeats 4000000 in
theorem e_Rp_number {l : Launch} (hfl : l.flags = flags0) {V : xV} {σ : xS} {x1 x2 : Int32} {E : String} (h : q_Rp_number x1 x2 σ E) : xMt l y_Rp_number (.code y_Rp_number cd_Rp_number 3 none :: xG) rt_Rp_number V [.ref (V.2.2 0), .int x1, .int x2] σ E := by
  refine x_begint (by decide) (Nat.le_of_ble_eq_true rfl) (fun p e s m below meth c ls C hlocks hem hI hX hl => ?_)
  have C : xC p s m _ c cd_Rp_number 3 "RegionPool" V := C
  have hx := C.1
  have hb := C.2.1
  have hl : lv_has ls 3 [(0, .ref (V.2.2 0)), (1, .int x1), (2, .int x2)] := hl
  unfold q_Rp_number at h
  refine lv_aload_n hx hb d_Rp_number_0 rfl (lv_at hl 0 rfl) ?_
  refine lv_iload_n hx hb d_Rp_number_1 rfl (lv_at hl 1 rfl) ?_
  rcases h with h | h
  · exact x_tcall C hI hX hlocks hem hl.1 (d := 0) (As := [.int x1]) (rest := []) (by decide) (e_Rp_checkRoot hfl h) (xE0 V _) rfl yw_Rp_checkRoot ml_Rp_72 rfl rfl ⟨Nat.le_of_ble_eq_true rfl, Nat.le_of_ble_eq_true rfl⟩ rfl rfl (Nat.le_of_ble_eq_true rfl) d_Rp_number_2 ⟨Nat.le_of_ble_eq_true rfl, Nat.le_of_ble_eq_true rfl⟩
  refine x_rcallv C hI hl.1 (d := 0) (As := [.int x1]) (rest := []) (by decide) (r_Rp_checkRoot h) (xE0 V _) rfl yw_Rp_checkRoot ml_Rp_72 rfl rfl ⟨Nat.le_of_ble_eq_true rfl, Nat.le_of_ble_eq_true rfl⟩ rfl rfl (Nat.le_of_ble_eq_true rfl) d_Rp_number_2 ⟨Nat.zero_le _, Nat.zero_le _⟩ (fun h => ?_)
  exact False.elim h
def q_Rp_move (x1 x2 : Int32) (σ : xS) (E : String) : Prop :=
  (q_Rp_checkRoot x1 σ E ∨ p_Rp_checkRoot x1 σ (fun σ1 => (q_Rp_checkRoot x2 σ E ∨ p_Rp_checkRoot x2 σ (fun σ2 => False))))
abbrev rt_Rp_move : Room := { frames := 7, cells := 1, slots := 6, locals := 103 }
set_option maxRecDepth 100000 in
set_option maxHeartbeats 4000000 in
theorem e_Rp_move {l : Launch} (hfl : l.flags = flags0) {V : xV} {σ : xS} {x1 x2 : Int32} {E : String} (h : q_Rp_move x1 x2 σ E) : xMt l y_Rp_move (.code y_Rp_move cd_Rp_move 3 none :: xG) rt_Rp_move V [.ref (V.2.2 0), .int x1, .int x2] σ E := by
  refine x_begint (by decide) (Nat.le_of_ble_eq_true rfl) (fun p e s m below meth c ls C hlocks hem hI hX hl => ?_)
  have C : xC p s m _ c cd_Rp_move 3 "RegionPool" V := C
  have hx := C.1
  have hb := C.2.1
  have hl : lv_has ls 3 [(0, .ref (V.2.2 0)), (1, .int x1), (2, .int x2)] := hl
  unfold q_Rp_move at h
  refine lv_aload_n hx hb d_Rp_move_0 rfl (lv_at hl 0 rfl) ?_
  refine lv_iload_n hx hb d_Rp_move_1 rfl (lv_at hl 1 rfl) ?_
  rcases h with h | h
  · exact x_tcall C hI hX hlocks hem hl.1 (d := 0) (As := [.int x1]) (rest := []) (by decide) (e_Rp_checkRoot hfl h) (xE0 V _) rfl yw_Rp_checkRoot ml_Rp_72 rfl rfl ⟨Nat.le_of_ble_eq_true rfl, Nat.le_of_ble_eq_true rfl⟩ rfl rfl (Nat.le_of_ble_eq_true rfl) d_Rp_move_2 ⟨Nat.le_of_ble_eq_true rfl, Nat.le_of_ble_eq_true rfl⟩
  refine x_rcallv C hI hl.1 (d := 0) (As := [.int x1]) (rest := []) (by decide) (r_Rp_checkRoot h) (xE0 V _) rfl yw_Rp_checkRoot ml_Rp_72 rfl rfl ⟨Nat.le_of_ble_eq_true rfl, Nat.le_of_ble_eq_true rfl⟩ rfl rfl (Nat.le_of_ble_eq_true rfl) d_Rp_move_2 ⟨Nat.zero_le _, Nat.zero_le _⟩ (fun h => ?_)
  refine lv_aload_n hx hb d_Rp_move_5 rfl (lv_at hl 0 rfl) ?_
  refine lv_iload_n hx hb d_Rp_move_6 rfl (lv_at hl 2 rfl) ?_
  rcases h with h | h
  · exact x_tcall C hI hX hlocks hem hl.1 (d := 0) (As := [.int x2]) (rest := []) (by decide) (e_Rp_checkRoot hfl h) (xE0 V _) rfl yw_Rp_checkRoot ml_Rp_72 rfl rfl ⟨Nat.le_of_ble_eq_true rfl, Nat.le_of_ble_eq_true rfl⟩ rfl rfl (Nat.le_of_ble_eq_true rfl) d_Rp_move_7 ⟨Nat.le_of_ble_eq_true rfl, Nat.le_of_ble_eq_true rfl⟩
  refine x_rcallv C hI hl.1 (d := 0) (As := [.int x2]) (rest := []) (by decide) (r_Rp_checkRoot h) (xE0 V _) rfl yw_Rp_checkRoot ml_Rp_72 rfl rfl ⟨Nat.le_of_ble_eq_true rfl, Nat.le_of_ble_eq_true rfl⟩ rfl rfl (Nat.le_of_ble_eq_true rfl) d_Rp_move_7 ⟨Nat.zero_le _, Nat.zero_le _⟩ (fun h => ?_)
  exact False.elim h
abbrev rr_Rp_checkShape : Room := { frames := 0, cells := 0, slots := 0, locals := 0 }
set_option maxRecDepth 100000 in
set_option maxHeartbeats 4000000 in
theorem r_Rp_checkShape {l : Launch} {V : xV} {σ : xS} {x1 x2 x3 : Int32} {Q : xS → Prop} (h : p_Rp_checkShape x1 x2 x3 σ Q) : xRv l y_Rp_checkShape (.code y_Rp_checkShape cd_Rp_checkShape 5 none :: xG) rr_Rp_checkShape V [.ref (V.2.2 0), .int x1, .int x2, .int x3] σ (Q σ) := by
  refine x_beginrv (by decide) (Nat.le_of_ble_eq_true rfl) (fun p e s m below meth c ls C hlocks hr hI hl => ?_)
  have C : xC p s m _ c cd_Rp_checkShape 5 "RegionPool" V := C
  have hx := C.1
  have hb := C.2.1
  have hl : lv_has ls 5 [(0, .ref (V.2.2 0)), (1, .int x1), (2, .int x2), (3, .int x3)] := hl
  unfold p_Rp_checkShape at h
  refine lv_iload_n hx hb d_Rp_checkShape_0 rfl (lv_at hl 1 rfl) ?_
  refine lv_if_lt (tgt := 9) hx hb d_Rp_checkShape_1 (by decide) (fun c1 => ?_) (fun c1 => ?_)
  · have h := h.1 c1
    exact h.elim
  · have h := h.2 c1
    refine lv_iload_n hx hb d_Rp_checkShape_4 rfl (lv_at hl 1 rfl) ?_
    refine lv_iconst (v := 2) hx hb d_Rp_checkShape_5 (by decide) ?_
    refine lv_icmp_le (tgt := 19) hx hb d_Rp_checkShape_6 (by decide) (fun c2 => ?_) (fun c2 => ?_)
    · have h := h.1 c2
      refine lv_iload_n hx hb d_Rp_checkShape_19 rfl (lv_at hl 2 rfl) ?_
      refine lv_if_lt (tgt := 30) hx hb d_Rp_checkShape_20 (by decide) (fun c3 => ?_) (fun c3 => ?_)
      · have h := h.1 c3
        exact h.elim
      · have h := h.2 c3
        refine lv_iload_n hx hb d_Rp_checkShape_23 rfl (lv_at hl 2 rfl) ?_
        refine lv_sipush (v := 999) hx hb d_Rp_checkShape_24 (by decide) ?_
        refine lv_icmp_le (tgt := 40) hx hb d_Rp_checkShape_27 (by decide) (fun c4 => ?_) (fun c4 => ?_)
        · have h := h.1 c4
          refine lv_iload_n hx hb d_Rp_checkShape_40 rfl (lv_at hl 1 rfl) ?_
          refine lv_iconst (v := 2) hx hb d_Rp_checkShape_41 (by decide) ?_
          refine lv_icmp_ne (tgt := 49) hx hb d_Rp_checkShape_42 (by decide) (fun c5 => ?_) (fun c5 => ?_)
          · have h := h.1 c5
            refine lv_iconst (v := 0) hx hb d_Rp_checkShape_49 (by decide) ?_
            refine lv_istore (lv' := [(4, .int 0), (0, .ref (V.2.2 0)), (1, .int x1), (2, .int x2), (3, .int x3)]) hx hb d_Rp_checkShape_50 hl (by decide) rfl (fun ls hl => ?_)
            refine lv_iload_n hx hb d_Rp_checkShape_52 rfl (lv_at hl 4 rfl) ?_
            refine lv_iload hx hb d_Rp_checkShape_53 (lv_at hl 0 rfl) ?_
            refine lv_icmp_lt (tgt := 64) hx hb d_Rp_checkShape_55 (by decide) (fun c6 => ?_) (fun c6 => ?_)
            · have h := h.1 c6
              exact h.elim
            · have h := h.2 c6
              refine lv_iload_n hx hb d_Rp_checkShape_58 rfl (lv_at hl 4 rfl) ?_
              refine lv_bipush (v := 15) hx hb d_Rp_checkShape_59 (by decide) ?_
              refine lv_icmp_le (tgt := 74) hx hb d_Rp_checkShape_61 (by decide) (fun c7 => ?_) (fun c7 => ?_)
              · have h := h.1 c7
                exact x_rvret C hlocks hr h d_Rp_checkShape_74
              · have h := h.2 c7
                exact h.elim
          · have h := h.2 c5
            refine lv_iconst (v := 1) hx hb d_Rp_checkShape_45 (by decide) ?_
            refine lv_goto (tgt := 50) hx hb d_Rp_checkShape_46 (by decide) ?_
            refine lv_istore (lv' := [(4, .int 1), (0, .ref (V.2.2 0)), (1, .int x1), (2, .int x2), (3, .int x3)]) hx hb d_Rp_checkShape_50 hl (by decide) rfl (fun ls hl => ?_)
            refine lv_iload_n hx hb d_Rp_checkShape_52 rfl (lv_at hl 4 rfl) ?_
            refine lv_iload hx hb d_Rp_checkShape_53 (lv_at hl 0 rfl) ?_
            refine lv_icmp_lt (tgt := 64) hx hb d_Rp_checkShape_55 (by decide) (fun c8 => ?_) (fun c8 => ?_)
            · have h := h.1 c8
              exact h.elim
            · have h := h.2 c8
              refine lv_iload_n hx hb d_Rp_checkShape_58 rfl (lv_at hl 4 rfl) ?_
              refine lv_bipush (v := 15) hx hb d_Rp_checkShape_59 (by decide) ?_
              refine lv_icmp_le (tgt := 74) hx hb d_Rp_checkShape_61 (by decide) (fun c9 => ?_) (fun c9 => ?_)
              · have h := h.1 c9
                exact x_rvret C hlocks hr h d_Rp_checkShape_74
              · have h := h.2 c9
                exact h.elim
        · have h := h.2 c4
          exact h.elim
    · have h := h.2 c2
      exact h.elim
def q_Rp_checkShape (x1 x2 x3 : Int32) (σ : xS) (E : String) : Prop :=
  ((x1 < 0 → E = "java/lang/IllegalArgumentException") ∧ (¬ x1 < 0 → ((x1 ≤ 2 → ((x2 < 0 → E = "java/lang/IllegalArgumentException") ∧ (¬ x2 < 0 → ((x2 ≤ 999 → ((¬ x1 = 2 → ((x3 < 0 → E = "java/lang/IllegalArgumentException") ∧ (¬ x3 < 0 → ((x3 ≤ 15 → False) ∧ (¬ x3 ≤ 15 → E = "java/lang/IllegalArgumentException"))))) ∧ (x1 = 2 → ((x3 < 1 → E = "java/lang/IllegalArgumentException") ∧ (¬ x3 < 1 → ((x3 ≤ 15 → False) ∧ (¬ x3 ≤ 15 → E = "java/lang/IllegalArgumentException"))))))) ∧ (¬ x2 ≤ 999 → E = "java/lang/IllegalArgumentException"))))) ∧ (¬ x1 ≤ 2 → E = "java/lang/IllegalArgumentException"))))
abbrev rt_Rp_checkShape : Room := { frames := 6, cells := 1, slots := 6, locals := 82 }
set_option maxRecDepth 100000 in
set_option maxHeartbeats 4000000 in
theorem e_Rp_checkShape {l : Launch} (hfl : l.flags = flags0) {V : xV} {σ : xS} {x1 x2 x3 : Int32} {E : String} (h : q_Rp_checkShape x1 x2 x3 σ E) : xMt l y_Rp_checkShape (.code y_Rp_checkShape cd_Rp_checkShape 5 none :: xG) rt_Rp_checkShape V [.ref (V.2.2 0), .int x1, .int x2, .int x3] σ E := by
  refine x_begint (by decide) (Nat.le_of_ble_eq_true rfl) (fun p e s m below meth c ls C hlocks hem hI hX hl => ?_)
  have C : xC p s m _ c cd_Rp_checkShape 5 "RegionPool" V := C
  have hx := C.1
  have hb := C.2.1
  have hl : lv_has ls 5 [(0, .ref (V.2.2 0)), (1, .int x1), (2, .int x2), (3, .int x3)] := hl
  unfold q_Rp_checkShape at h
  refine lv_iload_n hx hb d_Rp_checkShape_0 rfl (lv_at hl 1 rfl) ?_
  refine lv_if_lt (tgt := 9) hx hb d_Rp_checkShape_1 (by decide) (fun c1 => ?_) (fun c1 => ?_)
  · have h := h.1 c1
    subst h
    exact x_throwS hfl C hlocks hem hX hl.1 (is := 244) (tx := "no such kind") (by decide) oa_243 (xG_mem 467 (by decide +kernel) (by decide +kernel)) (xG_mem 468 (by decide +kernel) (by decide +kernel)) (xG_mem 69 (by decide +kernel) (by decide +kernel)) (by decide +kernel) (by decide +kernel) (Nat.le_of_ble_eq_true rfl) (Nat.le_of_ble_eq_true rfl) (Nat.le_of_ble_eq_true rfl) (Nat.le_of_ble_eq_true rfl) d_Rp_checkShape_9 d_Rp_checkShape_12 d_Rp_checkShape_13 d_Rp_checkShape_15 d_Rp_checkShape_18
  · have h := h.2 c1
    refine lv_iload_n hx hb d_Rp_checkShape_4 rfl (lv_at hl 1 rfl) ?_
    refine lv_iconst (v := 2) hx hb d_Rp_checkShape_5 (by decide) ?_
    refine lv_icmp_le (tgt := 19) hx hb d_Rp_checkShape_6 (by decide) (fun c2 => ?_) (fun c2 => ?_)
    · have h := h.1 c2
      refine lv_iload_n hx hb d_Rp_checkShape_19 rfl (lv_at hl 2 rfl) ?_
      refine lv_if_lt (tgt := 30) hx hb d_Rp_checkShape_20 (by decide) (fun c3 => ?_) (fun c3 => ?_)
      · have h := h.1 c3
        subst h
        exact x_throwS hfl C hlocks hem hX hl.1 (is := 246) (tx := "the tag is not 0 .. 999") (by decide) oa_243 (xG_mem 467 (by decide +kernel) (by decide +kernel)) (xG_mem 468 (by decide +kernel) (by decide +kernel)) (xG_mem 69 (by decide +kernel) (by decide +kernel)) (by decide +kernel) (by decide +kernel) (Nat.le_of_ble_eq_true rfl) (Nat.le_of_ble_eq_true rfl) (Nat.le_of_ble_eq_true rfl) (Nat.le_of_ble_eq_true rfl) d_Rp_checkShape_30 d_Rp_checkShape_33 d_Rp_checkShape_34 d_Rp_checkShape_36 d_Rp_checkShape_39
      · have h := h.2 c3
        refine lv_iload_n hx hb d_Rp_checkShape_23 rfl (lv_at hl 2 rfl) ?_
        refine lv_sipush (v := 999) hx hb d_Rp_checkShape_24 (by decide) ?_
        refine lv_icmp_le (tgt := 40) hx hb d_Rp_checkShape_27 (by decide) (fun c4 => ?_) (fun c4 => ?_)
        · have h := h.1 c4
          refine lv_iload_n hx hb d_Rp_checkShape_40 rfl (lv_at hl 1 rfl) ?_
          refine lv_iconst (v := 2) hx hb d_Rp_checkShape_41 (by decide) ?_
          refine lv_icmp_ne (tgt := 49) hx hb d_Rp_checkShape_42 (by decide) (fun c5 => ?_) (fun c5 => ?_)
          · have h := h.1 c5
            refine lv_iconst (v := 0) hx hb d_Rp_checkShape_49 (by decide) ?_
            refine lv_istore (lv' := [(4, .int 0), (0, .ref (V.2.2 0)), (1, .int x1), (2, .int x2), (3, .int x3)]) hx hb d_Rp_checkShape_50 hl (by decide) rfl (fun ls hl => ?_)
            refine lv_iload_n hx hb d_Rp_checkShape_52 rfl (lv_at hl 4 rfl) ?_
            refine lv_iload hx hb d_Rp_checkShape_53 (lv_at hl 0 rfl) ?_
            refine lv_icmp_lt (tgt := 64) hx hb d_Rp_checkShape_55 (by decide) (fun c6 => ?_) (fun c6 => ?_)
            · have h := h.1 c6
              subst h
              exact x_throwS hfl C hlocks hem hX hl.1 (is := 248) (tx := "so many fields can't be") (by decide) oa_243 (xG_mem 467 (by decide +kernel) (by decide +kernel)) (xG_mem 468 (by decide +kernel) (by decide +kernel)) (xG_mem 69 (by decide +kernel) (by decide +kernel)) (by decide +kernel) (by decide +kernel) (Nat.le_of_ble_eq_true rfl) (Nat.le_of_ble_eq_true rfl) (Nat.le_of_ble_eq_true rfl) (Nat.le_of_ble_eq_true rfl) d_Rp_checkShape_64 d_Rp_checkShape_67 d_Rp_checkShape_68 d_Rp_checkShape_70 d_Rp_checkShape_73
            · have h := h.2 c6
              refine lv_iload_n hx hb d_Rp_checkShape_58 rfl (lv_at hl 4 rfl) ?_
              refine lv_bipush (v := 15) hx hb d_Rp_checkShape_59 (by decide) ?_
              refine lv_icmp_le (tgt := 74) hx hb d_Rp_checkShape_61 (by decide) (fun c7 => ?_) (fun c7 => ?_)
              · have h := h.1 c7
                exact False.elim h
              · have h := h.2 c7
                subst h
                exact x_throwS hfl C hlocks hem hX hl.1 (is := 248) (tx := "so many fields can't be") (by decide) oa_243 (xG_mem 467 (by decide +kernel) (by decide +kernel)) (xG_mem 468 (by decide +kernel) (by decide +kernel)) (xG_mem 69 (by decide +kernel) (by decide +kernel)) (by decide +kernel) (by decide +kernel) (Nat.le_of_ble_eq_true rfl) (Nat.le_of_ble_eq_true rfl) (Nat.le_of_ble_eq_true rfl) (Nat.le_of_ble_eq_true rfl) d_Rp_checkShape_64 d_Rp_checkShape_67 d_Rp_checkShape_68 d_Rp_checkShape_70 d_Rp_checkShape_73
          · have h := h.2 c5
            refine lv_iconst (v := 1) hx hb d_Rp_checkShape_45 (by decide) ?_
            refine lv_goto (tgt := 50) hx hb d_Rp_checkShape_46 (by decide) ?_
            refine lv_istore (lv' := [(4, .int 1), (0, .ref (V.2.2 0)), (1, .int x1), (2, .int x2), (3, .int x3)]) hx hb d_Rp_checkShape_50 hl (by decide) rfl (fun ls hl => ?_)
            refine lv_iload_n hx hb d_Rp_checkShape_52 rfl (lv_at hl 4 rfl) ?_
            refine lv_iload hx hb d_Rp_checkShape_53 (lv_at hl 0 rfl) ?_
            refine lv_icmp_lt (tgt := 64) hx hb d_Rp_checkShape_55 (by decide) (fun c8 => ?_) (fun c8 => ?_)
            · have h := h.1 c8
              subst h
              exact x_throwS hfl C hlocks hem hX hl.1 (is := 248) (tx := "so many fields can't be") (by decide) oa_243 (xG_mem 467 (by decide +kernel) (by decide +kernel)) (xG_mem 468 (by decide +kernel) (by decide +kernel)) (xG_mem 69 (by decide +kernel) (by decide +kernel)) (by decide +kernel) (by decide +kernel) (Nat.le_of_ble_eq_true rfl) (Nat.le_of_ble_eq_true rfl) (Nat.le_of_ble_eq_true rfl) (Nat.le_of_ble_eq_true rfl) d_Rp_checkShape_64 d_Rp_checkShape_67 d_Rp_checkShape_68 d_Rp_checkShape_70 d_Rp_checkShape_73
            · have h := h.2 c8
              refine lv_iload_n hx hb d_Rp_checkShape_58 rfl (lv_at hl 4 rfl) ?_
              refine lv_bipush (v := 15) hx hb d_Rp_checkShape_59 (by decide) ?_
              refine lv_icmp_le (tgt := 74) hx hb d_Rp_checkShape_61 (by decide) (fun c9 => ?_) (fun c9 => ?_)
              · have h := h.1 c9
                exact False.elim h
              · have h := h.2 c9
                subst h
                exact x_throwS hfl C hlocks hem hX hl.1 (is := 248) (tx := "so many fields can't be") (by decide) oa_243 (xG_mem 467 (by decide +kernel) (by decide +kernel)) (xG_mem 468 (by decide +kernel) (by decide +kernel)) (xG_mem 69 (by decide +kernel) (by decide +kernel)) (by decide +kernel) (by decide +kernel) (Nat.le_of_ble_eq_true rfl) (Nat.le_of_ble_eq_true rfl) (Nat.le_of_ble_eq_true rfl) (Nat.le_of_ble_eq_true rfl) d_Rp_checkShape_64 d_Rp_checkShape_67 d_Rp_checkShape_68 d_Rp_checkShape_70 d_Rp_checkShape_73
        · have h := h.2 c4
          subst h
          exact x_throwS hfl C hlocks hem hX hl.1 (is := 246) (tx := "the tag is not 0 .. 999") (by decide) oa_243 (xG_mem 467 (by decide +kernel) (by decide +kernel)) (xG_mem 468 (by decide +kernel) (by decide +kernel)) (xG_mem 69 (by decide +kernel) (by decide +kernel)) (by decide +kernel) (by decide +kernel) (Nat.le_of_ble_eq_true rfl) (Nat.le_of_ble_eq_true rfl) (Nat.le_of_ble_eq_true rfl) (Nat.le_of_ble_eq_true rfl) d_Rp_checkShape_30 d_Rp_checkShape_33 d_Rp_checkShape_34 d_Rp_checkShape_36 d_Rp_checkShape_39
    · have h := h.2 c2
      subst h
      exact x_throwS hfl C hlocks hem hX hl.1 (is := 244) (tx := "no such kind") (by decide) oa_243 (xG_mem 467 (by decide +kernel) (by decide +kernel)) (xG_mem 468 (by decide +kernel) (by decide +kernel)) (xG_mem 69 (by decide +kernel) (by decide +kernel)) (by decide +kernel) (by decide +kernel) (Nat.le_of_ble_eq_true rfl) (Nat.le_of_ble_eq_true rfl) (Nat.le_of_ble_eq_true rfl) (Nat.le_of_ble_eq_true rfl) d_Rp_checkShape_9 d_Rp_checkShape_12 d_Rp_checkShape_13 d_Rp_checkShape_15 d_Rp_checkShape_18
def q_Rp_make (x1 x2 x3 x4 x5 : Int32) (σ : xS) (E : String) : Prop :=
  (q_Rp_checkRoot x1 σ E ∨ p_Rp_checkRoot x1 σ (fun σ1 => (q_Rp_checkRegion x2 σ E ∨ p_Rp_checkRegion x2 σ (fun σ2 => (q_Rp_checkShape x3 x4 x5 σ E ∨ p_Rp_checkShape x3 x4 x5 σ (fun σ3 => False))))))
abbrev rt_Rp_make : Room := { frames := 7, cells := 1, slots := 6, locals := 106 }
set_option maxRecDepth 100000 in
set_option maxHeartbeats 4000000 in
theorem e_Rp_make {l : Launch} (hfl : l.flags = flags0) {V : xV} {σ : xS} {x1 x2 x3 x4 x5 : Int32} {E : String} (h : q_Rp_make x1 x2 x3 x4 x5 σ E) : xMt l y_Rp_make (.code y_Rp_make cd_Rp_make 7 (some .int) :: xG) rt_Rp_make V [.ref (V.2.2 0), .int x1, .int x2, .int x3, .int x4, .int x5] σ E := by
  refine x_begint (by decide) (Nat.le_of_ble_eq_true rfl) (fun p e s m below meth c ls C hlocks hem hI hX hl => ?_)
  have C : xC p s m _ c cd_Rp_make 7 "RegionPool" V := C
  have hx := C.1
  have hb := C.2.1
  have hl : lv_has ls 7 [(0, .ref (V.2.2 0)), (1, .int x1), (2, .int x2), (3, .int x3), (4, .int x4), (5, .int x5)] := hl
  unfold q_Rp_make at h
  refine lv_aload_n hx hb d_Rp_make_0 rfl (lv_at hl 0 rfl) ?_
  refine lv_iload_n hx hb d_Rp_make_1 rfl (lv_at hl 1 rfl) ?_
  rcases h with h | h
  · exact x_tcall C hI hX hlocks hem hl.1 (d := 0) (As := [.int x1]) (rest := []) (by decide) (e_Rp_checkRoot hfl h) (xE0 V _) rfl yw_Rp_checkRoot ml_Rp_72 rfl rfl ⟨Nat.le_of_ble_eq_true rfl, Nat.le_of_ble_eq_true rfl⟩ rfl rfl (Nat.le_of_ble_eq_true rfl) d_Rp_make_2 ⟨Nat.le_of_ble_eq_true rfl, Nat.le_of_ble_eq_true rfl⟩
  refine x_rcallv C hI hl.1 (d := 0) (As := [.int x1]) (rest := []) (by decide) (r_Rp_checkRoot h) (xE0 V _) rfl yw_Rp_checkRoot ml_Rp_72 rfl rfl ⟨Nat.le_of_ble_eq_true rfl, Nat.le_of_ble_eq_true rfl⟩ rfl rfl (Nat.le_of_ble_eq_true rfl) d_Rp_make_2 ⟨Nat.zero_le _, Nat.zero_le _⟩ (fun h => ?_)
  refine lv_aload_n hx hb d_Rp_make_5 rfl (lv_at hl 0 rfl) ?_
  refine lv_iload_n hx hb d_Rp_make_6 rfl (lv_at hl 2 rfl) ?_
  rcases h with h | h
  · exact x_tcall C hI hX hlocks hem hl.1 (d := 0) (As := [.int x2]) (rest := []) (by decide) (e_Rp_checkRegion hfl h) (xE0 V _) rfl yw_Rp_checkRegion ml_Rp_65 rfl rfl ⟨Nat.le_of_ble_eq_true rfl, Nat.le_of_ble_eq_true rfl⟩ rfl rfl (Nat.le_of_ble_eq_true rfl) d_Rp_make_7 ⟨Nat.le_of_ble_eq_true rfl, Nat.le_of_ble_eq_true rfl⟩
  refine x_rcallv C hI hl.1 (d := 0) (As := [.int x2]) (rest := []) (by decide) (r_Rp_checkRegion h) (xE0 V _) rfl yw_Rp_checkRegion ml_Rp_65 rfl rfl ⟨Nat.le_of_ble_eq_true rfl, Nat.le_of_ble_eq_true rfl⟩ rfl rfl (Nat.le_of_ble_eq_true rfl) d_Rp_make_7 ⟨Nat.zero_le _, Nat.zero_le _⟩ (fun h => ?_)
  refine lv_aload_n hx hb d_Rp_make_10 rfl (lv_at hl 0 rfl) ?_
  refine lv_iload_n hx hb d_Rp_make_11 rfl (lv_at hl 3 rfl) ?_
  refine lv_iload hx hb d_Rp_make_12 (lv_at hl 4 rfl) ?_
  refine lv_iload hx hb d_Rp_make_14 (lv_at hl 5 rfl) ?_
  rcases h with h | h
  · exact x_tcall C hI hX hlocks hem hl.1 (d := 0) (As := [.int x3, .int x4, .int x5]) (rest := []) (by decide) (e_Rp_checkShape hfl h) (xE0 V _) rfl yw_Rp_checkShape ml_Rp_92 rfl rfl ⟨Nat.le_of_ble_eq_true rfl, Nat.le_of_ble_eq_true rfl⟩ rfl rfl (Nat.le_of_ble_eq_true rfl) d_Rp_make_16 ⟨Nat.le_of_ble_eq_true rfl, Nat.le_of_ble_eq_true rfl⟩
  refine x_rcallv C hI hl.1 (d := 0) (As := [.int x3, .int x4, .int x5]) (rest := []) (by decide) (r_Rp_checkShape h) (xE0 V _) rfl yw_Rp_checkShape ml_Rp_92 rfl rfl ⟨Nat.le_of_ble_eq_true rfl, Nat.le_of_ble_eq_true rfl⟩ rfl rfl (Nat.le_of_ble_eq_true rfl) d_Rp_make_16 ⟨Nat.zero_le _, Nat.zero_le _⟩ (fun h => ?_)
  exact False.elim h
abbrev rr_Val_isReference_5 : Room := { frames := 0, cells := 0, slots := 0, locals := 0 }
set_option maxRecDepth 100000 in
set_option maxHeartbeats 4000000 in
theorem r_Val_isReference_5 {l : Launch} {V : xV} {σ : xS} {x1 : Int32} {Q : Int32 → xS → Prop} (h : p_Val_isReference_5 x1 σ Q) : xRi l y_Val_isReference (.code y_Val_isReference cd_Val_isReference 2 (some .boolean) :: xG) rr_Val_isReference_5 V [.ref (V.2.2 5), .int x1] σ (fun r => Q r σ) := by
  refine x_beginri (by decide) (Nat.le_of_ble_eq_true rfl) (fun p e s m below meth c ls C hlocks hr hI hl => ?_)
  have C : xC p s m _ c cd_Val_isReference 2 R_Val V := C
  have hx := C.1
  have hb := C.2.1
  have hl : lv_has ls 2 [(0, .ref (V.2.2 5)), (1, .int x1)] := hl
  unfold p_Val_isReference_5 at h
  refine lv_aload_n hx hb d_Val_isReference_0 rfl (lv_at hl 0 rfl) ?_
  refine x_get C hI (d := 5) (by decide) (xE5 V _) fd_Val_9 rfl d_Val_isReference_1 ?_
  refine lv_iload_n hx hb d_Val_isReference_4 rfl (lv_at hl 1 rfl) ?_
  obtain ⟨i1, h⟩ := h
  refine x_iald C hI (d := 17) (by decide) (xE17 V) i1 d_Val_isReference_5 ?_
  refine lv_iconst (v := 2) hx hb d_Val_isReference_6 (by decide) ?_
  refine lv_icmp_ne (tgt := 14) hx hb d_Val_isReference_7 (by decide) (fun c2 => ?_) (fun c2 => ?_)
  · have h := h.1 c2
    refine lv_iconst (v := 0) hx hb d_Val_isReference_14 (by decide) ?_
    exact x_rzret C hlocks hr ⟨rfl, h⟩ d_Val_isReference_15
  · have h := h.2 c2
    refine lv_iconst (v := 1) hx hb d_Val_isReference_10 (by decide) ?_
    refine lv_goto (tgt := 15) hx hb d_Val_isReference_11 (by decide) ?_
    exact x_rzret C hlocks hr ⟨rfl, h⟩ d_Val_isReference_15
abbrev rr_Rp_checkReference : Room := { frames := 1, cells := 0, slots := 0, locals := 21 }
set_option maxRecDepth 100000 in
set_option maxHeartbeats 4000000 in
theorem r_Rp_checkReference {l : Launch} {V : xV} {σ : xS} {x1 : Int32} {Q : xS → Prop} (h : p_Rp_checkReference x1 σ Q) : xRv l y_Rp_checkReference (.code y_Rp_checkReference cd_Rp_checkReference 2 none :: xG) rr_Rp_checkReference V [.ref (V.2.2 0), .int x1] σ (Q σ) := by
  refine x_beginrv (by decide) (Nat.le_of_ble_eq_true rfl) (fun p e s m below meth c ls C hlocks hr hI hl => ?_)
  have C : xC p s m _ c cd_Rp_checkReference 2 "RegionPool" V := C
  have hx := C.1
  have hb := C.2.1
  have hl : lv_has ls 2 [(0, .ref (V.2.2 0)), (1, .int x1)] := hl
  unfold p_Rp_checkReference at h
  refine lv_aload_n hx hb d_Rp_checkReference_0 rfl (lv_at hl 0 rfl) ?_
  refine x_get C hI (d := 0) (by decide) (xE0 V _) fd_Rp_12 rfl d_Rp_checkReference_1 ?_
  refine x_get C hI (d := 1) (by decide) (xE1 V _) fd_Rp_75 rfl d_Rp_checkReference_4 ?_
  refine lv_iload_n hx hb d_Rp_checkReference_7 rfl (lv_at hl 1 rfl) ?_
  refine x_rcalli C hI hl.1 (d := 5) (As := [.int x1]) (rest := []) (by decide) (r_Val_isReference_5 h) (xE5 V _) rfl yw_Val_isReference ml_Rp_184 rfl rfl ⟨Nat.le_of_ble_eq_true rfl, Nat.le_of_ble_eq_true rfl⟩ rfl rfl (Nat.le_of_ble_eq_true rfl) d_Rp_checkReference_8 ⟨Nat.zero_le _, Nat.zero_le _⟩ (fun r1 h => ?_)
  refine lv_if_ne (tgt := 24) hx hb d_Rp_checkReference_11 (by decide) (fun c3 => ?_) (fun c3 => ?_)
  · have h := h.1 c3
    exact x_rvret C hlocks hr h d_Rp_checkReference_24
  · have h := h.2 c3
    exact h.elim
theorem oa_238 : ∀ w ∈ Bundle.ownAtoms "RegionPool" 238 "java/lang/IllegalStateException" ["java/lang/RuntimeException", "java/lang/Exception"], w ∈ xG ∨ w ∈ xTw ∨ w ∈ xTd := by decide +kernel
def q_Rp_checkReference (x1 : Int32) (σ : xS) (E : String) : Prop :=
  p_Val_isReference_5 x1 σ (fun r1 σ2 => ((¬ r1 = 0 → False) ∧ (r1 = 0 → E = "java/lang/IllegalStateException")))
abbrev rt_Rp_checkReference : Room := { frames := 6, cells := 1, slots := 6, locals := 82 }
set_option maxRecDepth 100000 in
set_option maxHeartbeats 4000000 in
theorem e_Rp_checkReference {l : Launch} (hfl : l.flags = flags0) {V : xV} {σ : xS} {x1 : Int32} {E : String} (h : q_Rp_checkReference x1 σ E) : xMt l y_Rp_checkReference (.code y_Rp_checkReference cd_Rp_checkReference 2 none :: xG) rt_Rp_checkReference V [.ref (V.2.2 0), .int x1] σ E := by
  refine x_begint (by decide) (Nat.le_of_ble_eq_true rfl) (fun p e s m below meth c ls C hlocks hem hI hX hl => ?_)
  have C : xC p s m _ c cd_Rp_checkReference 2 "RegionPool" V := C
  have hx := C.1
  have hb := C.2.1
  have hl : lv_has ls 2 [(0, .ref (V.2.2 0)), (1, .int x1)] := hl
  unfold q_Rp_checkReference at h
  refine lv_aload_n hx hb d_Rp_checkReference_0 rfl (lv_at hl 0 rfl) ?_
  refine x_get C hI (d := 0) (by decide) (xE0 V _) fd_Rp_12 rfl d_Rp_checkReference_1 ?_
  refine x_get C hI (d := 1) (by decide) (xE1 V _) fd_Rp_75 rfl d_Rp_checkReference_4 ?_
  refine lv_iload_n hx hb d_Rp_checkReference_7 rfl (lv_at hl 1 rfl) ?_
  refine x_rcalli C hI hl.1 (d := 5) (As := [.int x1]) (rest := []) (by decide) (r_Val_isReference_5 h) (xE5 V _) rfl yw_Val_isReference ml_Rp_184 rfl rfl ⟨Nat.le_of_ble_eq_true rfl, Nat.le_of_ble_eq_true rfl⟩ rfl rfl (Nat.le_of_ble_eq_true rfl) d_Rp_checkReference_8 ⟨Nat.zero_le _, Nat.zero_le _⟩ (fun r1 h => ?_)
  refine lv_if_ne (tgt := 24) hx hb d_Rp_checkReference_11 (by decide) (fun c3 => ?_) (fun c3 => ?_)
  · have h := h.1 c3
    exact False.elim h
  · have h := h.2 c3
    subst h
    exact x_throwS hfl C hlocks hem hX hl.1 (is := 236) (tx := "the root is no reference") (by decide) oa_238 (xG_mem 784 (by decide +kernel) (by decide +kernel)) (xG_mem 785 (by decide +kernel) (by decide +kernel)) (xG_mem 71 (by decide +kernel) (by decide +kernel)) (by decide +kernel) (by decide +kernel) (Nat.le_of_ble_eq_true rfl) (Nat.le_of_ble_eq_true rfl) (Nat.le_of_ble_eq_true rfl) (Nat.le_of_ble_eq_true rfl) d_Rp_checkReference_14 d_Rp_checkReference_17 d_Rp_checkReference_18 d_Rp_checkReference_20 d_Rp_checkReference_23
def q_Rp_get (x1 x2 x3 : Int32) (σ : xS) (E : String) : Prop :=
  (q_Rp_checkRoot x1 σ E ∨ p_Rp_checkRoot x1 σ (fun σ1 => (q_Rp_checkRoot x2 σ E ∨ p_Rp_checkRoot x2 σ (fun σ2 => (q_Rp_checkReference x2 σ E ∨ p_Rp_checkReference x2 σ (fun σ3 => False))))))
abbrev rt_Rp_get : Room := { frames := 7, cells := 1, slots := 6, locals := 103 }
set_option maxRecDepth 100000 in
set_option maxHeartbeats 4000000 in
theorem e_Rp_get {l : Launch} (hfl : l.flags = flags0) {V : xV} {σ : xS} {x1 x2 x3 : Int32} {E : String} (h : q_Rp_get x1 x2 x3 σ E) : xMt l y_Rp_get (.code y_Rp_get cd_Rp_get 5 (some .boolean) :: xG) rt_Rp_get V [.ref (V.2.2 0), .int x1, .int x2, .int x3] σ E := by
  refine x_begint (by decide) (Nat.le_of_ble_eq_true rfl) (fun p e s m below meth c ls C hlocks hem hI hX hl => ?_)
  have C : xC p s m _ c cd_Rp_get 5 "RegionPool" V := C
  have hx := C.1
  have hb := C.2.1
  have hl : lv_has ls 5 [(0, .ref (V.2.2 0)), (1, .int x1), (2, .int x2), (3, .int x3)] := hl
  unfold q_Rp_get at h
  refine lv_aload_n hx hb d_Rp_get_0 rfl (lv_at hl 0 rfl) ?_
  refine lv_iload_n hx hb d_Rp_get_1 rfl (lv_at hl 1 rfl) ?_
  rcases h with h | h
  · exact x_tcall C hI hX hlocks hem hl.1 (d := 0) (As := [.int x1]) (rest := []) (by decide) (e_Rp_checkRoot hfl h) (xE0 V _) rfl yw_Rp_checkRoot ml_Rp_72 rfl rfl ⟨Nat.le_of_ble_eq_true rfl, Nat.le_of_ble_eq_true rfl⟩ rfl rfl (Nat.le_of_ble_eq_true rfl) d_Rp_get_2 ⟨Nat.le_of_ble_eq_true rfl, Nat.le_of_ble_eq_true rfl⟩
  refine x_rcallv C hI hl.1 (d := 0) (As := [.int x1]) (rest := []) (by decide) (r_Rp_checkRoot h) (xE0 V _) rfl yw_Rp_checkRoot ml_Rp_72 rfl rfl ⟨Nat.le_of_ble_eq_true rfl, Nat.le_of_ble_eq_true rfl⟩ rfl rfl (Nat.le_of_ble_eq_true rfl) d_Rp_get_2 ⟨Nat.zero_le _, Nat.zero_le _⟩ (fun h => ?_)
  refine lv_aload_n hx hb d_Rp_get_5 rfl (lv_at hl 0 rfl) ?_
  refine lv_iload_n hx hb d_Rp_get_6 rfl (lv_at hl 2 rfl) ?_
  rcases h with h | h
  · exact x_tcall C hI hX hlocks hem hl.1 (d := 0) (As := [.int x2]) (rest := []) (by decide) (e_Rp_checkRoot hfl h) (xE0 V _) rfl yw_Rp_checkRoot ml_Rp_72 rfl rfl ⟨Nat.le_of_ble_eq_true rfl, Nat.le_of_ble_eq_true rfl⟩ rfl rfl (Nat.le_of_ble_eq_true rfl) d_Rp_get_7 ⟨Nat.le_of_ble_eq_true rfl, Nat.le_of_ble_eq_true rfl⟩
  refine x_rcallv C hI hl.1 (d := 0) (As := [.int x2]) (rest := []) (by decide) (r_Rp_checkRoot h) (xE0 V _) rfl yw_Rp_checkRoot ml_Rp_72 rfl rfl ⟨Nat.le_of_ble_eq_true rfl, Nat.le_of_ble_eq_true rfl⟩ rfl rfl (Nat.le_of_ble_eq_true rfl) d_Rp_get_7 ⟨Nat.zero_le _, Nat.zero_le _⟩ (fun h => ?_)
  refine lv_aload_n hx hb d_Rp_get_10 rfl (lv_at hl 0 rfl) ?_
  refine lv_iload_n hx hb d_Rp_get_11 rfl (lv_at hl 2 rfl) ?_
  rcases h with h | h
  · exact x_tcall C hI hX hlocks hem hl.1 (d := 0) (As := [.int x2]) (rest := []) (by decide) (e_Rp_checkReference hfl h) (xE0 V _) rfl yw_Rp_checkReference ml_Rp_109 rfl rfl ⟨Nat.le_of_ble_eq_true rfl, Nat.le_of_ble_eq_true rfl⟩ rfl rfl (Nat.le_of_ble_eq_true rfl) d_Rp_get_12 ⟨Nat.le_of_ble_eq_true rfl, Nat.le_of_ble_eq_true rfl⟩
  refine x_rcallv C hI hl.1 (d := 0) (As := [.int x2]) (rest := []) (by decide) (r_Rp_checkReference h) (xE0 V _) rfl yw_Rp_checkReference ml_Rp_109 rfl rfl ⟨Nat.le_of_ble_eq_true rfl, Nat.le_of_ble_eq_true rfl⟩ rfl rfl (Nat.le_of_ble_eq_true rfl) d_Rp_get_12 ⟨Nat.zero_le _, Nat.zero_le _⟩ (fun h => ?_)
  exact False.elim h
def q_Rp_put (x1 x2 x3 : Int32) (σ : xS) (E : String) : Prop :=
  (q_Rp_checkRoot x1 σ E ∨ p_Rp_checkRoot x1 σ (fun σ1 => (q_Rp_checkRoot x3 σ E ∨ p_Rp_checkRoot x3 σ (fun σ2 => (q_Rp_checkReference x1 σ E ∨ p_Rp_checkReference x1 σ (fun σ3 => False))))))
abbrev rt_Rp_put : Room := { frames := 7, cells := 1, slots := 6, locals := 103 }
set_option maxRecDepth 100000 in
set_option maxHeartbeats 4000000 in
theorem e_Rp_put {l : Launch} (hfl : l.flags = flags0) {V : xV} {σ : xS} {x1 x2 x3 : Int32} {E : String} (h : q_Rp_put x1 x2 x3 σ E) : xMt l y_Rp_put (.code y_Rp_put cd_Rp_put 5 (some .int) :: xG) rt_Rp_put V [.ref (V.2.2 0), .int x1, .int x2, .int x3] σ E := by
  refine x_begint (by decide) (Nat.le_of_ble_eq_true rfl) (fun p e s m below meth c ls C hlocks hem hI hX hl => ?_)
  have C : xC p s m _ c cd_Rp_put 5 "RegionPool" V := C
  have hx := C.1
  have hb := C.2.1
  have hl : lv_has ls 5 [(0, .ref (V.2.2 0)), (1, .int x1), (2, .int x2), (3, .int x3)] := hl
  unfold q_Rp_put at h
  refine lv_aload_n hx hb d_Rp_put_0 rfl (lv_at hl 0 rfl) ?_
  refine lv_iload_n hx hb d_Rp_put_1 rfl (lv_at hl 1 rfl) ?_
  rcases h with h | h
  · exact x_tcall C hI hX hlocks hem hl.1 (d := 0) (As := [.int x1]) (rest := []) (by decide) (e_Rp_checkRoot hfl h) (xE0 V _) rfl yw_Rp_checkRoot ml_Rp_72 rfl rfl ⟨Nat.le_of_ble_eq_true rfl, Nat.le_of_ble_eq_true rfl⟩ rfl rfl (Nat.le_of_ble_eq_true rfl) d_Rp_put_2 ⟨Nat.le_of_ble_eq_true rfl, Nat.le_of_ble_eq_true rfl⟩
  refine x_rcallv C hI hl.1 (d := 0) (As := [.int x1]) (rest := []) (by decide) (r_Rp_checkRoot h) (xE0 V _) rfl yw_Rp_checkRoot ml_Rp_72 rfl rfl ⟨Nat.le_of_ble_eq_true rfl, Nat.le_of_ble_eq_true rfl⟩ rfl rfl (Nat.le_of_ble_eq_true rfl) d_Rp_put_2 ⟨Nat.zero_le _, Nat.zero_le _⟩ (fun h => ?_)
  refine lv_aload_n hx hb d_Rp_put_5 rfl (lv_at hl 0 rfl) ?_
  refine lv_iload_n hx hb d_Rp_put_6 rfl (lv_at hl 3 rfl) ?_
  rcases h with h | h
  · exact x_tcall C hI hX hlocks hem hl.1 (d := 0) (As := [.int x3]) (rest := []) (by decide) (e_Rp_checkRoot hfl h) (xE0 V _) rfl yw_Rp_checkRoot ml_Rp_72 rfl rfl ⟨Nat.le_of_ble_eq_true rfl, Nat.le_of_ble_eq_true rfl⟩ rfl rfl (Nat.le_of_ble_eq_true rfl) d_Rp_put_7 ⟨Nat.le_of_ble_eq_true rfl, Nat.le_of_ble_eq_true rfl⟩
  refine x_rcallv C hI hl.1 (d := 0) (As := [.int x3]) (rest := []) (by decide) (r_Rp_checkRoot h) (xE0 V _) rfl yw_Rp_checkRoot ml_Rp_72 rfl rfl ⟨Nat.le_of_ble_eq_true rfl, Nat.le_of_ble_eq_true rfl⟩ rfl rfl (Nat.le_of_ble_eq_true rfl) d_Rp_put_7 ⟨Nat.zero_le _, Nat.zero_le _⟩ (fun h => ?_)
  refine lv_aload_n hx hb d_Rp_put_10 rfl (lv_at hl 0 rfl) ?_
  refine lv_iload_n hx hb d_Rp_put_11 rfl (lv_at hl 1 rfl) ?_
  rcases h with h | h
  · exact x_tcall C hI hX hlocks hem hl.1 (d := 0) (As := [.int x1]) (rest := []) (by decide) (e_Rp_checkReference hfl h) (xE0 V _) rfl yw_Rp_checkReference ml_Rp_109 rfl rfl ⟨Nat.le_of_ble_eq_true rfl, Nat.le_of_ble_eq_true rfl⟩ rfl rfl (Nat.le_of_ble_eq_true rfl) d_Rp_put_12 ⟨Nat.le_of_ble_eq_true rfl, Nat.le_of_ble_eq_true rfl⟩
  refine x_rcallv C hI hl.1 (d := 0) (As := [.int x1]) (rest := []) (by decide) (r_Rp_checkReference h) (xE0 V _) rfl yw_Rp_checkReference ml_Rp_109 rfl rfl ⟨Nat.le_of_ble_eq_true rfl, Nat.le_of_ble_eq_true rfl⟩ rfl rfl (Nat.le_of_ble_eq_true rfl) d_Rp_put_12 ⟨Nat.zero_le _, Nat.zero_le _⟩ (fun h => ?_)
  exact False.elim h
def q_Rp_lift (x1 x2 : Int32) (σ : xS) (E : String) : Prop :=
  (q_Rp_checkRoot x1 σ E ∨ p_Rp_checkRoot x1 σ (fun σ1 => (q_Rp_checkRegion x2 σ E ∨ p_Rp_checkRegion x2 σ (fun σ2 => False))))
abbrev rt_Rp_lift : Room := { frames := 7, cells := 1, slots := 6, locals := 103 }
set_option maxRecDepth 100000 in
set_option maxHeartbeats 4000000 in
theorem e_Rp_lift {l : Launch} (hfl : l.flags = flags0) {V : xV} {σ : xS} {x1 x2 : Int32} {E : String} (h : q_Rp_lift x1 x2 σ E) : xMt l y_Rp_lift (.code y_Rp_lift cd_Rp_lift 3 (some .int) :: xG) rt_Rp_lift V [.ref (V.2.2 0), .int x1, .int x2] σ E := by
  refine x_begint (by decide) (Nat.le_of_ble_eq_true rfl) (fun p e s m below meth c ls C hlocks hem hI hX hl => ?_)
  have C : xC p s m _ c cd_Rp_lift 3 "RegionPool" V := C
  have hx := C.1
  have hb := C.2.1
  have hl : lv_has ls 3 [(0, .ref (V.2.2 0)), (1, .int x1), (2, .int x2)] := hl
  unfold q_Rp_lift at h
  refine lv_aload_n hx hb d_Rp_lift_0 rfl (lv_at hl 0 rfl) ?_
  refine lv_iload_n hx hb d_Rp_lift_1 rfl (lv_at hl 1 rfl) ?_
  rcases h with h | h
  · exact x_tcall C hI hX hlocks hem hl.1 (d := 0) (As := [.int x1]) (rest := []) (by decide) (e_Rp_checkRoot hfl h) (xE0 V _) rfl yw_Rp_checkRoot ml_Rp_72 rfl rfl ⟨Nat.le_of_ble_eq_true rfl, Nat.le_of_ble_eq_true rfl⟩ rfl rfl (Nat.le_of_ble_eq_true rfl) d_Rp_lift_2 ⟨Nat.le_of_ble_eq_true rfl, Nat.le_of_ble_eq_true rfl⟩
  refine x_rcallv C hI hl.1 (d := 0) (As := [.int x1]) (rest := []) (by decide) (r_Rp_checkRoot h) (xE0 V _) rfl yw_Rp_checkRoot ml_Rp_72 rfl rfl ⟨Nat.le_of_ble_eq_true rfl, Nat.le_of_ble_eq_true rfl⟩ rfl rfl (Nat.le_of_ble_eq_true rfl) d_Rp_lift_2 ⟨Nat.zero_le _, Nat.zero_le _⟩ (fun h => ?_)
  refine lv_aload_n hx hb d_Rp_lift_5 rfl (lv_at hl 0 rfl) ?_
  refine lv_iload_n hx hb d_Rp_lift_6 rfl (lv_at hl 2 rfl) ?_
  rcases h with h | h
  · exact x_tcall C hI hX hlocks hem hl.1 (d := 0) (As := [.int x2]) (rest := []) (by decide) (e_Rp_checkRegion hfl h) (xE0 V _) rfl yw_Rp_checkRegion ml_Rp_65 rfl rfl ⟨Nat.le_of_ble_eq_true rfl, Nat.le_of_ble_eq_true rfl⟩ rfl rfl (Nat.le_of_ble_eq_true rfl) d_Rp_lift_7 ⟨Nat.le_of_ble_eq_true rfl, Nat.le_of_ble_eq_true rfl⟩
  refine x_rcallv C hI hl.1 (d := 0) (As := [.int x2]) (rest := []) (by decide) (r_Rp_checkRegion h) (xE0 V _) rfl yw_Rp_checkRegion ml_Rp_65 rfl rfl ⟨Nat.le_of_ble_eq_true rfl, Nat.le_of_ble_eq_true rfl⟩ rfl rfl (Nat.le_of_ble_eq_true rfl) d_Rp_lift_7 ⟨Nat.zero_le _, Nat.zero_le _⟩ (fun h => ?_)
  exact False.elim h
def q_Rp_copy (x1 x2 x3 : Int32) (σ : xS) (E : String) : Prop :=
  (q_Rp_checkRoot x1 σ E ∨ p_Rp_checkRoot x1 σ (fun σ1 => (q_Rp_checkRoot x2 σ E ∨ p_Rp_checkRoot x2 σ (fun σ2 => (q_Rp_checkRegion x3 σ E ∨ p_Rp_checkRegion x3 σ (fun σ3 => False))))))
abbrev rt_Rp_copy : Room := { frames := 7, cells := 1, slots := 6, locals := 103 }
set_option maxRecDepth 100000 in
set_option maxHeartbeats 4000000 in
theorem e_Rp_copy {l : Launch} (hfl : l.flags = flags0) {V : xV} {σ : xS} {x1 x2 x3 : Int32} {E : String} (h : q_Rp_copy x1 x2 x3 σ E) : xMt l y_Rp_copy (.code y_Rp_copy cd_Rp_copy 4 (some .int) :: xG) rt_Rp_copy V [.ref (V.2.2 0), .int x1, .int x2, .int x3] σ E := by
  refine x_begint (by decide) (Nat.le_of_ble_eq_true rfl) (fun p e s m below meth c ls C hlocks hem hI hX hl => ?_)
  have C : xC p s m _ c cd_Rp_copy 4 "RegionPool" V := C
  have hx := C.1
  have hb := C.2.1
  have hl : lv_has ls 4 [(0, .ref (V.2.2 0)), (1, .int x1), (2, .int x2), (3, .int x3)] := hl
  unfold q_Rp_copy at h
  refine lv_aload_n hx hb d_Rp_copy_0 rfl (lv_at hl 0 rfl) ?_
  refine lv_iload_n hx hb d_Rp_copy_1 rfl (lv_at hl 1 rfl) ?_
  rcases h with h | h
  · exact x_tcall C hI hX hlocks hem hl.1 (d := 0) (As := [.int x1]) (rest := []) (by decide) (e_Rp_checkRoot hfl h) (xE0 V _) rfl yw_Rp_checkRoot ml_Rp_72 rfl rfl ⟨Nat.le_of_ble_eq_true rfl, Nat.le_of_ble_eq_true rfl⟩ rfl rfl (Nat.le_of_ble_eq_true rfl) d_Rp_copy_2 ⟨Nat.le_of_ble_eq_true rfl, Nat.le_of_ble_eq_true rfl⟩
  refine x_rcallv C hI hl.1 (d := 0) (As := [.int x1]) (rest := []) (by decide) (r_Rp_checkRoot h) (xE0 V _) rfl yw_Rp_checkRoot ml_Rp_72 rfl rfl ⟨Nat.le_of_ble_eq_true rfl, Nat.le_of_ble_eq_true rfl⟩ rfl rfl (Nat.le_of_ble_eq_true rfl) d_Rp_copy_2 ⟨Nat.zero_le _, Nat.zero_le _⟩ (fun h => ?_)
  refine lv_aload_n hx hb d_Rp_copy_5 rfl (lv_at hl 0 rfl) ?_
  refine lv_iload_n hx hb d_Rp_copy_6 rfl (lv_at hl 2 rfl) ?_
  rcases h with h | h
  · exact x_tcall C hI hX hlocks hem hl.1 (d := 0) (As := [.int x2]) (rest := []) (by decide) (e_Rp_checkRoot hfl h) (xE0 V _) rfl yw_Rp_checkRoot ml_Rp_72 rfl rfl ⟨Nat.le_of_ble_eq_true rfl, Nat.le_of_ble_eq_true rfl⟩ rfl rfl (Nat.le_of_ble_eq_true rfl) d_Rp_copy_7 ⟨Nat.le_of_ble_eq_true rfl, Nat.le_of_ble_eq_true rfl⟩
  refine x_rcallv C hI hl.1 (d := 0) (As := [.int x2]) (rest := []) (by decide) (r_Rp_checkRoot h) (xE0 V _) rfl yw_Rp_checkRoot ml_Rp_72 rfl rfl ⟨Nat.le_of_ble_eq_true rfl, Nat.le_of_ble_eq_true rfl⟩ rfl rfl (Nat.le_of_ble_eq_true rfl) d_Rp_copy_7 ⟨Nat.zero_le _, Nat.zero_le _⟩ (fun h => ?_)
  refine lv_aload_n hx hb d_Rp_copy_10 rfl (lv_at hl 0 rfl) ?_
  refine lv_iload_n hx hb d_Rp_copy_11 rfl (lv_at hl 3 rfl) ?_
  rcases h with h | h
  · exact x_tcall C hI hX hlocks hem hl.1 (d := 0) (As := [.int x3]) (rest := []) (by decide) (e_Rp_checkRegion hfl h) (xE0 V _) rfl yw_Rp_checkRegion ml_Rp_65 rfl rfl ⟨Nat.le_of_ble_eq_true rfl, Nat.le_of_ble_eq_true rfl⟩ rfl rfl (Nat.le_of_ble_eq_true rfl) d_Rp_copy_12 ⟨Nat.le_of_ble_eq_true rfl, Nat.le_of_ble_eq_true rfl⟩
  refine x_rcallv C hI hl.1 (d := 0) (As := [.int x3]) (rest := []) (by decide) (r_Rp_checkRegion h) (xE0 V _) rfl yw_Rp_checkRegion ml_Rp_65 rfl rfl ⟨Nat.le_of_ble_eq_true rfl, Nat.le_of_ble_eq_true rfl⟩ rfl rfl (Nat.le_of_ble_eq_true rfl) d_Rp_copy_12 ⟨Nat.zero_le _, Nat.zero_le _⟩ (fun h => ?_)
  exact False.elim h
def q_Rp_watch (x1 : Int32) (σ : xS) (E : String) : Prop :=
  (q_Rp_checkRoot x1 σ E ∨ p_Rp_checkRoot x1 σ (fun σ1 => (q_Rp_checkReference x1 σ E ∨ p_Rp_checkReference x1 σ (fun σ2 => False))))
abbrev rt_Rp_watch : Room := { frames := 7, cells := 1, slots := 6, locals := 103 }
set_option maxRecDepth 100000 in
set_option maxHeartbeats 4000000 in
theorem e_Rp_watch {l : Launch} (hfl : l.flags = flags0) {V : xV} {σ : xS} {x1 : Int32} {E : String} (h : q_Rp_watch x1 σ E) : xMt l y_Rp_watch (.code y_Rp_watch cd_Rp_watch 3 (some .boolean) :: xG) rt_Rp_watch V [.ref (V.2.2 0), .int x1] σ E := by
  refine x_begint (by decide) (Nat.le_of_ble_eq_true rfl) (fun p e s m below meth c ls C hlocks hem hI hX hl => ?_)
  have C : xC p s m _ c cd_Rp_watch 3 "RegionPool" V := C
  have hx := C.1
  have hb := C.2.1
  have hl : lv_has ls 3 [(0, .ref (V.2.2 0)), (1, .int x1)] := hl
  unfold q_Rp_watch at h
  refine lv_aload_n hx hb d_Rp_watch_0 rfl (lv_at hl 0 rfl) ?_
  refine lv_iload_n hx hb d_Rp_watch_1 rfl (lv_at hl 1 rfl) ?_
  rcases h with h | h
  · exact x_tcall C hI hX hlocks hem hl.1 (d := 0) (As := [.int x1]) (rest := []) (by decide) (e_Rp_checkRoot hfl h) (xE0 V _) rfl yw_Rp_checkRoot ml_Rp_72 rfl rfl ⟨Nat.le_of_ble_eq_true rfl, Nat.le_of_ble_eq_true rfl⟩ rfl rfl (Nat.le_of_ble_eq_true rfl) d_Rp_watch_2 ⟨Nat.le_of_ble_eq_true rfl, Nat.le_of_ble_eq_true rfl⟩
  refine x_rcallv C hI hl.1 (d := 0) (As := [.int x1]) (rest := []) (by decide) (r_Rp_checkRoot h) (xE0 V _) rfl yw_Rp_checkRoot ml_Rp_72 rfl rfl ⟨Nat.le_of_ble_eq_true rfl, Nat.le_of_ble_eq_true rfl⟩ rfl rfl (Nat.le_of_ble_eq_true rfl) d_Rp_watch_2 ⟨Nat.zero_le _, Nat.zero_le _⟩ (fun h => ?_)
  refine lv_aload_n hx hb d_Rp_watch_5 rfl (lv_at hl 0 rfl) ?_
  refine lv_iload_n hx hb d_Rp_watch_6 rfl (lv_at hl 1 rfl) ?_
  rcases h with h | h
  · exact x_tcall C hI hX hlocks hem hl.1 (d := 0) (As := [.int x1]) (rest := []) (by decide) (e_Rp_checkReference hfl h) (xE0 V _) rfl yw_Rp_checkReference ml_Rp_109 rfl rfl ⟨Nat.le_of_ble_eq_true rfl, Nat.le_of_ble_eq_true rfl⟩ rfl rfl (Nat.le_of_ble_eq_true rfl) d_Rp_watch_7 ⟨Nat.le_of_ble_eq_true rfl, Nat.le_of_ble_eq_true rfl⟩
  refine x_rcallv C hI hl.1 (d := 0) (As := [.int x1]) (rest := []) (by decide) (r_Rp_checkReference h) (xE0 V _) rfl yw_Rp_checkReference ml_Rp_109 rfl rfl ⟨Nat.le_of_ble_eq_true rfl, Nat.le_of_ble_eq_true rfl⟩ rfl rfl (Nat.le_of_ble_eq_true rfl) d_Rp_watch_7 ⟨Nat.zero_le _, Nat.zero_le _⟩ (fun h => ?_)
  exact False.elim h
def q_Rp_due (x1 : Int32) (σ : xS) (E : String) : Prop :=
  (q_Rp_checkRoot x1 σ E ∨ p_Rp_checkRoot x1 σ (fun σ1 => False))
abbrev rt_Rp_due : Room := { frames := 7, cells := 1, slots := 6, locals := 103 }
set_option maxRecDepth 100000 in
set_option maxHeartbeats 4000000 in
theorem e_Rp_due {l : Launch} (hfl : l.flags = flags0) {V : xV} {σ : xS} {x1 : Int32} {E : String} (h : q_Rp_due x1 σ E) : xMt l y_Rp_due (.code y_Rp_due cd_Rp_due 3 (some .int) :: xG) rt_Rp_due V [.ref (V.2.2 0), .int x1] σ E := by
  refine x_begint (by decide) (Nat.le_of_ble_eq_true rfl) (fun p e s m below meth c ls C hlocks hem hI hX hl => ?_)
  have C : xC p s m _ c cd_Rp_due 3 "RegionPool" V := C
  have hx := C.1
  have hb := C.2.1
  have hl : lv_has ls 3 [(0, .ref (V.2.2 0)), (1, .int x1)] := hl
  unfold q_Rp_due at h
  refine lv_aload_n hx hb d_Rp_due_0 rfl (lv_at hl 0 rfl) ?_
  refine lv_iload_n hx hb d_Rp_due_1 rfl (lv_at hl 1 rfl) ?_
  rcases h with h | h
  · exact x_tcall C hI hX hlocks hem hl.1 (d := 0) (As := [.int x1]) (rest := []) (by decide) (e_Rp_checkRoot hfl h) (xE0 V _) rfl yw_Rp_checkRoot ml_Rp_72 rfl rfl ⟨Nat.le_of_ble_eq_true rfl, Nat.le_of_ble_eq_true rfl⟩ rfl rfl (Nat.le_of_ble_eq_true rfl) d_Rp_due_2 ⟨Nat.le_of_ble_eq_true rfl, Nat.le_of_ble_eq_true rfl⟩
  refine x_rcallv C hI hl.1 (d := 0) (As := [.int x1]) (rest := []) (by decide) (r_Rp_checkRoot h) (xE0 V _) rfl yw_Rp_checkRoot ml_Rp_72 rfl rfl ⟨Nat.le_of_ble_eq_true rfl, Nat.le_of_ble_eq_true rfl⟩ rfl rfl (Nat.le_of_ble_eq_true rfl) d_Rp_due_2 ⟨Nat.zero_le _, Nat.zero_le _⟩ (fun h => ?_)
  exact False.elim h
def q_Rp_alike (x1 x2 : Int32) (σ : xS) (E : String) : Prop :=
  (q_Rp_checkRoot x1 σ E ∨ p_Rp_checkRoot x1 σ (fun σ1 => (q_Rp_checkRoot x2 σ E ∨ p_Rp_checkRoot x2 σ (fun σ2 => False))))
abbrev rt_Rp_alike : Room := { frames := 7, cells := 1, slots := 6, locals := 103 }
set_option maxRecDepth 100000 in
set_option maxHeartbeats 4000000 in
theorem e_Rp_alike {l : Launch} (hfl : l.flags = flags0) {V : xV} {σ : xS} {x1 x2 : Int32} {E : String} (h : q_Rp_alike x1 x2 σ E) : xMt l y_Rp_alike (.code y_Rp_alike cd_Rp_alike 3 (some .boolean) :: xG) rt_Rp_alike V [.ref (V.2.2 0), .int x1, .int x2] σ E := by
  refine x_begint (by decide) (Nat.le_of_ble_eq_true rfl) (fun p e s m below meth c ls C hlocks hem hI hX hl => ?_)
  have C : xC p s m _ c cd_Rp_alike 3 "RegionPool" V := C
  have hx := C.1
  have hb := C.2.1
  have hl : lv_has ls 3 [(0, .ref (V.2.2 0)), (1, .int x1), (2, .int x2)] := hl
  unfold q_Rp_alike at h
  refine lv_aload_n hx hb d_Rp_alike_0 rfl (lv_at hl 0 rfl) ?_
  refine lv_iload_n hx hb d_Rp_alike_1 rfl (lv_at hl 1 rfl) ?_
  rcases h with h | h
  · exact x_tcall C hI hX hlocks hem hl.1 (d := 0) (As := [.int x1]) (rest := []) (by decide) (e_Rp_checkRoot hfl h) (xE0 V _) rfl yw_Rp_checkRoot ml_Rp_72 rfl rfl ⟨Nat.le_of_ble_eq_true rfl, Nat.le_of_ble_eq_true rfl⟩ rfl rfl (Nat.le_of_ble_eq_true rfl) d_Rp_alike_2 ⟨Nat.le_of_ble_eq_true rfl, Nat.le_of_ble_eq_true rfl⟩
  refine x_rcallv C hI hl.1 (d := 0) (As := [.int x1]) (rest := []) (by decide) (r_Rp_checkRoot h) (xE0 V _) rfl yw_Rp_checkRoot ml_Rp_72 rfl rfl ⟨Nat.le_of_ble_eq_true rfl, Nat.le_of_ble_eq_true rfl⟩ rfl rfl (Nat.le_of_ble_eq_true rfl) d_Rp_alike_2 ⟨Nat.zero_le _, Nat.zero_le _⟩ (fun h => ?_)
  refine lv_aload_n hx hb d_Rp_alike_5 rfl (lv_at hl 0 rfl) ?_
  refine lv_iload_n hx hb d_Rp_alike_6 rfl (lv_at hl 2 rfl) ?_
  rcases h with h | h
  · exact x_tcall C hI hX hlocks hem hl.1 (d := 0) (As := [.int x2]) (rest := []) (by decide) (e_Rp_checkRoot hfl h) (xE0 V _) rfl yw_Rp_checkRoot ml_Rp_72 rfl rfl ⟨Nat.le_of_ble_eq_true rfl, Nat.le_of_ble_eq_true rfl⟩ rfl rfl (Nat.le_of_ble_eq_true rfl) d_Rp_alike_7 ⟨Nat.le_of_ble_eq_true rfl, Nat.le_of_ble_eq_true rfl⟩
  refine x_rcallv C hI hl.1 (d := 0) (As := [.int x2]) (rest := []) (by decide) (r_Rp_checkRoot h) (xE0 V _) rfl yw_Rp_checkRoot ml_Rp_72 rfl rfl ⟨Nat.le_of_ble_eq_true rfl, Nat.le_of_ble_eq_true rfl⟩ rfl rfl (Nat.le_of_ble_eq_true rfl) d_Rp_alike_7 ⟨Nat.zero_le _, Nat.zero_le _⟩ (fun h => ?_)
  exact False.elim h
def q_Rp_root (x1 x2 : Int32) (σ : xS) (E : String) : Prop :=
  (q_Rp_checkRoot x1 σ E ∨ p_Rp_checkRoot x1 σ (fun σ1 => False))
abbrev rt_Rp_root : Room := { frames := 7, cells := 1, slots := 6, locals := 103 }
set_option maxRecDepth 100000 in
set_option maxHeartbeats 4000000 in
theorem e_Rp_root {l : Launch} (hfl : l.flags = flags0) {V : xV} {σ : xS} {x1 x2 : Int32} {E : String} (h : q_Rp_root x1 x2 σ E) : xMt l y_Rp_root (.code y_Rp_root cd_Rp_root 3 (some .int) :: xG) rt_Rp_root V [.ref (V.2.2 0), .int x1, .int x2] σ E := by
  refine x_begint (by decide) (Nat.le_of_ble_eq_true rfl) (fun p e s m below meth c ls C hlocks hem hI hX hl => ?_)
  have C : xC p s m _ c cd_Rp_root 3 "RegionPool" V := C
  have hx := C.1
  have hb := C.2.1
  have hl : lv_has ls 3 [(0, .ref (V.2.2 0)), (1, .int x1), (2, .int x2)] := hl
  unfold q_Rp_root at h
  refine lv_aload_n hx hb d_Rp_root_0 rfl (lv_at hl 0 rfl) ?_
  refine lv_iload_n hx hb d_Rp_root_1 rfl (lv_at hl 1 rfl) ?_
  rcases h with h | h
  · exact x_tcall C hI hX hlocks hem hl.1 (d := 0) (As := [.int x1]) (rest := []) (by decide) (e_Rp_checkRoot hfl h) (xE0 V _) rfl yw_Rp_checkRoot ml_Rp_72 rfl rfl ⟨Nat.le_of_ble_eq_true rfl, Nat.le_of_ble_eq_true rfl⟩ rfl rfl (Nat.le_of_ble_eq_true rfl) d_Rp_root_2 ⟨Nat.le_of_ble_eq_true rfl, Nat.le_of_ble_eq_true rfl⟩
  refine x_rcallv C hI hl.1 (d := 0) (As := [.int x1]) (rest := []) (by decide) (r_Rp_checkRoot h) (xE0 V _) rfl yw_Rp_checkRoot ml_Rp_72 rfl rfl ⟨Nat.le_of_ble_eq_true rfl, Nat.le_of_ble_eq_true rfl⟩ rfl rfl (Nat.le_of_ble_eq_true rfl) d_Rp_root_2 ⟨Nat.zero_le _, Nat.zero_le _⟩ (fun h => ?_)
  exact False.elim h
def q_Rp_field (x1 x2 x3 : Int32) (σ : xS) (E : String) : Prop :=
  (q_Rp_checkRoot x1 σ E ∨ p_Rp_checkRoot x1 σ (fun σ1 => False))
abbrev rt_Rp_field : Room := { frames := 7, cells := 1, slots := 6, locals := 103 }
set_option maxRecDepth 100000 in
set_option maxHeartbeats 4000000 in
theorem e_Rp_field {l : Launch} (hfl : l.flags = flags0) {V : xV} {σ : xS} {x1 x2 x3 : Int32} {E : String} (h : q_Rp_field x1 x2 x3 σ E) : xMt l y_Rp_field (.code y_Rp_field cd_Rp_field 5 (some .int) :: xG) rt_Rp_field V [.ref (V.2.2 0), .int x1, .int x2, .int x3] σ E := by
  refine x_begint (by decide) (Nat.le_of_ble_eq_true rfl) (fun p e s m below meth c ls C hlocks hem hI hX hl => ?_)
  have C : xC p s m _ c cd_Rp_field 5 "RegionPool" V := C
  have hx := C.1
  have hb := C.2.1
  have hl : lv_has ls 5 [(0, .ref (V.2.2 0)), (1, .int x1), (2, .int x2), (3, .int x3)] := hl
  unfold q_Rp_field at h
  refine lv_aload_n hx hb d_Rp_field_0 rfl (lv_at hl 0 rfl) ?_
  refine lv_iload_n hx hb d_Rp_field_1 rfl (lv_at hl 1 rfl) ?_
  rcases h with h | h
  · exact x_tcall C hI hX hlocks hem hl.1 (d := 0) (As := [.int x1]) (rest := []) (by decide) (e_Rp_checkRoot hfl h) (xE0 V _) rfl yw_Rp_checkRoot ml_Rp_72 rfl rfl ⟨Nat.le_of_ble_eq_true rfl, Nat.le_of_ble_eq_true rfl⟩ rfl rfl (Nat.le_of_ble_eq_true rfl) d_Rp_field_2 ⟨Nat.le_of_ble_eq_true rfl, Nat.le_of_ble_eq_true rfl⟩
  refine x_rcallv C hI hl.1 (d := 0) (As := [.int x1]) (rest := []) (by decide) (r_Rp_checkRoot h) (xE0 V _) rfl yw_Rp_checkRoot ml_Rp_72 rfl rfl ⟨Nat.le_of_ble_eq_true rfl, Nat.le_of_ble_eq_true rfl⟩ rfl rfl (Nat.le_of_ble_eq_true rfl) d_Rp_field_2 ⟨Nat.zero_le _, Nat.zero_le _⟩ (fun h => ?_)
  exact False.elim h
