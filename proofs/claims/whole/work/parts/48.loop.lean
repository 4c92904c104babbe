def lawOk (L : Nat) (x4 : Int32) : Prop := vp_in (x4 + 1) L ∧ vp_in (x4 + 2) L ∧ vp_in (x4 + 3) L ∧ vp_in (x4 + 4) L ∧ vp_in (x4 + 5) L
/-- what the pure level owes: each case of the law's switch keeps I -/
def lawSteps (I : Nat → xS → Prop) : Prop :=
  (∀ (xs : Nat → Int32) (L : Nat) (x4 : Int32) (t : Nat) (σ : xS), t < 512 → I t σ → lawOk L x4 → o_0 xs L x4 σ (I (t + 1))) ∧
  (∀ (xs : Nat → Int32) (L : Nat) (x4 : Int32) (t : Nat) (σ : xS), t < 512 → I t σ → lawOk L x4 → o_1 xs L x4 σ (I (t + 1))) ∧
  (∀ (xs : Nat → Int32) (L : Nat) (x4 : Int32) (t : Nat) (σ : xS), t < 512 → I t σ → lawOk L x4 → o_2 xs L x4 σ (I (t + 1))) ∧
  (∀ (xs : Nat → Int32) (L : Nat) (x4 : Int32) (t : Nat) (σ : xS), t < 512 → I t σ → lawOk L x4 → o_3 xs L x4 σ (I (t + 1))) ∧
  (∀ (xs : Nat → Int32) (L : Nat) (x4 : Int32) (t : Nat) (σ : xS), t < 512 → I t σ → lawOk L x4 → o_4 xs L x4 σ (I (t + 1))) ∧
  (∀ (xs : Nat → Int32) (L : Nat) (x4 : Int32) (t : Nat) (σ : xS), t < 512 → I t σ → lawOk L x4 → o_5 xs L x4 σ (I (t + 1))) ∧
  (∀ (xs : Nat → Int32) (L : Nat) (x4 : Int32) (t : Nat) (σ : xS), t < 512 → I t σ → lawOk L x4 → o_6 xs L x4 σ (I (t + 1))) ∧
  (∀ (xs : Nat → Int32) (L : Nat) (x4 : Int32) (t : Nat) (σ : xS), t < 512 → I t σ → lawOk L x4 → o_7 xs L x4 σ (I (t + 1))) ∧
  (∀ (xs : Nat → Int32) (L : Nat) (x4 : Int32) (t : Nat) (σ : xS), t < 512 → I t σ → lawOk L x4 → o_8 xs L x4 σ (I (t + 1))) ∧
  (∀ (xs : Nat → Int32) (L : Nat) (x4 : Int32) (t : Nat) (σ : xS), t < 512 → I t σ → lawOk L x4 → o_9 xs L x4 σ (I (t + 1))) ∧
  (∀ (xs : Nat → Int32) (L : Nat) (x4 : Int32) (t : Nat) (σ : xS), t < 512 → I t σ → lawOk L x4 → o_10 xs L x4 σ (I (t + 1))) ∧
  (∀ (xs : Nat → Int32) (L : Nat) (x4 : Int32) (t : Nat) (σ : xS), t < 512 → I t σ → lawOk L x4 → o_11 xs L x4 σ (I (t + 1))) ∧
  (∀ (xs : Nat → Int32) (L : Nat) (x4 : Int32) (t : Nat) (σ : xS), t < 512 → I t σ → lawOk L x4 → o_12 xs L x4 σ (I (t + 1))) ∧
  (∀ (xs : Nat → Int32) (L : Nat) (x4 : Int32) (t : Nat) (σ : xS), t < 512 → I t σ → lawOk L x4 → o_13 xs L x4 σ (I (t + 1))) ∧
  (∀ (xs : Nat → Int32) (L : Nat) (x4 : Int32) (t : Nat) (σ : xS), t < 512 → I t σ → lawOk L x4 → o_14 xs L x4 σ (I (t + 1))) ∧
  (∀ (xs : Nat → Int32) (L : Nat) (x4 : Int32) (t : Nat) (σ : xS), t < 512 → I t σ → lawOk L x4 → o_15 xs L x4 σ (I (t + 1))) ∧
  (∀ (xs : Nat → Int32) (L : Nat) (x4 : Int32) (t : Nat) (σ : xS), t < 512 → I t σ → lawOk L x4 → o_16 xs L x4 σ (I (t + 1))) ∧
  (∀ (xs : Nat → Int32) (L : Nat) (x4 : Int32) (t : Nat) (σ : xS), t < 512 → I t σ → lawOk L x4 → o_17 xs L x4 σ (I (t + 1))) ∧
  (∀ (xs : Nat → Int32) (L : Nat) (x4 : Int32) (t : Nat) (σ : xS), t < 512 → I t σ → lawOk L x4 → o_18 xs L x4 σ (I (t + 1))) ∧
  (∀ (xs : Nat → Int32) (L : Nat) (x4 : Int32) (t : Nat) (σ : xS), t < 512 → I t σ → lawOk L x4 → o_19 xs L x4 σ (I (t + 1)))
theorem law_num {L t : Nat} (hL : L ≤ 3072) (ht : t ≤ 513) : (nI L - 6 < nI (6 * t)) ↔ L < 6 * t + 6 := by
  have e1 : (nI L - nI 6).toInt = (L : Int) - (6 : Nat) := pk_sub_toInt (by omega) (by decide)
  have e0 : nI L - 6 = nI L - nI 6 := rfl
  have e2 : (nI (6 * t)).toInt = ((6 * t : Nat) : Int) := nI_toInt (by omega)
  rw [Int32.lt_iff_toInt_lt, e0, e1, e2]
  omega
theorem law_ok {L t : Nat} (hL : L ≤ 3072) (h : 6 * t + 6 ≤ L) : lawOk L (nI (6 * t)) := by
  have key : ∀ k : Nat, k < 6 → vp_in (nI (6 * t) + nI k) L := fun k hk => by
    rw [nI_add]
    exact vp_in_nI (by omega) (by omega)
  exact ⟨key 1 (by decide), key 2 (by decide), key 3 (by decide), key 4 (by decide), key 5 (by decide)⟩
set_option maxRecDepth 100000 in
set_option maxHeartbeats 4000000 in
theorem law_loop {p : Program} {l : Launch} {e : Env} {s : State} {m : MethodId} {below : List Frame} {meth : Method} {c : Code} {V : xV} {b L : Nat} {xs : Nat → Int32} (C : xC p s m #[Value.ref b] c cd_Law_law 7 R_Law V) (hfl : l.flags = flags0) (hr : meth.sig.returnType = ret) (hlocks : meth.locks = false) (hX : xX s) (hV : ∀ c, c < 61 → s.heap.size ≤ V.2.2 c) (hXs : va_X b L xs s s.heap) (hbl : b < s.heap.size) (hL : L ≤ 3072) {I : Nat → xS → Prop} (hst : lawSteps I) (hnop : ∀ (t : Nat) (σ : xS), t < 512 → I t σ → I (t + 1) σ) :
    ∀ (n t : Nat) (σ : xS) (H : Heap) (locs : List Loc) (ls : Array Slot), t + n = 513 → I t σ → xI V s.heap σ H locs → lv_has ls 7 [(0, .ref b), (1, .ref (V.2.2 0)), (2, .ref (V.2.2 31)), (3, .ref (V.2.2 30)), (4, .int (nI (6 * t)))] → W p l e room_1 s m #[Value.ref b] below meth c H locs (61 + t) (451581 + 6 * t) (lw_Z below #[Value.ref b] s) (F0 m 23 ls []) := by
  have hx := C.1
  have hb := C.2.1
  have hbA : ¬ xA V s.heap.size b := x_old hV hbl
  unfold lawSteps at hst
  intro n
  induction n with
  | zero =>
    intro t σ H locs ls htn hI0 hI hl
    refine lv_iload hx hb d_Law_law_23 (lv_at hl 4 rfl) ?_
    refine lv_aload_n hx hb d_Law_law_25 rfl (lv_at hl 0 rfl) ?_
    refine va_slen hx hb hXs hbl hbA hI.2.2 d_Law_law_26 ?_
    refine lv_bipush (v := 6) hx hb d_Law_law_27 (by decide) ?_
    refine lv_isub hx hb d_Law_law_29 ?_
    refine lv_icmp_gt (tgt := 1241) hx hb d_Law_law_30 (by decide) (fun _ => ?_) (fun hc => absurd ((law_num hL (by omega)).mpr (by omega)) hc)
    refine lv_iconst (v := 1) hx hb d_Law_law_1241 (by decide) ?_
    refine va_forget (fun q hq => ?_) ?_
    · rcases hI.2.2.2.2 q hq with ⟨c9, h9, e9⟩ | h9
      · rw [e9]; exact hV c9 h9
      · exact h9
    · exact W.widen (k := 601024) (n := 7293034) (by omega) (by omega) (lw_ret hx hb hr hlocks d_Law_law_1242)
  | succ n ih =>
    intro t σ H locs ls htn hI0 hI hl
    refine lv_iload hx hb d_Law_law_23 (lv_at hl 4 rfl) ?_
    refine lv_aload_n hx hb d_Law_law_25 rfl (lv_at hl 0 rfl) ?_
    refine va_slen hx hb hXs hbl hbA hI.2.2 d_Law_law_26 ?_
    refine lv_bipush (v := 6) hx hb d_Law_law_27 (by decide) ?_
    refine lv_isub hx hb d_Law_law_29 ?_
    refine lv_icmp_gt (tgt := 1241) hx hb d_Law_law_30 (by decide) (fun _ => ?_) (fun hc => ?_)
    · refine lv_iconst (v := 1) hx hb d_Law_law_1241 (by decide) ?_
      refine va_forget (fun q hq => ?_) ?_
      · rcases hI.2.2.2.2 q hq with ⟨c9, h9, e9⟩ | h9
        · rw [e9]; exact hV c9 h9
        · exact h9
      · exact W.widen (k := 601024) (n := 7293034) (by omega) (by omega) (lw_ret hx hb hr hlocks d_Law_law_1242)
    · have hle : 6 * t + 6 ≤ L := by
        rcases Nat.lt_or_ge L (6 * t + 6) with h | h
        · exact absurd ((law_num hL (by omega)).mpr h) hc
        · exact h
      have ht : t < 512 := by omega
      have hok := law_ok hL hle
      have hc : 61 + t + 1 ≤ 601024 := by omega
      have hs : 451581 + 6 * t + 6 ≤ 7293034 := by omega
      have hK : ∀ (σ : xS) (H : Heap) (locs : List Loc) (ls : Array Slot), I (t + 1) σ → xI V s.heap σ H locs → lv_has ls 7 [(0, .ref b), (1, .ref (V.2.2 0)), (2, .ref (V.2.2 31)), (3, .ref (V.2.2 30)), (4, .int (nI (6 * t)))] → W p l e room_1 s m #[Value.ref b] below meth c H locs (61 + t + 1) (451581 + 6 * t + 6) (lw_Z below #[Value.ref b] s) (F0 m 1235 ls []) := by
        intro σ H locs ls hI0 hI hl
        refine lv_iinc (v := nI (6 * (t + 1))) (lv' := [(4, .int (nI (6 * (t + 1)))), (0, .ref b), (1, .ref (V.2.2 0)), (2, .ref (V.2.2 31)), (3, .ref (V.2.2 30))]) hx hb d_Law_law_1235 hl (k := 4) rfl (by show nI (6 * t) + nI 6 = _; rw [nI_add]; rfl) (by decide) rfl (fun ls hl => ?_)
        refine lv_goto (tgt := 23) hx hb d_Law_law_1238 (by decide) ?_
        exact ih (t + 1) σ H locs ls (by omega) hI0 hI (lv_sub hl [1, 2, 3, 4, 0] rfl)
      refine lv_aload_n hx hb d_Law_law_33 rfl (lv_at hl 0 rfl) ?_
      refine lv_iload hx hb d_Law_law_34 (lv_at hl 4 rfl) ?_
      refine va_sld hx hb hXs hbl hbA hI.2.2 (vp_in_nI (by omega) (by omega)) d_Law_law_36 ?_
      refine lv_bipush (v := 31) hx hb d_Law_law_37 (by decide) ?_
      refine lv_iand hx hb d_Law_law_39 ?_
      refine lv_topi (fun z ez => ?_)
      by_cases c0 : z = 0
      · refine lv_tableIn (tgt := 136) hx hb d_Law_law_40 (by rw [c0]; decide) (by rw [c0]; decide) (by rw [c0]; rfl) (by decide) ?_
        exact lc_0 C hfl hX hV hXs hbl hbA hc hs hK (hst.1 xs L (nI (6 * t)) t σ ht hI0 hok) hI hl
      by_cases c1 : z = 1
      · refine lv_tableIn (tgt := 149) hx hb d_Law_law_40 (by rw [c1]; decide) (by rw [c1]; decide) (by rw [c1]; rfl) (by decide) ?_
        exact lc_1 C hfl hX hV hXs hbl hbA hc hs hK (hst.2.1 xs L (nI (6 * t)) t σ ht hI0 hok) hI hl
      by_cases c2 : z = 2
      · refine lv_tableIn (tgt := 162) hx hb d_Law_law_40 (by rw [c2]; decide) (by rw [c2]; decide) (by rw [c2]; rfl) (by decide) ?_
        exact lc_2 C hfl hX hV hXs hbl hbA hc hs hK (hst.2.2.1 xs L (nI (6 * t)) t σ ht hI0 hok) hI hl
      by_cases c3 : z = 3
      · refine lv_tableIn (tgt := 218) hx hb d_Law_law_40 (by rw [c3]; decide) (by rw [c3]; decide) (by rw [c3]; rfl) (by decide) ?_
        exact lc_3 C hfl hX hV hXs hbl hbA hc hs hK (hst.2.2.2.1 xs L (nI (6 * t)) t σ ht hI0 hok) hI hl
      by_cases c4 : z = 4
      · refine lv_tableIn (tgt := 254) hx hb d_Law_law_40 (by rw [c4]; decide) (by rw [c4]; decide) (by rw [c4]; rfl) (by decide) ?_
        exact lc_4 C hfl hX hV hXs hbl hbA hc hs hK (hst.2.2.2.2.1 xs L (nI (6 * t)) t σ ht hI0 hok) hI hl
      by_cases c5 : z = 5
      · refine lv_tableIn (tgt := 302) hx hb d_Law_law_40 (by rw [c5]; decide) (by rw [c5]; decide) (by rw [c5]; rfl) (by decide) ?_
        exact lc_5 C hfl hX hV hXs hbl hbA hc hs hK (hst.2.2.2.2.2.1 xs L (nI (6 * t)) t σ ht hI0 hok) hI hl
      by_cases c6 : z = 6
      · refine lv_tableIn (tgt := 350) hx hb d_Law_law_40 (by rw [c6]; decide) (by rw [c6]; decide) (by rw [c6]; rfl) (by decide) ?_
        exact lc_6 C hfl hX hV hXs hbl hbA hc hs hK (hst.2.2.2.2.2.2.1 xs L (nI (6 * t)) t σ ht hI0 hok) hI hl
      by_cases c7 : z = 7
      · refine lv_tableIn (tgt := 454) hx hb d_Law_law_40 (by rw [c7]; decide) (by rw [c7]; decide) (by rw [c7]; rfl) (by decide) ?_
        exact lc_7 C hfl hX hV hXs hbl hbA hc hs hK (hst.2.2.2.2.2.2.2.1 xs L (nI (6 * t)) t σ ht hI0 hok) hI hl
      by_cases c8 : z = 8
      · refine lv_tableIn (tgt := 541) hx hb d_Law_law_40 (by rw [c8]; decide) (by rw [c8]; decide) (by rw [c8]; rfl) (by decide) ?_
        exact lc_8 C hfl hX hV hXs hbl hbA hc hs hK (hst.2.2.2.2.2.2.2.2.1 xs L (nI (6 * t)) t σ ht hI0 hok) hI hl
      by_cases c9 : z = 9
      · refine lv_tableIn (tgt := 621) hx hb d_Law_law_40 (by rw [c9]; decide) (by rw [c9]; decide) (by rw [c9]; rfl) (by decide) ?_
        exact lc_9 C hfl hX hV hXs hbl hbA hc hs hK (hst.2.2.2.2.2.2.2.2.2.1 xs L (nI (6 * t)) t σ ht hI0 hok) hI hl
      by_cases c10 : z = 10
      · refine lv_tableIn (tgt := 689) hx hb d_Law_law_40 (by rw [c10]; decide) (by rw [c10]; decide) (by rw [c10]; rfl) (by decide) ?_
        exact lc_10 C hfl hX hV hXs hbl hbA hc hs hK (hst.2.2.2.2.2.2.2.2.2.2.1 xs L (nI (6 * t)) t σ ht hI0 hok) hI hl
      by_cases c11 : z = 11
      · refine lv_tableIn (tgt := 769) hx hb d_Law_law_40 (by rw [c11]; decide) (by rw [c11]; decide) (by rw [c11]; rfl) (by decide) ?_
        exact lc_11 C hfl hX hV hXs hbl hbA hc hs hK (hst.2.2.2.2.2.2.2.2.2.2.2.1 xs L (nI (6 * t)) t σ ht hI0 hok) hI hl
      by_cases c12 : z = 12
      · refine lv_tableIn (tgt := 832) hx hb d_Law_law_40 (by rw [c12]; decide) (by rw [c12]; decide) (by rw [c12]; rfl) (by decide) ?_
        exact lc_12 C hfl hX hV hXs hbl hbA hc hs hK (hst.2.2.2.2.2.2.2.2.2.2.2.2.1 xs L (nI (6 * t)) t σ ht hI0 hok) hI hl
      by_cases c13 : z = 13
      · refine lv_tableIn (tgt := 888) hx hb d_Law_law_40 (by rw [c13]; decide) (by rw [c13]; decide) (by rw [c13]; rfl) (by decide) ?_
        exact lc_13 C hfl hX hV hXs hbl hbA hc hs hK (hst.2.2.2.2.2.2.2.2.2.2.2.2.2.1 xs L (nI (6 * t)) t σ ht hI0 hok) hI hl
      by_cases c14 : z = 14
      · refine lv_tableIn (tgt := 963) hx hb d_Law_law_40 (by rw [c14]; decide) (by rw [c14]; decide) (by rw [c14]; rfl) (by decide) ?_
        exact lc_14 C hfl hX hV hXs hbl hbA hc hs hK (hst.2.2.2.2.2.2.2.2.2.2.2.2.2.2.1 xs L (nI (6 * t)) t σ ht hI0 hok) hI hl
      by_cases c15 : z = 15
      · refine lv_tableIn (tgt := 1031) hx hb d_Law_law_40 (by rw [c15]; decide) (by rw [c15]; decide) (by rw [c15]; rfl) (by decide) ?_
        exact lc_15 C hfl hX hV hXs hbl hbA hc hs hK (hst.2.2.2.2.2.2.2.2.2.2.2.2.2.2.2.1 xs L (nI (6 * t)) t σ ht hI0 hok) hI hl
      by_cases c16 : z = 16
      · refine lv_tableIn (tgt := 1111) hx hb d_Law_law_40 (by rw [c16]; decide) (by rw [c16]; decide) (by rw [c16]; rfl) (by decide) ?_
        exact lc_16 C hfl hX hV hXs hbl hbA hc hs hK (hst.2.2.2.2.2.2.2.2.2.2.2.2.2.2.2.2.1 xs L (nI (6 * t)) t σ ht hI0 hok) hI hl
      by_cases c17 : z = 17
      · refine lv_tableIn (tgt := 1148) hx hb d_Law_law_40 (by rw [c17]; decide) (by rw [c17]; decide) (by rw [c17]; rfl) (by decide) ?_
        exact lc_17 C hfl hX hV hXs hbl hbA hc hs hK (hst.2.2.2.2.2.2.2.2.2.2.2.2.2.2.2.2.2.1 xs L (nI (6 * t)) t σ ht hI0 hok) hI hl
      by_cases c18 : z = 18
      · refine lv_tableIn (tgt := 1185) hx hb d_Law_law_40 (by rw [c18]; decide) (by rw [c18]; decide) (by rw [c18]; rfl) (by decide) ?_
        exact lc_18 C hfl hX hV hXs hbl hbA hc hs hK (hst.2.2.2.2.2.2.2.2.2.2.2.2.2.2.2.2.2.2.1 xs L (nI (6 * t)) t σ ht hI0 hok) hI hl
      by_cases c19 : z = 19
      · refine lv_tableIn (tgt := 1210) hx hb d_Law_law_40 (by rw [c19]; decide) (by rw [c19]; decide) (by rw [c19]; rfl) (by decide) ?_
        exact lc_19 C hfl hX hV hXs hbl hbA hc hs hK (hst.2.2.2.2.2.2.2.2.2.2.2.2.2.2.2.2.2.2.2 xs L (nI (6 * t)) t σ ht hI0 hok) hI hl
      refine lv_tableOut (tgt := 1235) hx hb d_Law_law_40 (by have := x_ne c0 (n := 0) (by decide); have := x_ne c1 (n := 1) (by decide); have := x_ne c2 (n := 2) (by decide); have := x_ne c3 (n := 3) (by decide); have := x_ne c4 (n := 4) (by decide); have := x_ne c5 (n := 5) (by decide); have := x_ne c6 (n := 6) (by decide); have := x_ne c7 (n := 7) (by decide); have := x_ne c8 (n := 8) (by decide); have := x_ne c9 (n := 9) (by decide); have := x_ne c10 (n := 10) (by decide); have := x_ne c11 (n := 11) (by decide); have := x_ne c12 (n := 12) (by decide); have := x_ne c13 (n := 13) (by decide); have := x_ne c14 (n := 14) (by decide); have := x_ne c15 (n := 15) (by decide); have := x_ne c16 (n := 16) (by decide); have := x_ne c17 (n := 17) (by decide); have := x_ne c18 (n := 18) (by decide); have := x_ne c19 (n := 19) (by decide); omega) (by decide) ?_
      refine W.widen (k := 61 + t + 1) (n := 451581 + 6 * t + 6) (Nat.le_add_right _ _) (Nat.le_add_right _ _) ?_
      exact hK σ H locs ls (hnop t σ ht hI0) hI hl
