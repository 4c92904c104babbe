/-! Arrays.fill(int[], int), and new int[n][m] -/
def y_Fill : MethodName := ⟨"java/util/Arrays", "fill", "([II)V"⟩
abbrev cd_Fill : ByteArray := prog_20_method_103_code
theorem d_Fill_0 : decode cd_Fill 0 = .ok (.iconst 0, 1) := by decide +kernel
theorem d_Fill_1 : decode cd_Fill 1 = .ok (.istore_n 2, 1) := by decide +kernel
theorem d_Fill_2 : decode cd_Fill 2 = .ok (.aload_n 0, 1) := by decide +kernel
theorem d_Fill_3 : decode cd_Fill 3 = .ok (.arraylength, 1) := by decide +kernel
theorem d_Fill_4 : decode cd_Fill 4 = .ok (.istore_n 3, 1) := by decide +kernel
theorem d_Fill_5 : decode cd_Fill 5 = .ok (.iload_n 2, 1) := by decide +kernel
theorem d_Fill_6 : decode cd_Fill 6 = .ok (.iload_n 3, 1) := by decide +kernel
theorem d_Fill_7 : decode cd_Fill 7 = .ok (.if_icmp .ge 13, 3) := by decide +kernel
theorem d_Fill_10 : decode cd_Fill 10 = .ok (.aload_n 0, 1) := by decide +kernel
theorem d_Fill_11 : decode cd_Fill 11 = .ok (.iload_n 2, 1) := by decide +kernel
theorem d_Fill_12 : decode cd_Fill 12 = .ok (.iload_n 1, 1) := by decide +kernel
theorem d_Fill_13 : decode cd_Fill 13 = .ok (.iastore, 1) := by decide +kernel
theorem d_Fill_14 : decode cd_Fill 14 = .ok (.iinc 2 1, 3) := by decide +kernel
theorem d_Fill_17 : decode cd_Fill 17 = .ok (.goto (-12), 3) := by decide +kernel
theorem d_Fill_20 : decode cd_Fill 20 = .ok (.return_, 1) := by decide +kernel
theorem y_arr {D : va_G} {cA : ClassId} {n q : Nat} {f g : Nat → Int32} {H : Heap} (hfg : ∀ j, j < n → f j = g j) (h : va_P D xcl [(q, .inl (cA, n, .inl f))] H) : va_P D xcl [(q, .inl (cA, n, .inl g))] H := by
  intro k z hz
  have hk : k < 1 := (List.getElem?_eq_some_iff.mp hz).1
  rw [show k = 0 by omega] at hz
  cases hz
  have h0 := h 0 _ rfl
  show H[q]? = some (vp_cell cA (n, .inl g))
  have h1 : H[q]? = some (vp_cell cA (n, .inl f)) := h0
  rw [h1, vp_cell_i, vp_cell_i]
  congr 1
  refine congrArg (fun sl => ({ cls := cA, slots := sl, vm := .none } : Cell)) ?_
  refine Array.ext_getElem? (fun i => ?_)
  by_cases hi : i < n
  · have a1 := arrV_read cA (N := n) (fun j => Value.int (f j)) hi
    have a2 := arrV_read cA (N := n) (fun j => Value.int (g j)) hi
    rw [hfg i hi] at a1
    exact a1.trans a2.symm
  · exact (Array.getElem?_eq_none (by simp; omega)).trans (Array.getElem?_eq_none (by simp; omega)).symm
section YF
variable {p : Program} {l : Launch} {e : Env} {R : Room} {s : State} {m : MethodId} {args : Array Value} {below : List Frame} {meth : Method} {c : Code} {H : Heap} {locs : List Loc} {cells slots : Nat} {Z : State → Prop}
variable {cc : ByteArray} {nL pc : Nat} {own : String} {D : va_G} {ka : Nat → ClassId} {A : Nat → Prop} {H0 : Heap} {ws : va_W} {ls : Array Slot} {rest : List Value}
theorem fill_loop {w0 : va_W} {w1 : (Nat → Nat) → va_W} (C : yC p s m args c cd_Fill 4 "java/util/Arrays" D ka) (hlocks : meth.locks = false) (hr : meth.sig.returnType = none) {q n : Nat} (hn : n < 2 ^ 31) {v : Int32} {hw0 : w0 = w0} (hw1 : w1 = fun _ => [(q, .inl (ka 0, n, .inl (fun _ => v)))]) :
    ∀ (k i : Nat) (f : Nat → Int32) (H : Heap) (locs : List Loc) (ls : Array Slot), i + k = n → (∀ j, j < i → f j = v) → yJ D (va_A w0 s.heap.size) s.heap [(q, .inl (ka 0, n, .inl f))] H locs → lv_has ls 4 [(0, .ref q), (1, .int v), (2, .int (nI i)), (3, .int (nI n))] → W p l e R s m args below meth c H locs 0 0 (yZ below D args s w0 w1 0 0) (F0 m 5 ls []) := by
  have hx := C.1
  have hb := C.2.1
  intro k
  induction k with
  | zero =>
    intro i f H locs ls hi hf hJ hl
    refine lv_iload_n hx hb d_Fill_5 rfl (lv_at hl 2 rfl) ?_
    refine lv_iload_n hx hb d_Fill_6 rfl (lv_at hl 3 rfl) ?_
    refine lv_icmp_ge (tgt := 20) hx hb d_Fill_7 (by decide) (fun _ => ?_) (fun hc => absurd (nI_le (a := n) (b := i) (by omega) (by omega)) hc)
    refine y_ret C hlocks hr (ws := [(q, .inl (ka 0, n, .inl (fun _ => v)))]) ⟨y_arr (fun j hj => hf j (by omega)) hJ.1, ⟨fun a b x y ha hb => ?_, fun a x ha => ?_⟩, hJ.2.2⟩ (fun _ => 0) (by rw [hw1]) (Nat.le_refl _) (Nat.le_refl _) d_Fill_20
    · have h1 : a < 1 := (List.getElem?_eq_some_iff.mp ha).1
      have h2 : b < 1 := (List.getElem?_eq_some_iff.mp hb).1
      intro _
      omega
    · have h1 : a < 1 := (List.getElem?_eq_some_iff.mp ha).1
      rw [show a = 0 by omega] at ha
      cases ha
      exact hJ.2.1.2 0 (q, .inl (ka 0, n, .inl f)) rfl
  | succ k ih =>
    intro i f H locs ls hi hf hJ hl
    refine lv_iload_n hx hb d_Fill_5 rfl (lv_at hl 2 rfl) ?_
    refine lv_iload_n hx hb d_Fill_6 rfl (lv_at hl 3 rfl) ?_
    refine lv_icmp_ge (tgt := 20) hx hb d_Fill_7 (by decide) (fun hc => absurd hc (nI_ge (by omega) hn)) (fun _ => ?_)
    refine lv_aload_n hx hb d_Fill_10 rfl (lv_at hl 0 rfl) ?_
    refine lv_iload_n hx hb d_Fill_11 rfl (lv_at hl 2 rfl) ?_
    refine lv_iload_n hx hb d_Fill_12 rfl (lv_at hl 1 rfl) ?_
    refine va_iast hx hb C.2.2.2.2.2.1 hJ.1 hJ.2.1 hJ.2.2.1 0 0 rfl rfl (vp_in_nI (by omega) hn) d_Fill_13 (fun H locs a1 a2 a3 => ?_)
    refine lv_iinc (v := nI (i + 1)) (lv' := [(2, .int (nI (i + 1))), (0, .ref q), (1, .int v), (3, .int (nI n))]) hx hb d_Fill_14 hl (k := 2) rfl (nI_1 i) (by decide) rfl (fun ls hl => ?_)
    refine lv_goto (tgt := 5) hx hb d_Fill_17 (by decide) ?_
    refine ih (i + 1) _ H locs ls (by omega) (fun j hj => ?_) ⟨a1, a2, a3, hJ.2.2.2⟩ (lv_sub hl [1, 2, 0, 3] rfl)
    rw [nI_clamp (by omega)]
    by_cases hji : j = i
    · rw [hji, pk_us]
    · rw [pk_un hji]
      exact hf j (by omega)
theorem c_Fill (q n : Nat) (hn : n < 2 ^ 31) (f : Nat → Int32) (v : Int32) : yM l y_Fill (.code y_Fill cd_Fill 4 none :: xG) { frames := 0, cells := 0, slots := 0, locals := 0 } D ka [.ref q, .int v] [(q, .inl (ka 0, n, .inl f))] (fun _ => [(q, .inl (ka 0, n, .inl (fun _ => v)))]) 0 0 := by
  refine y_begin (by decide) (Nat.le_of_ble_eq_true rfl) (fun p e s m below meth c ls C hlocks hr _ hJ hl => ?_)
  have C : yC p s m _ c cd_Fill 4 "java/util/Arrays" D ka := C
  have hx := C.1
  have hb := C.2.1
  have hl : lv_has ls 4 [(0, .ref q), (1, .int v)] := hl
  refine lv_iconst (v := 0) hx hb d_Fill_0 (by decide) ?_
  refine lv_istore_n (lv' := [(2, .int 0), (0, .ref q), (1, .int v)]) hx hb d_Fill_1 rfl hl (by decide) rfl (fun ls hl => ?_)
  refine lv_aload_n hx hb d_Fill_2 rfl (lv_at hl 1 rfl) ?_
  refine va_alen (ty := .int) (v := nI n) hx hb C.2.2.2.2.2.1 hJ.1 0 0 rfl rfl rfl d_Fill_3 ?_
  refine lv_istore_n (lv' := [(3, .int (nI n)), (2, .int 0), (0, .ref q), (1, .int v)]) hx hb d_Fill_4 rfl hl (by decide) rfl (fun ls hl => ?_)
  exact fill_loop (hw0 := rfl) C hlocks hr hn rfl n 0 f _ _ ls (by omega) (fun j hj => absurd hj (Nat.not_lt_zero j)) hJ (lv_sub hl [2, 3, 1, 0] (by rw [nI_0]; rfl))
/-- a call of Arrays.fill -/
theorem y_fill (C : yC p s m args c cc nL own D ka) (hJ : yJ D A s.heap ws H locs) (hls : ls.size = nL) {idx q n : Nat} (hn : n < 2 ^ 31) {f : Nat → Int32} {v : Int32} {wr : va_W}
    (isC isR : List Nat) (hC : isC.map (fun i => ws[i]?) = [some (q, .inl (ka 0, n, .inl f))]) (hRr : isR.map (fun i => ws[i]?) = wr.map some) (hnC : va_nd isC = true) (hnR : va_nd isR = true) (hdis : ∀ i ∈ isR, i ∉ isC)
    (h1 : Cond.static y_Fill ∈ xG) (h3 : Cond.initialized "java/util/Arrays" ∈ xG) (h4 : Cond.code y_Fill cd_Fill 4 none ∈ xG) (hl : Cond.methodLink own idx y_Fill ∈ xG) (hR : 1 ≤ R.frames ∧ 23 ≤ R.locals) (hw : (rest.map fun v => v.category).sum ≤ 8) (hdg : decode cc pc = .ok (.invokestatic idx, 3)) (hf : cells ≤ R.cells ∧ slots ≤ R.slots)
    (kk : ∀ (H1 : Heap) (locs1 : List Loc), yJ D A s.heap (wr ++ [(q, .inl (ka 0, n, .inl (fun _ => v)))]) H1 locs1 → W p l e R s m args below meth c H1 locs1 cells slots Z (F0 m (pc + 3) ls rest)) : W p l e R s m args below meth c H locs cells slots Z (F0 m pc ls (.int v :: .ref q :: rest)) := by
  have hJc := hJ.re (w' := [(q, .inl (ka 0, n, .inl f))]) isC hnC hC
  have hFc := va_free (wc := [(q, .inl (ka 0, n, .inl f))]) hJ.2.1 hJ.2.2.1 hJ.2.2.2 isC hC
  refine va_callv (va_runS (As := [.ref q, .int v]) (rest := rest) (Ts := xG) (nL := nL) (n := 2) (index := idx) ⟨C.1, C.2.1, C.2.2.1, C.2.2.2.1, C.2.2.2.2.1⟩ (c_Fill (l := l) (D := D) (ka := ka) q n hn f v H.size) ⟨callB_of 2 C.2.2.2.2.1 (y_good h4) rfl rfl rfl (C.2.2.2.2.1 _ h3) (C.2.2.2.2.1 _ hl) ⟨by decide, by decide, by decide +kernel⟩ ⟨hR.1, by show 8 + (4 + 11) + 0 ≤ R.locals; omega⟩, C.2.2.2.2.1 _ h1⟩ ⟨yBlind, fun U hU hW => ⟨rfl, by rw [hU], by rw [hU]; exact hJc.1, ⟨hJc.2.1.1, fun _ _ _ => trivial⟩, yK.moved hW.alike C.2.2.2.2.2⟩⟩ rfl rfl hls rfl (lv_room hw) hdg hf) hJ.2.2.1 (fun q _ h => hFc q h) hFc (fun a t H1 locs1 ht hvm hq hB hz hk hS => ?_)
  obtain ⟨hP1, hD1⟩ := hB
  rw [ht] at hP1
  obtain ⟨hP, hD⟩ := va_join (wc := [(q, .inl (ka 0, n, .inl f))]) (wr := wr) (w1 := [(q, .inl (ka 0, n, .inl (fun _ => v)))]) hJ.1 hJ.2.1 isC isR hC hRr hnR hdis hk hFc hP1 hD1
  exact kk H1 locs1 ⟨hP, hD, hS, hJ.2.2.2⟩
end YF
