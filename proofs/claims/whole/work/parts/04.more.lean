theorem x_rown {i : Int32} (h : vp_in i 8) : i.toNatClampNeg < 8 := Nat.not_le.mp fun q => h (Or.inr q)
theorem x_rowlt {i : Int32} (h : vp_in i 8) : 32 + i.toNatClampNeg < 61 := by
  have := x_rown h
  omega
theorem x_ne {x k : Int32} (h : ¬ x = k) {n : Int} (hn : k.toInt = n) : x.toInt ≠ n := fun e => h (Int32.toInt_inj.mp (e.trans hn.symm))
section XM
variable {p : Program} {l : Launch} {e : Env} {R : Room} {s : State} {m : MethodId} {args : Array Value} {below : List Frame} {meth : Method} {c : Code} {H : Heap} {locs : List Loc} {cells slots : Nat} {Z : State → Prop}
variable {cc : ByteArray} {nL pc : Nat} {own : String} {V : xV} {σ : xS} {ls : Array Slot} {rest : List Value}
/-- a row of the regions' table -/
theorem x_aald (C : xC p s m args c cc nL own V) (hI : xI V s.heap σ H locs) {i : Int32} (hin : vp_in i 8) (hdg : decode cc pc = .ok (.aaload, 1))
    (kk : W p l e R s m args below meth c H locs cells slots Z (F0 m (pc + 1) ls (.ref (V.2.2 (32 + i.toNatClampNeg)) :: rest))) : W p l e R s m args below meth c H locs cells slots Z (F0 m pc ls (.int i :: .ref (V.2.2 21) :: rest)) := by
  have hlt := x_rown hin
  have hc := hI.1 21 _ (xw_get (V := V) (σ := σ) (by decide))
  exact W.aald (v := .ref (V.2.2 (32 + i.toNatClampNeg))) (ty := .array .int) C.1 C.2.1 hc ((C.2.2.2.2.2.1.2 3 _ rfl).1 8 (fun j => va_rf (if j < 8 then some (V.2.2 (32 + j)) else none))) rfl (fun q => by cases q) (by show ¬ (i < 0 ∨ (arrV _ _ _).slots.size ≤ _); rw [arrV_size]; exact hin) (by show (arrV _ _ _).slots[_]? = _; rw [arrV_read _ _ hlt]; show some (va_rf (if i.toNatClampNeg < 8 then some (V.2.2 (32 + i.toNatClampNeg)) else none)) = _; rw [if_pos hlt]; rfl) rfl rfl hdg kk
/-- a static method as a callee -/
def xYs (y : MethodName) (bytes : ByteArray) (maxL : Nat) (ret : Option FieldType) (n : Nat) : Prop :=
  Cond.static y ∈ xG ∧ Cond.initialized y.cls ∈ xG ∧ Cond.code y bytes maxL ret ∈ xG ∧ y.cls ≠ "java/lang/invoke/MethodHandle" ∧ y.cls ≠ "java/lang/invoke/VarHandle" ∧ (parseMethodDescriptor y.desc).map (fun d => d.parameters.length) = some n
theorem x_cwS {y : MethodName} {bytes : ByteArray} {maxL n idx : Nat} {ret : Option FieldType} {rm : Room} (hts : ∀ w ∈ xG, w.before args s = true) (hY : xYs y bytes maxL ret n) (hl : Cond.methodLink own idx y ∈ xG) (hrc : rm.cells = 0) (hrs : rm.slots = 0) (hR : rm.frames + 1 ≤ R.frames ∧ 8 + (maxL + 11) + rm.locals ≤ R.locals) :
    CallB R s args own idx y bytes maxL ret (.code y bytes maxL ret :: xG) rm 0 0 n ∧ (Cond.static y).before args s = true := by
  obtain ⟨h1, h3, h4, h5, h6, h7⟩ := hY
  refine ⟨callB_of n hts (fun w h => ?_) rfl hrc hrs (hts _ h3) (hts _ hl) ⟨h5, h6, h7⟩ hR, hts _ h1⟩
  rcases List.mem_cons.mp h with rfl | h
  · exact ⟨h4, good_of_word (xG_good h4)⟩
  · exact ⟨h, good_of_word (xG_good h)⟩
theorem x_calliS (C : xC p s m args c cc nL own V) (hI : xI V s.heap σ H locs) (hls : ls.size = nL) {n idx maxL : Nat} {y : MethodName} {bytes : ByteArray} {ret : Option FieldType} {rm : Room} {As : List Value} {Q : Int32 → xS → Prop} {g : List Value}
    (hM : xMi l y (.code y bytes maxL ret :: xG) rm V As σ Q) (hY : xYs y bytes maxL ret n) (hl : Cond.methodLink own idx y ∈ xG) (hrc : rm.cells = 0) (hrs : rm.slots = 0) (hR : rm.frames + 1 ≤ R.frames ∧ 8 + (maxL + 11) + rm.locals ≤ R.locals)
    (hn : As.length = n) (hg : g = As.reverse ++ rest) (hw : (rest.map fun v => v.category).sum ≤ 8) (hdg : decode cc pc = .ok (.invokestatic idx, 3)) (hf : cells ≤ R.cells ∧ slots ≤ R.slots)
    (kk : ∀ (r : Int32) (τ : xS) (H1 : Heap) (locs1 : List Loc), Q r τ → xI V s.heap τ H1 locs1 → W p l e R s m args below meth c H1 locs1 cells slots Z (F0 m (pc + 3) ls (.int r :: rest))) : W p l e R s m args below meth c H locs cells slots Z (F0 m pc ls g) := by
  subst hg
  refine va_calli (va_runS (As := As) (rest := rest) (Ts := xG) (nL := nL) ⟨C.1, C.2.1, C.2.2.1, C.2.2.2.1, C.2.2.2.2.1⟩ (hM H.size) (x_cwS C.2.2.2.2.1 hY hl hrc hrs hR) ⟨xBlind, fun U hU hW => ⟨rfl, by rw [hU], by rw [hU]; exact hI.1, ⟨hI.2.1.1, fun _ _ _ => trivial⟩, C.2.2.2.2.2.moved hW⟩⟩ rfl hn hls rfl (lv_room hw) hdg hf) hI.2.2 (fun q _ h => x_free hI q h) (x_free hI) (fun r u t H1 locs1 ht hvm hq hB hz hk hS => ?_)
  exact kk r u H1 locs1 hq ⟨by rw [← ht]; exact hB, xD_any hI.2.1, hS⟩
end XM
