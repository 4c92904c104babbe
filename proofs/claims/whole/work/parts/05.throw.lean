/-! methods that only read; methods that throw (launches without stack traces) -/
def xRi (l : Launch) (y : MethodName) (ws : List Cond) (rm : Room) (V : xV) (av : List Value) (σ : xS) (Q : Int32 → Prop) : Prop :=
  ∀ sz : Nat, Met l y ws rm (va_Pc av (xPre V sz σ)) (vp_Si Q) 0 0 (fun _ => False)
def xRv (l : Launch) (y : MethodName) (ws : List Cond) (rm : Room) (V : xV) (av : List Value) (σ : xS) (Q : Prop) : Prop :=
  ∀ sz : Nat, Met l y ws rm (va_Pc av (xPre V sz σ)) (va_Sv (fun _ => Q)) 0 0 (fun _ => False)
def xTw : List Cond := [.isRef (.static Bundle.tN "UNASSIGNED_STACK" Bundle.steD), .isRef (.static Bundle.tN "SUPPRESSED_SENTINEL" Bundle.listD), .laysStatic Bundle.tN "UNASSIGNED_STACK" Bundle.steD, .laysStatic Bundle.tN "SUPPRESSED_SENTINEL" Bundle.listD]
def xStr : List (Nat × String) := [(241, "no such region"), (229, "no such root"), (244, "no such kind"), (246, "the tag is not 0 .. 999"), (248, "so many fields can't be"), (236, "the root is no reference")]
def xTc : List String := ["java/lang/IllegalArgumentException", "java/lang/IndexOutOfBoundsException", "java/lang/IllegalStateException"]
def xTk : List String := ["java/lang/RuntimeException", "java/lang/Exception", "java/lang/Throwable"]
def xTd : List Cond := xTc.map (fun C => .castable C C) ++ xTk.map (fun C => .declares (Bundle.initS C))
def xTn : List (String × String) := [("java/lang/IndexOutOfBoundsException", "java/lang/IllegalArgumentException"), ("java/lang/IllegalStateException", "java/lang/IllegalArgumentException"), ("java/lang/IllegalArgumentException", "java/lang/IndexOutOfBoundsException"), ("java/lang/IllegalStateException", "java/lang/IndexOutOfBoundsException"), ("java/lang/IllegalArgumentException", "java/lang/IllegalStateException"), ("java/lang/IndexOutOfBoundsException", "java/lang/IllegalStateException")]
/-- what a throw asks of the heap, of the texts, and of the tables beside the good words -/
def xX (U : State) : Prop := (∀ w ∈ xTw, w.before #[] U = true) ∧ (∀ q ∈ xStr, ∃ a, vk_R "RegionPool" q.1 q.2 a U) ∧ (∀ w ∈ xTd, w.before #[] U = true) ∧ ∀ q ∈ xTn, va_Nc q.1 q.2 U
theorem x_tr {u U : State} {c : Cond} (hc : c.onTables = true) (h : c.before #[] (u.setVm U.vm) = true) : c.before #[] U = true := by
  have e := Cond.onTables_vm (A := #[]) (A' := #[]) (U := u) (U' := U) U.vm c hc
  have hU : U.setVm U.vm = U := rfl
  rw [hU] at e
  rw [← e]
  exact h
theorem x_td {s U : State} (hA : s.vm.Alike U.vm) (h : ∀ w ∈ xTd, w.before #[] s = true) : ∀ w ∈ xTd, w.before #[] U = true := by
  intro w hw
  have h1 := h w hw
  rcases List.mem_append.mp hw with hw | hw
  · obtain ⟨C, -, rfl⟩ := List.mem_map.mp hw
    exact x_tr rfl (by rw [Cond.castable_setVm hA]; exact h1)
  · obtain ⟨C, -, rfl⟩ := List.mem_map.mp hw
    exact x_tr rfl (by rw [Cond.declares_setVm hA]; exact h1)
theorem x_tdot {w : Cond} (hw : w ∈ xTd) : w.onTables = true := by
  rcases List.mem_append.mp hw with hw | hw
  · obtain ⟨C, -, rfl⟩ := List.mem_map.mp hw
    rfl
  · obtain ⟨C, -, rfl⟩ := List.mem_map.mp hw
    rfl
theorem x_lays {C n d : String} {s U : State} (hW : s.vm.Alike U.vm) (hh : ∀ (q : Nat) (cell : Cell), s.heap[q]? = some cell → cell.vm.isStatics = true → U.heap[q]? = some cell) (h : (Cond.laysStatic C n d).before #[] s = true) : (Cond.laysStatic C n d).before #[] U = true := by
  obtain ⟨c, k, i, f, a, cell, h1, h2, h3, h4, h5, h6, h7, h8, h9⟩ := Cond.laysStatic_spec h
  obtain ⟨k', h20, he⟩ := State.fieldFound?_setVm hW h2
  have h2' : U.fieldFound? C n d = some (c, k', i, f) := h20
  have h1' : U.vm.findClass C = some c := by rw [hW.findClass]; exact h1
  have h4' : k'.statics = some a := by rw [he]; exact h4
  have h9' : k'.staticTypes[f.slot]? = some f.type := by rw [he]; exact h9
  have h5' := hh a cell h5 h6
  simp only [Cond.before, Cond.holds, Cond.value, h1', h2', h4', Option.bind_some, h5', Option.map_some]
  simp [h3, h6, h7, h8, h9']
theorem x_isref {C n d : String} {s U : State} (hW : s.vm.Alike U.vm) (hh : ∀ (q : Nat) (cell : Cell), s.heap[q]? = some cell → cell.vm.isStatics = true → U.heap[q]? = some cell) (hl : (Cond.laysStatic C n d).before #[] s = true) (h : (Cond.isRef (.static C n d)).before #[] s = true) : (Cond.isRef (.static C n d)).before #[] U = true := by
  obtain ⟨c, k, i, f, a, cell, h1, h2, h3, h4, h5, h6, h7, h8, h9⟩ := Cond.laysStatic_spec hl
  obtain ⟨k', h20, he⟩ := State.fieldFound?_setVm hW h2
  have h2' : U.fieldFound? C n d = some (c, k', i, f) := h20
  have h4' : k'.statics = some a := by rw [he]; exact h4
  have h5' := hh a cell h5 h6
  have e1 : (Term.static C n d).eval #[] U none [] U = cell.slots[f.slot]? := by
    simp [Term.eval, State.fieldNamed?, h2', h3, h4', h5', h6]
  have e2 : (Term.static C n d).eval #[] s none [] s = cell.slots[f.slot]? := by
    simp [Term.eval, State.fieldNamed?, h2, h3, h4, h5, h6]
  simp only [Cond.before, Cond.holds, Cond.value] at h ⊢
  rw [e2] at h
  rw [e1]
  exact h
theorem xX.moved {s U : State} (hW : s.WarmedH U.vm) (hh : ∀ (q : Nat) (cell : Cell), s.heap[q]? = some cell → cell.vm.isStatics = true → U.heap[q]? = some cell) (h : xX s) : xX U := by
  obtain ⟨h1, h2, h3, h4⟩ := h
  have a1 := h1 _ (List.mem_of_getElem? (l := xTw) (i := 0) rfl)
  have a2 := h1 _ (List.mem_of_getElem? (l := xTw) (i := 1) rfl)
  have a3 := h1 _ (List.mem_of_getElem? (l := xTw) (i := 2) rfl)
  have a4 := h1 _ (List.mem_of_getElem? (l := xTw) (i := 3) rfl)
  refine ⟨?_, fun q hq => ?_, x_td hW.alike h3, fun q hq => (h4 q hq).moved hW.alike⟩
  · unfold xTw
    exact List.forall_mem_cons.mpr ⟨x_isref hW.alike hh a3 a1, List.forall_mem_cons.mpr ⟨x_isref hW.alike hh a4 a2, List.forall_mem_cons.mpr ⟨x_lays hW.alike hh a3, List.forall_mem_cons.mpr ⟨x_lays hW.alike hh a4, fun _ h => absurd h List.not_mem_nil⟩⟩⟩⟩
  · obtain ⟨a, ha⟩ := h2 q hq
    exact ⟨a, ha.warm hW⟩
theorem xX.same {s U : State} (hv : s.vm = U.vm) (hh : s.heap = U.heap) (h : xX s) : xX U := by
  obtain ⟨h1, h2, h3, h4⟩ := h
  have hA : s.vm.Alike U.vm := by rw [hv]; exact Vm.Alike.refl U.vm
  have hh' : ∀ (q : Nat) (cell : Cell), s.heap[q]? = some cell → cell.vm.isStatics = true → U.heap[q]? = some cell := fun q cell h _ => by rw [← hh]; exact h
  have a1 := h1 _ (List.mem_of_getElem? (l := xTw) (i := 0) rfl)
  have a2 := h1 _ (List.mem_of_getElem? (l := xTw) (i := 1) rfl)
  have a3 := h1 _ (List.mem_of_getElem? (l := xTw) (i := 2) rfl)
  have a4 := h1 _ (List.mem_of_getElem? (l := xTw) (i := 3) rfl)
  refine ⟨?_, fun q hq => ?_, x_td hA h3, fun q hq => (h4 q hq).moved hA⟩
  · unfold xTw
    exact List.forall_mem_cons.mpr ⟨x_isref hA hh' a3 a1, List.forall_mem_cons.mpr ⟨x_isref hA hh' a4 a2, List.forall_mem_cons.mpr ⟨x_lays hA hh' a3, List.forall_mem_cons.mpr ⟨x_lays hA hh' a4, fun _ h => absurd h List.not_mem_nil⟩⟩⟩⟩
  · obtain ⟨a, ha⟩ := h2 q hq
    exact ⟨a, ha.same hv.symm⟩
/-- a method has thrown a new E, and has written nothing -/
def xTh (E : String) : Array Value → State → Outcome → State → Prop := fun _ st o t => ∃ (q : Addr) (ce : Cell), o = .threw q ∧ t.heap[q]? = some ce ∧ ce.vm = .none ∧ st.vm.findClass E = some ce.cls ∧ st.WarmedH t.vm ∧ st.sameButNew ({ t with vm := st.vm } : State) [] 1 6
def xPreT (V : xV) (sz : Nat) (σ : xS) (U : State) : Prop := xPre V sz σ U ∧ xX U
theorem xBlindT {V : xV} {sz : Nat} {σ : xS} {av : List Value} : FrameBlind (va_Pc av (xPreT V sz σ)) := fun a U g mk q => by
  obtain ⟨q0, ⟨q1, q2, q3, q4⟩, q5⟩ := q
  exact ⟨q0, ⟨q1, q2, q3, q4.same rfl⟩, xX.same (s := U) (U := U.calling g mk a) rfl rfl q5⟩
def xMt (l : Launch) (y : MethodName) (ws : List Cond) (rm : Room) (V : xV) (av : List Value) (σ : xS) (E : String) : Prop :=
  ∀ sz : Nat, MetFree l y (headSpec ws rm) (va_Pc av (xPreT V sz σ)) (fun _ _ _ _ _ => True) (xTh E)
def xZt (E : String) (below : List Frame) (args : Array Value) (s : State) : State → Prop := fun t => ∃ o, t.status = .running ∧ Ended t below o ∧ xTh E args s o t
section XT
variable {p : Program} {l : Launch} {e : Env} {R : Room} {s : State} {m : MethodId} {args : Array Value} {below : List Frame} {meth : Method} {c : Code} {H : Heap} {locs : List Loc} {cells slots : Nat} {Z : State → Prop}
variable {cc : ByteArray} {nL pc : Nat} {own : String} {V : xV} {σ : xS} {ls : Array Slot} {rest : List Value}
theorem x_beginri {y : MethodName} {bytes : ByteArray} {maxL : Nat} {ret : Option FieldType} {rm : Room} {av : List Value} {Q : Int32 → Prop} (hy : plainName y.cls = true) (hav : (lg_sl av).length ≤ maxL)
    (body : ∀ (p : Program) (e : Env) (s : State) (m : MethodId) (below : List Frame) (meth : Method) (c : Code) (ls : Array Slot), xC p s m av.toArray c bytes maxL y.cls V → meth.locks = false → meth.sig.returnType = ret → xI V s.heap σ s.heap [] → lv_has ls maxL (lv_args 0 av) →
      W p l e rm s m av.toArray below meth c s.heap [] 0 0 (MQ below (vp_Si Q) av.toArray s 0 0 (fun _ => False)) (F0 m 0 ls [])) : xRi l y (.code y bytes maxL ret :: xG) rm V av σ Q := by
  intro sz
  refine Met.ofW (cc := bytes) (maxL := maxL) (ret := ret) hy rfl ?_
  intro p e s m args below meth c s₁ B hml hv
  obtain ⟨rfl, hsz, hP, hD, hK⟩ := hv
  subst hsz
  have hts := atoms_spec (ws := .code y bytes maxL ret :: xG) B.pre
  have hl := lv_entry av (n := maxL) hav
  rw [lg_entry_eq]
  exact body p e s m below meth c _ ⟨B.exec, B.bytes, hml, findClass_of_methodNamed B.named, fun w h => hts w (List.mem_cons_of_mem _ h), hK⟩ B.notSynchronized B.returns ⟨hP, xD_self hD, va_S.rf⟩ hl
theorem x_beginrv {y : MethodName} {bytes : ByteArray} {maxL : Nat} {ret : Option FieldType} {rm : Room} {av : List Value} {Q : Prop} (hy : plainName y.cls = true) (hav : (lg_sl av).length ≤ maxL)
    (body : ∀ (p : Program) (e : Env) (s : State) (m : MethodId) (below : List Frame) (meth : Method) (c : Code) (ls : Array Slot), xC p s m av.toArray c bytes maxL y.cls V → meth.locks = false → meth.sig.returnType = ret → xI V s.heap σ s.heap [] → lv_has ls maxL (lv_args 0 av) →
      W p l e rm s m av.toArray below meth c s.heap [] 0 0 (MQ below (va_Sv (fun _ => Q)) av.toArray s 0 0 (fun _ => False)) (F0 m 0 ls [])) : xRv l y (.code y bytes maxL ret :: xG) rm V av σ Q := by
  intro sz
  refine Met.ofW (cc := bytes) (maxL := maxL) (ret := ret) hy rfl ?_
  intro p e s m args below meth c s₁ B hml hv
  obtain ⟨rfl, hsz, hP, hD, hK⟩ := hv
  subst hsz
  have hts := atoms_spec (ws := .code y bytes maxL ret :: xG) B.pre
  have hl := lv_entry av (n := maxL) hav
  rw [lg_entry_eq]
  exact body p e s m below meth c _ ⟨B.exec, B.bytes, hml, findClass_of_methodNamed B.named, fun w h => hts w (List.mem_cons_of_mem _ h), hK⟩ B.notSynchronized B.returns ⟨hP, xD_self hD, va_S.rf⟩ hl
theorem x_begint {y : MethodName} {bytes : ByteArray} {maxL : Nat} {ret : Option FieldType} {rm : Room} {av : List Value} {E : String} (hy : plainName y.cls = true) (hav : (lg_sl av).length ≤ maxL)
    (body : ∀ (p : Program) (e : Env) (s : State) (m : MethodId) (below : List Frame) (meth : Method) (c : Code) (ls : Array Slot), xC p s m av.toArray c bytes maxL y.cls V → meth.locks = false → c.exceptionTable.toList = [] → xI V s.heap σ s.heap [] → xX s → lv_has ls maxL (lv_args 0 av) →
      W p l e rm s m av.toArray below meth c s.heap [] 0 0 (xZt E below av.toArray s) (F0 m 0 ls [])) : xMt l y (.code y bytes maxL ret :: xG) rm V av σ E := by
  intro sz
  refine MetFree.of_bodyS (code := bytes) (maxLocals := maxL) (ret := ret) hy ?_ ?_
  · intro args s m h hn
    obtain ⟨meth, c, h1, h2, h3, h4, h5, h6, -, -⟩ := Cond.code_spec hn (atoms_spec (ws := .code y bytes maxL ret :: xG) h _ List.mem_cons_self)
    exact ⟨meth, c, h1, h2, h3, h4, h5, h6⟩
  · intro p e s m args below meth c s₁ B hml hv _
    obtain ⟨rfl, ⟨hsz, hP, hD, hK⟩, hX⟩ := hv
    subst hsz
    have hts := atoms_spec (ws := .code y bytes maxL ret :: xG) B.pre
    obtain ⟨meth', c', hm', hc', -, -, -, -, hem, -⟩ := Cond.code_spec B.named (hts _ List.mem_cons_self)
    have X₀ : Stand p l e rm s m av.toArray below meth c s₁ [] 0 0 := Stand.of_body B
    cases B.method.symm.trans hm'
    cases X₀.code.symm.trans hc'
    have he : c.exceptionTable.toList = [] := by
      have h0 : c.exceptionTable.size = 0 := by simpa [Array.isEmpty] using hem
      exact List.eq_nil_of_length_eq_zero (by simpa using h0)
    have hl := lv_entry av (n := maxL) hav
    have hh0 : s₁.heap = s.heap := by rw [B.state]; rfl
    have K := body p e s m below meth c _ ⟨B.exec, B.bytes, hml, findClass_of_methodNamed B.named, fun w h => hts w (List.mem_cons_of_mem _ h), hK⟩ B.notSynchronized he ⟨hP, xD_self hD, va_S.rf⟩ hX hl
    rw [← lg_entry_eq] at K
    obtain ⟨t, a1, o, b1, b2, b3⟩ := K s₁ hh0 X₀
    exact ⟨t, o, a1, b1, b2, b3⟩
theorem x_riret {Q : Int32 → Prop} {v : Int32} (C : xC p s m args c cc nL own V) (hlocks : meth.locks = false) (hr : meth.sig.returnType = some .int) (hQ : Q v) (hdg : decode cc pc = .ok (.ireturn, 1)) : W p l e R s m args below meth c s.heap [] 0 0 (MQ below (vp_Si Q) args s 0 0 (fun _ => False)) (F0 m pc ls [.int v]) :=
  W.iret (v := v) C.1 C.2.1 hr (fun t ht _ => ⟨v, rfl, hQ, ht⟩) (fun _ h => by cases h) hdg
theorem x_rzret {Q : Int32 → Prop} {v : Int32} (C : xC p s m args c cc nL own V) (hlocks : meth.locks = false) (hr : meth.sig.returnType = some .boolean) (hQ : narrow .boolean (.int v) = .int v ∧ Q v) (hdg : decode cc pc = .ok (.ireturn, 1)) : W p l e R s m args below meth c s.heap [] 0 0 (MQ below (vp_Si Q) args s 0 0 (fun _ => False)) (F0 m pc ls [.int v]) :=
  W.zret (v := v) C.1 C.2.1 hr hQ.1 (fun t ht _ => ⟨v, rfl, hQ.2, ht⟩) (fun _ h => by cases h) hdg
theorem x_rvret {Q : Prop} (C : xC p s m args c cc nL own V) (hlocks : meth.locks = false) (hr : meth.sig.returnType = none) (hQ : Q) (hdg : decode cc pc = .ok (.return_, 1)) : W p l e R s m args below meth c s.heap [] 0 0 (MQ below (va_Sv (fun _ => Q)) args s 0 0 (fun _ => False)) (F0 m pc ls []) :=
  W.vret C.1 C.2.1 hr (fun t ht _ => ⟨rfl, hQ, ht⟩) (fun _ h => by cases h) hdg
theorem x_rcalli (C : xC p s m args c cc nL own V) (hI : xI V s.heap σ H locs) (hls : ls.size = nL) {d ci n idx maxL : Nat} (hd : d < 61) {fs : List Value} {T : u_T} {N : Nat} {y : MethodName} {bytes : ByteArray} {ret : Option FieldType} {rm : Room} {As : List Value} {Q : Int32 → Prop} {g : List Value}
    (hM : xRi l y (.code y bytes maxL ret :: xG) rm V (.ref (V.2.2 d) :: As) σ Q) (hE : xE V d (σ d) = .inr (ci, fs)) (hc : xcl[ci]? = some (y.cls, T, N)) (hY : xY y bytes maxL ret n) (hl : Cond.methodLink own idx y ∈ xG) (hrc : rm.cells = 0) (hrs : rm.slots = 0) (hR : rm.frames + 1 ≤ R.frames ∧ 8 + (maxL + 11) + rm.locals ≤ R.locals)
    (hn : As.length = n) (hg : g = As.reverse ++ .ref (V.2.2 d) :: rest) (hw : (rest.map fun v => v.category).sum ≤ 8) (hdg : decode cc pc = .ok (.invokevirtual idx, 3)) (hf : cells ≤ R.cells ∧ slots ≤ R.slots)
    (kk : ∀ (r : Int32), Q r → W p l e R s m args below meth c H locs cells slots Z (F0 m (pc + 3) ls (.int r :: rest))) : W p l e R s m args below meth c H locs cells slots Z (F0 m pc ls g) := by
  subst hg
  exact vp_callSi (W.runV (As := As) (rest := rest) (Ts := xG) (nL := nL) ⟨C.1, C.2.1, C.2.2.1, C.2.2.2.1, C.2.2.2.2.1⟩ (hM H.size) (x_cw C.2.2.2.2.1 hY hl hrc hrs hR) ⟨xBlind, x_recv C hI hd hE hc, fun U hU hW => ⟨rfl, by rw [hU], by rw [hU]; exact hI.1, ⟨hI.2.1.1, fun _ _ _ => trivial⟩, C.2.2.2.2.2.moved hW⟩⟩ rfl hn hls rfl (lv_room hw) hdg hf) (fun r hq => kk r hq)
theorem x_rcallv (C : xC p s m args c cc nL own V) (hI : xI V s.heap σ H locs) (hls : ls.size = nL) {d ci n idx maxL : Nat} (hd : d < 61) {fs : List Value} {T : u_T} {N : Nat} {y : MethodName} {bytes : ByteArray} {ret : Option FieldType} {rm : Room} {As : List Value} {Q : Prop} {g : List Value}
    (hM : xRv l y (.code y bytes maxL ret :: xG) rm V (.ref (V.2.2 d) :: As) σ Q) (hE : xE V d (σ d) = .inr (ci, fs)) (hc : xcl[ci]? = some (y.cls, T, N)) (hY : xY y bytes maxL ret n) (hl : Cond.methodLink own idx y ∈ xG) (hrc : rm.cells = 0) (hrs : rm.slots = 0) (hR : rm.frames + 1 ≤ R.frames ∧ 8 + (maxL + 11) + rm.locals ≤ R.locals)
    (hn : As.length = n) (hg : g = As.reverse ++ .ref (V.2.2 d) :: rest) (hw : (rest.map fun v => v.category).sum ≤ 8) (hdg : decode cc pc = .ok (.invokevirtual idx, 3)) (hf : cells ≤ R.cells ∧ slots ≤ R.slots)
    (kk : Q → W p l e R s m args below meth c H locs cells slots Z (F0 m (pc + 3) ls rest)) : W p l e R s m args below meth c H locs cells slots Z (F0 m pc ls g) := by
  subst hg
  have hr := va_runV (p := p) (e := e) (below := below) (meth := meth) (locs := locs) (cells := cells) (slots := slots) (g := F0 m pc ls (As.reverse ++ .ref (V.2.2 d) :: rest)) (As := As) (rest := rest) (Ts := xG) (nL := nL) ⟨C.1, C.2.1, C.2.2.1, C.2.2.2.1, C.2.2.2.2.1⟩ (hM H.size) (x_cw C.2.2.2.2.1 hY hl hrc hrs hR) ⟨xBlind, x_recv C hI hd hE hc, fun U hU hW => ⟨rfl, by rw [hU], by rw [hU]; exact hI.1, ⟨hI.2.1.1, fun _ _ _ => trivial⟩, C.2.2.2.2.2.moved hW⟩⟩ rfl hn hls rfl (lv_room hw) hdg hf
  intro T hT X
  obtain ⟨v, st₀, t, T', L, h0, X', hL, e1, -, ⟨hv, hp, hh⟩, st⟩ := hr T hT X
  cases hv
  obtain ⟨t2, a1, b1⟩ := kk hp T' (by rw [e1, hh, h0]) (Stand.forget X' (fun q h => (hL q h).elim))
  exact ⟨t2, st t2 a1, b1⟩
/-- a read-only contract serves as any other -/
theorem xRv.toM {y : MethodName} {ws : List Cond} {rm : Room} {av : List Value} {Q : xS → Prop} (h : xRv l y ws rm V av σ (Q σ)) : xMv l y ws rm V av σ Q := by
  intro sz p e ha hc hk s m args below hf happ hP hK
  obtain ⟨n, o, h1, h2, h3, ⟨h4, h5, h6⟩, L, h7, h8⟩ := h sz p e ha hc hk s m args below hf happ hP hK
  exact ⟨n, o, h1, h2, h3, ⟨⟨σ, h4, h5, by unfold xPost; rw [h6]; exact hP.2.2.1⟩, by rw [h6]; exact Nat.le_refl _, fun q _ _ => by rw [h6]⟩, L, h7, fun q hq => (h8 q hq).elim⟩
end XT
