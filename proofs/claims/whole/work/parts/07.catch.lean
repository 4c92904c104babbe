/-! an exception that is caught -/
/-- the rows of a table, from the first on: each one covers; the first that takes the class leads to h -/
def xRows (pl : Platform) (s₀ : State) (f : JFrame) (th : ClassId) (h : Nat) : List ExceptionTableEntry → Prop
  | [] => False
  | x :: t => covers x f.pc = true ∧ x.catchType ≠ 0 ∧ ∃ c, s₀.vm.ClassLinks pl f.method.cls x.catchType c ∧ ((s₀.vm.assignable th c = true ∧ x.handlerPc = h) ∨ (s₀.vm.assignable th c = false ∧ xRows pl s₀ f th h t))
theorem x_find {e : Env} {s₀ : State} {f : JFrame} {a : Addr} {cell : Cell} (hobj : ∀ k, cell.vm ≠ .statics k) (hk0 : ∃ k, s₀.vm.classes[cell.cls]? = some k) (h : Nat) :
    ∀ (rows : List ExceptionTableEntry) (S : State), s₀.WarmedH S.vm → S.heap[a]? = some cell → xRows e.platform s₀ f cell.cls h rows →
      ∃ vm', s₀.WarmedH vm' ∧ ∀ (Q : Handler → Pre) (E : CtlPost) (d : Bool) (acts : List Action), wp (findHandler.go f a rows) Q E e d acts S ↔ Q (.found h) d acts (S.setVm vm') := by
  intro rows
  induction rows with
  | nil => intro S _ _ hr; exact hr.elim
  | cons x t ih =>
    intro S hW hcell hr
    obtain ⟨hx, h0, c, hl, hcase⟩ := hr
    obtain ⟨k0, hk0⟩ := hk0
    obtain ⟨dk, _, _, kt, hd, _, _, _, _, hkt, _, hopen⟩ := hl.here
    have hl' := hW.classLinks hl
    obtain ⟨ha, ht⟩ := (resolveClass_links e.toSetting hl').op (op := VmOp.resolveClass f.method.cls x.catchType) rfl
    have hW1 : s₀.WarmedH (S.vm.noted f.method.cls x.catchType (.cls c)) := hW.noted hd hopen (State.rightAt_cls hl)
    obtain ⟨k1, hk1, -⟩ := hW1.alike.2.2 _ _ hk0
    obtain ⟨k2, hk2, -⟩ := hW1.alike.2.2 _ _ hkt
    have hx' : (decide (x.startPc ≤ f.pc) && decide (f.pc < x.endPc)) = true := hx
    rcases hcase with ⟨hfit, hh⟩ | ⟨hno, hr⟩
    · have hf : (S.vm.noted f.method.cls x.catchType (.cls c)).assignable cell.cls c = true := by rw [hW1.alike.assignable]; exact hfit
      refine ⟨_, hW1, fun Q E d acts => ?_⟩
      rw [← hh]
      simp [findHandler.go, hx', h0, ha, ht, hcell, hobj, hk1, hk2, hf, VmOp.dirties, VmOp.acts]
    · have hf : (S.vm.noted f.method.cls x.catchType (.cls c)).assignable cell.cls c = false := by rw [hW1.alike.assignable]; exact hno
      obtain ⟨vm', hW', hq⟩ := ih (S.setVm (S.vm.noted f.method.cls x.catchType (.cls c))) hW1 hcell hr
      refine ⟨vm', hW', fun Q E d acts => ?_⟩
      refine Iff.trans ?_ (hq Q E d acts)
      simp [findHandler.go, hx', h0, ha, ht, hcell, hobj, hk1, hk2, hf, VmOp.dirties, VmOp.acts]
theorem x_stepCatch {e : Env} {s : State} {a : Addr} {f : JFrame} {r : List Frame} {pc : Nat} {vm' : Vm} (hfind : ∀ (Q : Handler → Pre) (E : CtlPost) (d : Bool) (acts : List Action), wp (findHandler f a) Q E e d acts s ↔ Q (.found pc) d acts (s.setVm vm')) :
    (stepThrowing e s a (.java f :: r)).Is ((s.setVm vm').setFrames (.java { f with pc := pc, stack := [.ref a] } :: r)) [] := by
  simp only [stepThrowing, searchFrame, vmDo]
  generalize hr : Sem.go _ e false [] s = res
  obtain ⟨as, rfl, ha⟩ := Sem.eq_ok_of hr (a := Handler.found pc) (s' := s.setVm vm') (acts' := []) (by simp [hfind _ _ _ _])
  exact ⟨rfl, ha⟩
theorem x_caughtTo {tb : Tables} {e : Env} {s target : State} {g : JFrame} {c : Code} {below : List Frame} {a : Addr} (h : At s g.method c below) {pc : Nat} {vm' : Vm}
    (hfind : ∀ (Q : Handler → Pre) (E : CtlPost) (d : Bool) (acts : List Action), wp (findHandler g a) Q E e d acts ((s.setTop g).pushFrame (.throwing a)) ↔ Q (.found pc) d acts (((s.setTop g).pushFrame (.throwing a)).setVm vm'))
    (hrest : Steps tb e below ((s.setVm vm').setTop { g with pc := pc, stack := [.ref a] }) target) : Steps tb e below ((s.setTop g).pushFrame (.throwing a)) target := by
  obtain ⟨hgo, hw⟩ := h.throwing a
  refine Steps.head hgo hw ?_
  rw [stepThread_throwing (frames_entered h.top _), (x_stepCatch (s := (s.setTop g).pushFrame (.throwing a)) hfind).1]
  obtain ⟨g₀, hg⟩ := Option.isSome_iff_exists.mp h.top
  obtain ⟨r, hr⟩ := State.topJava?_eq_some.mp hg
  have hr' : (s.setVm vm').frames = .java g₀ :: r := hr
  have key : ∀ (u : State) (F G : List Frame), ((u.setFrames F).setVm vm').setFrames G = (u.setVm vm').setFrames G := fun u F G => by
    have h1 : (u.setFrames F).setVm vm' = (u.setVm vm').setFrames F := rfl
    rw [h1, State.setFrames_setFrames]
  rw [State.setTop_of_frames _ hr'] at hrest
  rw [hr, List.tail_cons, State.pushFrame, key, State.setTop_of_frames _ hr, key]
  exact hrest
/-- a row of the table as the word 'codeWith' has it -/
def xRowOf (own : String) (pc : Nat) (E : String) (h : Nat) : List (Nat × Nat × Nat × Nat) → List String → Prop
  | r :: t, nm :: u => r.1 ≤ pc ∧ pc < r.2.1 ∧ r.2.2.2 ≠ 0 ∧ Cond.classLink own r.2.2.2 nm ∈ xG ∧ ((nm = E ∧ E ∈ xTc ∧ r.2.2.1 = h) ∨ ((E, nm) ∈ xTn ∧ xRowOf own pc E h t u))
  | _, _ => False
theorem x_rows {args : Array Value} {s : State} {own : String} {pl : Platform} (hpl : pl.magicAccessors = ({} : Platform).magicAccessors) {f : JFrame} (hts : ∀ w ∈ xG, w.before args s = true) (hX : xX s) (hown : s.vm.findClass own = some f.method.cls) {E : String} {th : ClassId} (hth : s.vm.findClass E = some th) (h : Nat) :
    ∀ (rows : List ExceptionTableEntry) (hs : List (Nat × Nat × Nat × Nat)) (ns : List String), rows.map (fun h => (h.startPc, h.endPc, h.handlerPc, h.catchType)) = hs → xRowOf own f.pc E h hs ns → xRows pl s f th h rows := by
  intro rows
  induction rows with
  | nil => intro hs ns e hr; subst e; exact hr.elim
  | cons x t ih =>
    intro hs ns e hr
    subst e
    match ns, hr with
    | nm :: u, hr =>
      obtain ⟨a1, a2, a3, a4, a5⟩ := hr
      obtain ⟨c', hc', hcl⟩ := Cond.classLink_spec hown (hts _ a4) pl hpl
      refine ⟨by simp only [covers]; simp; exact ⟨a1, a2⟩, a3, c', hcl, ?_⟩
      rcases a5 with ⟨e1, e2, e3⟩ | ⟨e1, e2⟩
      · subst e1
        obtain ⟨c3, c4, hc3, hc4, hasg⟩ := Cond.castable_spec (hX.2.2.1 (.castable nm nm) (List.mem_append_left _ (List.mem_map.mpr ⟨nm, e2, rfl⟩)))
        cases hc3.symm.trans hth
        cases hc4.symm.trans hc'
        exact Or.inl ⟨hasg, e3⟩
      · obtain ⟨c3, c4, hc3, hc4, hno⟩ := hX.2.2.2 _ e1
        cases hc3.symm.trans hth
        cases hc4.symm.trans hc'
        exact Or.inr ⟨hno, ih _ _ rfl e2⟩
section XH
variable {p : Program} {l : Launch} {e : Env} {R : Room} {s : State} {m : MethodId} {args : Array Value} {below : List Frame} {meth : Method} {c : Code} {H : Heap} {locs : List Loc} {cells slots : Nat} {Z : State → Prop}
variable {cc : ByteArray} {nL pc : Nat} {own : String} {V : xV} {σ : xS} {ls : Array Slot} {rest : List Value}
/-- a call whose method throws; it is caught here -/
theorem x_tcatch (C : xC p s m args c cc nL own V) (hI : xI V s.heap σ s.heap []) (hX : xX s) {hs : List (Nat × Nat × Nat × Nat)} (hhs : c.exceptionTable.toList.map (fun h => (h.startPc, h.endPc, h.handlerPc, h.catchType)) = hs) {ns : List String} {hp : Nat} (hls : ls.size = nL) {d ci n idx maxL : Nat} (hd : d < 61) {fs : List Value} {T0 : u_T} {N : Nat} {y : MethodName} {bytes : ByteArray} {ret : Option FieldType} {rm : Room} {As : List Value} {E : String} {g : List Value}
    (hrow : xRowOf own pc E hp hs ns) (hM : xMt l y (.code y bytes maxL ret :: xG) rm V (.ref (V.2.2 d) :: As) σ E) (hE : xE V d (σ d) = .inr (ci, fs)) (hc : xcl[ci]? = some (y.cls, T0, N)) (hY : xY y bytes maxL ret n) (hl : Cond.methodLink own idx y ∈ xG) (hrc : rm.cells = 1) (hrs : rm.slots = 6) (hR : rm.frames + 1 ≤ R.frames ∧ 8 + (maxL + 11) + rm.locals ≤ R.locals)
    (hn : As.length = n) (hg : g = As.reverse ++ .ref (V.2.2 d) :: rest) (hw : (rest.map fun v => v.category).sum ≤ 8) (hdg : decode cc pc = .ok (.invokevirtual idx, 3)) (hf : 1 ≤ R.cells ∧ 6 ≤ R.slots)
    (kk : ∀ (H1 : Heap) (q : Nat), xI V s.heap σ H1 [] → W p l e R s m args below meth c H1 [] 1 6 Z (F0 m hp ls [.ref q])) :
    W p l e R s m args below meth c s.heap [] 0 0 Z (F0 m pc ls g) := by
  refine x_thrown C hI hX hls hd hM hE hc hY hl hrc hrs hR hn hg hw hdg hf (fun T q ce XS h1 h2 h3 h4 h5 => ?_)
  have hpl : e.platform.magicAccessors = ({} : Platform).magicAccessors := by rw [XS.admits.platform]
  have hrows := x_rows (f := F0 m pc ls rest) hpl C.2.2.2.2.1 hX C.2.2.2.1 h3 hp c.exceptionTable.toList hs ns hhs hrow
  have hk0 : ∃ k, s.vm.classes[ce.cls]? = some k := by obtain ⟨k9, h9, -⟩ := Vm.findClass_spec h3; exact ⟨k9, h9⟩
  obtain ⟨vm', hW', hq⟩ := x_find (e := e) (s₀ := s) (f := F0 m pc ls rest) (a := q) (cell := ce) (VmData.ne_statics_of (by rw [h2]; rfl)) hk0 hp c.exceptionTable.toList ((T.setTop (F0 m pc ls rest)).pushFrame (.throwing q)) XS.warmed h1 hrows
  have hI1 : xI V s.heap σ T.heap [] := ⟨hI.1.kept (fun k z hz => h4 z.1 ((hI.1 k z hz).lt)), hI.2.1, h5, fun x hx _ => h4 x hx, fun _ h => nomatch h⟩
  obtain ⟨t, a1, b1⟩ := kk T.heap q hI1 (T.setVm vm') rfl (XS.noted hW')
  refine ⟨t, x_caughtTo (g := F0 m pc ls rest) XS.here (fun Q E d acts => ?_) a1, b1⟩
  rw [_root_.Jvm.W.findHandler_eq (meth := meth) (code := c) XS.method' XS.code]
  exact hq Q E d acts
/-- contracts of the law's helpers -/
def xMh (l : Launch) (y : MethodName) (ws : List Cond) (rm : Room) (V : xV) (av : List Value) (σ : xS) (Q : Int32 → xS → Prop) : Prop :=
  ∀ sz : Nat, Met l y ws rm (va_Pc av (xPreT V sz σ)) (va_Qi Q (xPost V) (xA V sz)) 1 6 (xA V sz)
abbrev xZh (below : List Frame) (V : xV) (args : Array Value) (s : State) (Q : Int32 → xS → Prop) : State → Prop := MQ below (va_Qi Q (xPost V) (xA V s.heap.size)) args s 1 6 (xA V s.heap.size)
theorem x_beginh {y : MethodName} {bytes : ByteArray} {maxL : Nat} {ret : Option FieldType} {hh : List (Nat × Nat × Nat × Nat)} {rm : Room} {av : List Value} {Q : Int32 → xS → Prop} (hy : plainName y.cls = true) (hav : (lg_sl av).length ≤ maxL)
    (body : ∀ (p : Program) (e : Env) (s : State) (m : MethodId) (below : List Frame) (meth : Method) (c : Code) (ls : Array Slot), xC p s m av.toArray c bytes maxL y.cls V → meth.locks = false → meth.sig.returnType = ret → c.exceptionTable.toList.map (fun h => (h.startPc, h.endPc, h.handlerPc, h.catchType)) = hh → xI V s.heap σ s.heap [] → xX s → lv_has ls maxL (lv_args 0 av) →
      W p l e rm s m av.toArray below meth c s.heap [] 0 0 (xZh below V av.toArray s Q) (F0 m 0 ls [])) : xMh l y (.codeWith y bytes maxL ret hh :: xG) rm V av σ Q := by
  intro sz
  refine va_MetW (cc := bytes) (maxL := maxL) (ret := ret) (hh := hh) hy rfl ?_
  intro p e s m args below meth c s₁ B hml hv
  obtain ⟨rfl, ⟨hsz, hP, hD, hK⟩, hX⟩ := hv
  subst hsz
  have hts := atoms_spec (ws := .codeWith y bytes maxL ret hh :: xG) B.pre
  obtain ⟨m9, meth9, c9, hn9, hm9, hc9, -, -, hh9, -⟩ := Cond.codeWith_spec (hts _ List.mem_cons_self)
  have X₀ : Stand p l e rm s m av.toArray below meth c s₁ [] 0 0 := Stand.of_body B
  cases B.named.symm.trans hn9
  cases B.method.symm.trans hm9
  cases X₀.code.symm.trans hc9
  have hl := lv_entry av (n := maxL) hav
  rw [lg_entry_eq]
  exact body p e s m below meth c _ ⟨B.exec, B.bytes, hml, findClass_of_methodNamed B.named, fun w h => hts w (List.mem_cons_of_mem _ h), hK⟩ B.notSynchronized B.returns hh9 ⟨hP, xD_self hD, va_S.rf⟩ hX hl
theorem x_hret {Q : Int32 → xS → Prop} {v : Int32} (C : xC p s m args c cc nL own V) (hlocks : meth.locks = false) (hr : meth.sig.returnType = some .int) (hI : xI V s.heap σ H locs) (hc : cells ≤ 1) (hs : slots ≤ 6) (hQ : Q v σ) (hdg : decode cc pc = .ok (.ireturn, 1)) : W p l e R s m args below meth c H locs cells slots (xZh below V args s Q) (F0 m pc ls [.int v]) :=
  W.widen (k := 1) (n := 6) hc hs (W.iret (v := v) C.1 C.2.1 hr (fun t ht _ => ⟨⟨v, σ, rfl, hQ, by unfold xPost; rw [ht]; exact hI.1⟩, hI.2.2.F ht⟩) hI.2.2.2.2 hdg)
end XH
