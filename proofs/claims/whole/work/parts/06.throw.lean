section XU
variable {p : Program} {l : Launch} {e : Env} {R : Room} {s : State} {m : MethodId} {args : Array Value} {below : List Frame} {meth : Method} {c : Code} {Z : State → Prop}
variable {cc : ByteArray} {nL pc : Nat} {own : String} {V : xV} {σ : xS} {ls : Array Slot} {rest : List Value}
/-- the words of a throw: the tables', and the four that speak of the heap -/
theorem x_atoms {L : List Cond} (hts : ∀ w ∈ xG, w.before args s = true) (hX : xX s) (h : ∀ w ∈ L, w ∈ xG ∨ w ∈ xTw ∨ w ∈ xTd) : ∀ w ∈ L, w.before args s = true := by
  intro w hw
  rcases h w hw with h | h | h
  · exact hts w h
  · have h1 := hX.1 w h
    unfold xTw at h
    rcases List.mem_cons.mp h with rfl | h
    · exact h1
    · rcases List.mem_cons.mp h with rfl | h
      · exact h1
      · rcases List.mem_cons.mp h with rfl | h
        · exact h1
        · rcases List.mem_cons.mp h with rfl | h
          · exact h1
          · exact absurd h List.not_mem_nil
  · exact va_any (x_tdot h) (hX.2.2.1 w h)
theorem x_throwS (hfl : l.flags = flags0) (C : xC p s m args c cc nL "RegionPool" V) (hlocks : meth.locks = false) (hem : c.exceptionTable.toList = []) (hX : xX s) (hls : ls.size = nL) {E : String} {names : List String} {ik is ic : Nat} {tx : String} (hstr : (is, tx) ∈ xStr)
    (hat : ∀ w ∈ Bundle.ownAtoms "RegionPool" ic E names, w ∈ xG ∨ w ∈ xTw ∨ w ∈ xTd) (hcl : Cond.classLink "RegionPool" ik E ∈ xG) (hin : Cond.instantiable E 6 ∈ xG) (hini : Cond.initialized E ∈ xG) (hfit : Bundle.fit E = true) (hnames : ∀ n ∈ names, Bundle.fit n = true)
    (hRf : names.length + 3 < R.frames) (hRl : 13 * (names.length + 1) + 43 ≤ R.locals) (hRc : 1 ≤ R.cells) (hRs : 6 ≤ R.slots)
    (d0 : decode cc pc = .ok (.new ik, 3)) (d3 : decode cc (pc + 3) = .ok (.dup, 1)) (d4 : decode cc (pc + 4) = .ok (.ldc is, 2)) (d6 : decode cc (pc + 6) = .ok (.invokespecial ic, 3)) (d9 : decode cc (pc + 9) = .ok (.athrow, 1)) :
    W p l e R s m args below meth c s.heap [] 0 0 (xZt E below args s) (F0 m pc ls []) := by
  obtain ⟨hx, hb, hml, hown, hts, hK⟩ := C
  obtain ⟨sa, hZ⟩ := hX.2.1 _ hstr
  refine W.newc (n := 6) (g := F0 m pc ls []) hx hb hown (hts _ hcl) (hts _ hin) (hts _ hini) rfl d0 (by omega) (by omega) (fun cX kX e1 e2 e3 e4 => ?_)
  refine lv_dup hx hb d3 rfl ?_
  refine va_ldcS hx hb hown hZ d4 ?_
  intro T hT X
  have htr : e.platform.stackTraces = false := Launch.traces_off hfl X.admits
  obtain ⟨U, hsteps, hrun, hend, hW, hsame, ce, hce, hO⟩ := X.ctorThrowS hx htr (own := "RegionPool") (cls := E) (names := names) (ic := ic) hown hfit hnames (x_atoms hts hX hat) (fun x hx => nomatch hx) e1 e2 (a := s.heap.size) (by rw [hT]; simp) (Nat.le_refl _) (msg := .ref sa) rfl (g := F0 m (pc + 3 + 1 + 2) ls [.ref sa, .ref s.heap.size, .ref s.heap.size]) rfl (hls.trans hml.symm) rfl rfl (rest := []) rfl (by rw [hb]; exact d6) (by rw [hb]; exact d9) (by rw [hem]; exact fun _ h => nomatch h) hRf (by simp only [JFrame.monitorRoom]; simp; simp [Value.category]; omega) hlocks
  exact ⟨U, hsteps, .threw s.heap.size, hrun, hend, s.heap.size, ce, rfl, hce, hO.vm, hO.cls, hW, hsame⟩
theorem x_cwT {y : MethodName} {bytes : ByteArray} {maxL n idx : Nat} {ret : Option FieldType} {rm : Room} (hts : ∀ w ∈ xG, w.before args s = true) (hY : xY y bytes maxL ret n) (hl : Cond.methodLink own idx y ∈ xG) (hrc : rm.cells = 1) (hrs : rm.slots = 6) (hR : rm.frames + 1 ≤ R.frames ∧ 8 + (maxL + 11) + rm.locals ≤ R.locals) :
    CallW R s args own y.cls idx y bytes maxL ret (.code y bytes maxL ret :: xG) rm 1 6 n := by
  obtain ⟨h1, h2, h3, h4, h5, h6, h7⟩ := hY
  refine ⟨callB_of n hts (fun w h => ?_) rfl hrc hrs (hts _ h3) (hts _ hl) ⟨h5, h6, h7⟩ hR, hts _ h1, hts _ h2⟩
  rcases List.mem_cons.mp h with rfl | h
  · exact ⟨h4, good_of_word (xG_good h4)⟩
  · exact ⟨h, good_of_word (xG_good h)⟩
/-- a call whose method throws: the exception lies over this frame -/
theorem x_thrown (C : xC p s m args c cc nL own V) (hI : xI V s.heap σ s.heap []) (hX : xX s) (hls : ls.size = nL) {d ci n idx maxL : Nat} (hd : d < 61) {fs : List Value} {T0 : u_T} {N : Nat} {y : MethodName} {bytes : ByteArray} {ret : Option FieldType} {rm : Room} {As : List Value} {E : String} {g : List Value}
    (hM : xMt l y (.code y bytes maxL ret :: xG) rm V (.ref (V.2.2 d) :: As) σ E) (hE : xE V d (σ d) = .inr (ci, fs)) (hc : xcl[ci]? = some (y.cls, T0, N)) (hY : xY y bytes maxL ret n) (hl : Cond.methodLink own idx y ∈ xG) (hrc : rm.cells = 1) (hrs : rm.slots = 6) (hR : rm.frames + 1 ≤ R.frames ∧ 8 + (maxL + 11) + rm.locals ≤ R.locals)
    (hn : As.length = n) (hg : g = As.reverse ++ .ref (V.2.2 d) :: rest) (hw : (rest.map fun v => v.category).sum ≤ 8) (hdg : decode cc pc = .ok (.invokevirtual idx, 3)) (hf : 1 ≤ R.cells ∧ 6 ≤ R.slots)
    (kk : ∀ (T : State) (q : Addr) (ce : Cell), Stand p l e R s m args below meth c T [] 1 6 → T.heap[q]? = some ce → ce.vm = .none → s.vm.findClass E = some ce.cls → (∀ x : Nat, x < s.heap.size → T.heap[x]? = s.heap[x]?) → s.heap.size ≤ T.heap.size → ∃ t, Steps p.tables e below ((T.setTop (F0 m pc ls rest)).pushFrame (.throwing q)) t ∧ Z t) :
    W p l e R s m args below meth c s.heap [] 0 0 Z (F0 m pc ls g) := by
  subst hg
  obtain ⟨⟨-, -, hfr0, hlo0, hws, hcw, hcode, hini, hy, hlen, hlk⟩, hin, hse⟩ := x_cwT (args := args) (s := s) (R := R) C.2.2.2.2.1 hY hl hrc hrs hR
  obtain ⟨cellB, hcB, hoB, hclB⟩ := x_recv C hI hd hE hc
  obtain ⟨hx, hb, hml, hown, hts, hK⟩ := id C
  intro T hT X
  obtain ⟨mk, methM, hnamed, hmethM, hstM, habM⟩ := Cond.instanceMethod_spec hin
  obtain ⟨methM', cM, hmethM', -, -, -, -, -, -, hsigM⟩ := Cond.code_spec hnamed hcode
  cases hmethM.symm.trans hmethM'
  obtain ⟨c2, r2, m2, q1, q2, q3, q4, kP, hkP, hkPi⟩ := Cond.selects_spec hse
  cases hclB.symm.trans q1
  cases (State.methodFound?_of_named hnamed hy).symm.trans q2
  cases hnamed.symm.trans q3
  have hselP : selectMethod e.platform s.vm cellB.cls mk = .method mk := by rw [Launch.admits_selectMethod X.admits]; exact q4
  have hdg' : decode c.code (F0 m pc ls (As.reverse ++ .ref (V.2.2 d) :: rest)).pc = .ok (.invokevirtual idx, 3) := by rw [hb]; exact hdg
  obtain ⟨vm₁, X₁, hstep₁⟩ := X.invokevirtual hx hown hlk hnamed hmethM hstM hkP hkPi hy (a := V.2.2 d) (cell := cellB) (by rw [hT]; exact hcB)
    (fun z h => by rw [h] at hoB; cases hoB) hselP hmethM habM hkP hkPi (g := F0 m pc ls (As.reverse ++ .ref (V.2.2 d) :: rest)) rfl (argsL := As) (rest := rest) (hn.trans (hlen _ hsigM)) rfl hdg'
  generalize hU : T.setVm vm₁ = U at X₁ hstep₁
  have hUh : U.heap = s.heap := by rw [← hU]; exact hT
  have hnU : U.methodNamed? y = some mk := X₁.named hnamed
  have h : At U m c below := X₁.here
  have h1 : (headSpec (.code y bytes maxL ret :: xG) rm).pre.before (Value.ref (V.2.2 d) :: As).toArray U = true := atoms_intro fun w hw => hws w hw _ _ X₁.warmed
  have h2 : (Cond.code y bytes maxL ret).before (Value.ref (V.2.2 d) :: As).toArray U = true := hws _ hcw _ _ X₁.warmed
  have h3 : (Cond.initialized y.cls).before (Value.ref (V.2.2 d) :: As).toArray U = true := word_at X₁.warmed (Or.inl (by first | rfl | simp [Cond.onTables, Cond.keeps, Cond.steady])) hini
  obtain ⟨methY, cY, hmY, hcY, -, hlY, -, -, -, -⟩ := Cond.code_spec hnU h2
  obtain ⟨kY, hkY, -⟩ := className_of_methodNamed hnU
  have hinitY : kY.init = .initialized := Cond.initialized_spec (findClass_of_methodNamed hnU) hkY h3
  have hroom := lv_room (m := m) (pc := pc) (ls := ls) (rest := rest) hw
  have happ : (headSpec (.code y bytes maxL ret :: xG) rm).appliesLoose y e.platform (U.calling (F0 m pc ls rest) mk (Value.ref (V.2.2 d) :: As).toArray) = true :=
    Spec.appliesLoose_calling (g := F0 m pc ls rest) h hdg' hnU hkY hinitY
      (X₁.room_calling (g := F0 m pc ls rest) (R' := rm) (hls.trans hml.symm) hmY hcY hfr0 (by rw [hlY]; show 2 * (F0 m pc ls rest).monitorRoom + (rest.map fun v => v.category).sum + (maxL + 11) + rm.locals ≤ R.locals; omega) (by rw [hrc]; omega) (by rw [hrs]; omega)) h1
  obtain ⟨mid, hmid⟩ := h.above
  have hfr : (U.setTop (F0 m pc ls rest)).frames = (.java (F0 m pc ls rest) :: mid) ++ below := by rw [State.frames_setTop' _ h.top, hmid]; rfl
  have hPc : va_Pc (.ref (V.2.2 d) :: As) (xPreT V s.heap.size σ) (Value.ref (V.2.2 d) :: As).toArray (U.calling (F0 m pc ls rest) mk (Value.ref (V.2.2 d) :: As).toArray) :=
    xBlindT _ U _ _ ⟨rfl, ⟨by rw [hUh], by rw [hUh]; exact hI.1, ⟨hI.2.1.1, fun _ _ _ => trivial⟩, hK.moved X₁.warmed⟩, hX.moved X₁.warmed (fun q cell hq _ => by rw [hUh]; exact hq)⟩
  obtain ⟨o, s₂, hsteps, -, hend, hq⟩ := Steps.callFree (hM s.heap.size) p X.admits X.cas X.clock (acts := []) hfr happ hPc trivial
  have hq' : xTh E (Value.ref (V.2.2 d) :: As).toArray (U.calling (F0 m pc ls rest) mk (Value.ref (V.2.2 d) :: As).toArray) o s₂ := hq
  obtain ⟨q, ce, rfl, hce, hcv, hcl, hW₂, hsm⟩ := hq'
  rw [State.frames_setTop' _ h.top] at hend
  have hf₂ : s₂.frames = .throwing q :: .java (F0 m pc ls rest) :: U.frames.tail := hend
  obtain ⟨g₀, hg0⟩ := Option.isSome_iff_exists.mp h.top
  obtain ⟨r, hr⟩ := State.topJava?_eq_some.mp hg0
  obtain ⟨e2, w2, w3, w4, w5, w6⟩ := id hsm
  have hW' : U.WarmedH s₂.vm := hW₂
  have e3 : s₂ = ({ (U.calling (F0 m pc ls rest) mk (Value.ref (V.2.2 d) :: As).toArray).setFrames s₂.frames with heap := s₂.heap, slotsUsed := s₂.slotsUsed } : State).setVm s₂.vm := by
    have h9 : s₂ = ({ s₂ with vm := (U.calling (F0 m pc ls rest) mk (Value.ref (V.2.2 d) :: As).toArray).vm } : State).setVm s₂.vm := rfl
    rw [e2] at h9
    exact h9
  have hr' : (({ U with heap := s₂.heap, slotsUsed := s₂.slotsUsed } : State).setVm s₂.vm).frames = .java g₀ :: r := hr
  have hs₂ : s₂ = ((({ U with heap := s₂.heap, slotsUsed := s₂.slotsUsed } : State).setVm s₂.vm).setTop (F0 m pc ls rest)).pushFrame (.throwing q) := by
    refine e3.trans ?_
    rw [hf₂, State.calling_eq h.top, State.setFrames_setFrames, State.pushFrame, State.frames_setTop _ hr', State.setTop_of_frames _ hr', State.setFrames_setFrames, hr]
    rfl
  have hsame : U.sameButNew ({ U with heap := s₂.heap, slotsUsed := s₂.slotsUsed } : State) [] 1 6 := by
    refine ⟨?_, w2, w3, w4, w5, w6⟩
    obtain ⟨t, ht, -⟩ := State.frames_cons hr
    show ({ U with heap := s₂.heap, slotsUsed := s₂.slotsUsed } : State) = { U.setFrames U.frames with heap := s₂.heap, slotsUsed := s₂.slotsUsed }
    rw [State.setFrames_self ht]
  have XS : Stand p l e R s m args below meth c (({ U with heap := s₂.heap, slotsUsed := s₂.slotsUsed } : State).setVm s₂.vm) [] 1 6 :=
    ⟨X.admits, X.cas, X.clock, X.frames, X.room, X.hears, X.method, X.code, (h.setHeapUsed s₂.heap s₂.slotsUsed).setVm hW'.alike, X₁.tail, State.WarmedH.trans X₁.warmed hW', X₁.limits, X₁.bytes, X₁.same.trans (hsame.setVm s.vm)⟩
  have hcl' : s.vm.findClass E = some ce.cls := by rw [← X₁.warmed.alike.findClass]; exact hcl
  have hold : ∀ x : Nat, x < s.heap.size → s₂.heap[x]? = s.heap[x]? := by
    intro x hx9
    obtain ⟨c9, z1, z2, z3, z4⟩ := w6 x _ (Array.getElem?_eq_getElem (xs := U.heap) (i := x) (by rw [hUh]; exact hx9))
    have hs9 : c9.slots = (U.heap[x]'(by rw [hUh]; exact hx9)).slots := Array.ext_getElem? fun i => z4 i (fun hm => nomatch hm)
    have h9 : c9 = U.heap[x]'(by rw [hUh]; exact hx9) := by
      rw [hs9] at z2
      exact z2
    have z5 : s₂.heap[x]? = some c9 := z1
    have hz : U.heap[x]? = s.heap[x]? := by rw [hUh]
    rw [z5, h9, ← hz, Array.getElem?_eq_getElem (by rw [hUh]; exact hx9)]
  have hsz : s.heap.size ≤ s₂.heap.size := by
    have : U.heap.size ≤ s₂.heap.size := w2
    rw [hUh] at this
    exact this
  obtain ⟨t, a1, b1⟩ := kk _ q ce XS hce hcv hcl' hold hsz
  rw [← hs₂] at a1
  exact ⟨t, hstep₁ _ (fun acts => by rw [doInvoke_state]; exact hsteps.trans a1), b1⟩
/-- .. and nobody catches it here -/
theorem x_tcall (C : xC p s m args c cc nL own V) (hI : xI V s.heap σ s.heap []) (hX : xX s) (hlocks : meth.locks = false) (hem : c.exceptionTable.toList = []) (hls : ls.size = nL) {d ci n idx maxL : Nat} (hd : d < 61) {fs : List Value} {T0 : u_T} {N : Nat} {y : MethodName} {bytes : ByteArray} {ret : Option FieldType} {rm : Room} {As : List Value} {E : String} {g : List Value}
    (hM : xMt l y (.code y bytes maxL ret :: xG) rm V (.ref (V.2.2 d) :: As) σ E) (hE : xE V d (σ d) = .inr (ci, fs)) (hc : xcl[ci]? = some (y.cls, T0, N)) (hY : xY y bytes maxL ret n) (hl : Cond.methodLink own idx y ∈ xG) (hrc : rm.cells = 1) (hrs : rm.slots = 6) (hR : rm.frames + 1 ≤ R.frames ∧ 8 + (maxL + 11) + rm.locals ≤ R.locals)
    (hn : As.length = n) (hg : g = As.reverse ++ .ref (V.2.2 d) :: rest) (hw : (rest.map fun v => v.category).sum ≤ 8) (hdg : decode cc pc = .ok (.invokevirtual idx, 3)) (hf : 1 ≤ R.cells ∧ 6 ≤ R.slots) :
    W p l e R s m args below meth c s.heap [] 0 0 (xZt E below args s) (F0 m pc ls g) := by
  refine x_thrown C hI hX hls hd hM hE hc hY hl hrc hrs hR hn hg hw hdg hf (fun T q ce XS h1 h2 h3 h4 h5 => ?_)
  obtain ⟨st1, hrun, hend, hW, hsm⟩ := XS.leaveThrown q (g := F0 m pc ls rest) rfl rfl rfl (by rw [hem]; exact fun _ h => nomatch h) hlocks
  exact ⟨_, st1, .threw q, hrun, hend, q, ce, rfl, h1, h2, h3, hW, hsm⟩
end XU
