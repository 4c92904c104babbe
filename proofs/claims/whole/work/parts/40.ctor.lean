/-! constructors: worlds that grow -/
def va_AOA (t : FieldType) (U : State) : Prop := (Cond.arrayOver (.array t)).before #[] U = true
theorem va_AOA.use {t : FieldType} {A : Array Value} {U : State} (h : va_AOA t U) : (Cond.arrayOver (.array t)).before A U = true := h
abbrev yTy (ka : Nat → ClassId) : List (ClassId × FieldType) := [(ka 0, .int), (ka 1, .boolean), (ka 2, .long), (ka 3, .array .int)]
def yK (D : va_G) (ka : Nat → ClassId) (U : State) : Prop := va_K D xcl (yTy ka) U ∧ va_AOA .int U
theorem yK.moved {D : va_G} {ka : Nat → ClassId} {u U : State} (h : u.vm.Alike U.vm) (hK : yK D ka u) : yK D ka U := ⟨va_K.moved h hK.1, over_moved (a := #[]) (a' := #[]) h hK.2⟩
def yC (p : Program) (s : State) (m : MethodId) (args : Array Value) (c : Code) (cc : ByteArray) (nL : Nat) (own : String) (D : va_G) (ka : Nat → ClassId) : Prop :=
  p.tables.exec = Jvm.exec ∧ c.code = cc ∧ c.maxLocals = nL ∧ s.vm.findClass own = some m.cls ∧ (∀ w ∈ xG, w.before args s = true) ∧ yK D ka s
def yJ (D : va_G) (A : Nat → Prop) (H0 : Heap) (ws : va_W) (H : Heap) (locs : List Loc) : Prop := va_P D xcl ws H ∧ va_D A ws ∧ va_S A H0 H locs ∧ ∀ q, H0.size ≤ q → A q
def yM (l : Launch) (y : MethodName) (wd : List Cond) (rm : Room) (D : va_G) (ka : Nat → ClassId) (av : List Value) (w0 : va_W) (w1 : (Nat → Nat) → va_W) (mc ms : Nat) : Prop :=
  ∀ sz : Nat, Met l y wd rm (va_Pc av (fun U => U.heap.size = sz ∧ va_P D xcl w0 U.heap ∧ va_D (fun _ => True) w0 ∧ yK D ka U)) (va_Qv (fun _ : Nat → Nat => True) (fun a t => va_P D xcl (w1 a) t.heap ∧ va_D (va_A w0 sz) (w1 a)) (va_A w0 sz)) mc ms (va_A w0 sz)
abbrev yZ (below : List Frame) (D : va_G) (args : Array Value) (s : State) (w0 : va_W) (w1 : (Nat → Nat) → va_W) (mc ms : Nat) : State → Prop := MQ below (va_Qv (fun _ : Nat → Nat => True) (fun a t => va_P D xcl (w1 a) t.heap ∧ va_D (va_A w0 s.heap.size) (w1 a)) (va_A w0 s.heap.size)) args s mc ms (va_A w0 s.heap.size)
theorem yBlind {D : va_G} {ka : Nat → ClassId} {sz : Nat} {w0 : va_W} {av : List Value} : FrameBlind (va_Pc av (fun U => U.heap.size = sz ∧ va_P D xcl w0 U.heap ∧ va_D (fun _ => True) w0 ∧ yK D ka U)) := fun a U g mk q => by
  obtain ⟨q0, q1, q2, q3, q4⟩ := q
  exact ⟨q0, q1, q2, q3, yK.moved (u := U) (U := U.calling g mk a) (Vm.Alike.refl U.vm) q4⟩
section YY
variable {p : Program} {l : Launch} {e : Env} {R : Room} {s : State} {m : MethodId} {args : Array Value} {below : List Frame} {meth : Method} {c : Code} {H : Heap} {locs : List Loc} {cells slots : Nat} {Z : State → Prop}
variable {cc : ByteArray} {nL pc : Nat} {own : String} {D : va_G} {ka : Nat → ClassId} {A : Nat → Prop} {H0 : Heap} {ws : va_W} {ls : Array Slot} {rest : List Value}
theorem y_begin {y : MethodName} {bytes : ByteArray} {maxL : Nat} {rm : Room} {av : List Value} {w0 : va_W} {w1 : (Nat → Nat) → va_W} {mc ms : Nat} (hy : plainName y.cls = true) (hav : (lg_sl av).length ≤ maxL)
    (body : ∀ (p : Program) (e : Env) (s : State) (m : MethodId) (below : List Frame) (meth : Method) (c : Code) (ls : Array Slot), yC p s m av.toArray c bytes maxL y.cls D ka → meth.locks = false → meth.sig.returnType = none → meth.name = y.name → yJ D (va_A w0 s.heap.size) s.heap w0 s.heap [] → lv_has ls maxL (lv_args 0 av) →
      W p l e rm s m av.toArray below meth c s.heap [] 0 0 (yZ below D av.toArray s w0 w1 mc ms) (F0 m 0 ls [])) : yM l y (.code y bytes maxL none :: xG) rm D ka av w0 w1 mc ms := by
  intro sz
  refine Met.ofW (cc := bytes) (maxL := maxL) (ret := none) hy rfl ?_
  intro p e s m args below meth c s₁ B hml hv
  obtain ⟨rfl, hsz, hP, hD, hK⟩ := hv
  subst hsz
  have hts := atoms_spec (ws := .code y bytes maxL none :: xG) B.pre
  have hl := lv_entry av (n := maxL) hav
  rw [lg_entry_eq]
  exact body p e s m below meth c _ ⟨B.exec, B.bytes, hml, findClass_of_methodNamed B.named, fun w h => hts w (List.mem_cons_of_mem _ h), hK⟩ B.notSynchronized B.returns (name_of_methodNamed B.named B.method).1 ⟨hP, hD.self, va_S.rf, fun q h => Or.inr h⟩ hl
theorem y_ret {w0 : va_W} {w1 : (Nat → Nat) → va_W} {mc ms : Nat} (C : yC p s m args c cc nL own D ka) (hlocks : meth.locks = false) (hr : meth.sig.returnType = none) (hJ : yJ D (va_A w0 s.heap.size) s.heap ws H locs) (a : Nat → Nat) (hw : ws = w1 a) (hc : cells ≤ mc) (hs : slots ≤ ms) (hdg : decode cc pc = .ok (.return_, 1)) : W p l e R s m args below meth c H locs cells slots (yZ below D args s w0 w1 mc ms) (F0 m pc ls []) := by
  subst hw
  exact W.widen hc hs (W.vret C.1 C.2.1 hr (fun t ht _ => ⟨⟨a, rfl, trivial, by rw [ht]; exact hJ.1, hJ.2.1⟩, hJ.2.2.1.F ht⟩) hJ.2.2.1.2.2 hdg)
/-- a cell in the world's order may be chosen anew -/
theorem yJ.re {w' : va_W} (hJ : yJ D A H0 ws H locs) (is : List Nat) (hn : va_nd is = true) (hs : is.map (fun i => ws[i]?) = w'.map some) : yJ D A H0 w' H locs := by
  have hP : va_P D xcl w' H := by
    intro k q hk
    have h1 : (is.map (fun i => ws[i]?))[k]? = some (some q) := by rw [hs, List.getElem?_map, hk]; rfl
    rw [List.getElem?_map] at h1
    cases hi : is[k]? with
    | none => rw [hi] at h1; cases h1
    | some i => rw [hi] at h1; exact hJ.1 i q (Option.some.inj h1)
  exact ⟨hP, hJ.2.1.sub is hn hs, hJ.2.2⟩
theorem y_obj (C : yC p s m args c cc nL own D ka) (hls : ls.size = nL) {idx : Nat} (hl : Cond.methodLink own idx objectInit ∈ xG) (hi : Cond.instanceMethod objectInit ∈ xG) (hc : Cond.code objectInit ⟨#[0xb1]⟩ 1 none ∈ xG) {a : Nat} (hdg : decode cc pc = .ok (.invokespecial idx, 3)) (hf : 1 ≤ R.frames) (hL : 12 ≤ R.locals)
    (kk : W p l e R s m args below meth c H locs cells slots Z (F0 m (pc + 3) ls [])) : W p l e R s m args below meth c H locs cells slots Z (F0 m pc ls [.ref a]) := by
  refine W.objInit (g := F0 m pc ls [.ref a]) C.1 C.2.1 C.2.2.2.1 (C.2.2.2.2.1 _ hl) (C.2.2.2.2.1 _ hi) (C.2.2.2.2.1 _ hc) rfl (hls.trans C.2.2.1.symm) rfl hdg hf ?_ kk
  simp only [JFrame.monitorRoom]
  simp
  omega
theorem y_new (C : yC p s m args c cc nL own D ka) (hJ : yJ D A s.heap ws H locs) {ci idx : Nat} {CN : String} {T : u_T} {N : Nat} (hcl : xcl[ci]? = some (CN, T, N)) (hin : ∀ w ∈ u_ws CN T N, w ∈ xG) (ty : Nat → FieldType) (hty : ∀ k, k < N → parseFieldDescriptor (T k).2.2.1 = some (ty k)) (h1 : Cond.classLink own idx CN ∈ xG) (h2 : Cond.instantiable CN N ∈ xG) (h3 : Cond.initialized CN ∈ xG) {fs : List Value} (hfs : ∀ j, j < N → defaultValue (ty j) = vp_V fs j) (hc : cells + 1 ≤ R.cells) (hs : slots + N ≤ R.slots) (hdg : decode cc pc = .ok (.new idx, 3))
    (kk : ∀ (q : Nat) (H1 : Heap), yJ D A s.heap (ws ++ [(q, .inr (ci, fs))]) H1 locs → W p l e R s m args below meth c H1 locs (cells + 1) (slots + N) Z (F0 m (pc + 3) ls (.ref q :: rest))) : W p l e R s m args below meth c H locs cells slots Z (F0 m pc ls rest) :=
  va_new C.1 C.2.1 C.2.2.2.2.1 hin ty hty C.2.2.2.1 (C.2.2.2.2.1 _ h1) (C.2.2.2.2.1 _ h2) (C.2.2.2.2.1 _ h3) C.2.2.2.2.2.1 hJ.1 hJ.2.1 hJ.2.2.1 hJ.2.2.2 hcl hfs hc hs hdg (fun q H1 a1 a2 a3 => kk q H1 ⟨a1, a2, a3, hJ.2.2.2⟩)
theorem y_newi (C : yC p s m args c cc nL own D ka) (hJ : yJ D A s.heap ws H locs) (ha : Cond.arrayClass .int ∈ xG) {n : Int32} {N : Nat} (hn : ¬ n < 0) (hN : n.toNatClampNeg = N) (hb4 : N * 4 ≤ 536870912) (hc : cells + 1 ≤ R.cells) (hs : slots + N ≤ R.slots) (hdg : decode cc pc = .ok (.newarray .int, 2))
    (kk : ∀ (q : Nat) (H1 : Heap), yJ D A s.heap (ws ++ [(q, .inl (ka 0, N, .inl (fun _ => 0)))]) H1 locs → W p l e R s m args below meth c H1 locs (cells + 1) (slots + N) Z (F0 m (pc + 2) ls (.ref q :: rest))) : W p l e R s m args below meth c H locs cells slots Z (F0 m pc ls (.int n :: rest)) := by
  refine va_newa (atype := .int) (ty := .int) (a0 := (N, .inl (fun _ => 0))) C.1 C.2.1 (C.2.2.2.2.1 _ ha) rfl C.2.2.2.2.2.1 hJ.1 hJ.2.1 hJ.2.2.1 hJ.2.2.2 (fun cA => rfl) hn hN hb4 hc hs hdg (fun q cA H1 a0 a1 a2 a3 => ?_)
  have e1 : s.vm.findClass ("[" ++ (FieldType.int).toString) = some cA := (a0.2 4 _ rfl).2
  have e2 : s.vm.findClass ("[" ++ (FieldType.int).toString) = some (ka 0) := (C.2.2.2.2.2.1.2 0 _ rfl).2
  cases Option.some.inj (e1.symm.trans e2)
  exact kk q H1 ⟨a1, a2, a3, hJ.2.2.2⟩
theorem y_newz (C : yC p s m args c cc nL own D ka) (hJ : yJ D A s.heap ws H locs) (ha : Cond.arrayClass .boolean ∈ xG) {n : Int32} {N : Nat} (hn : ¬ n < 0) (hN : n.toNatClampNeg = N) (hb4 : N * 1 ≤ 536870912) (hc : cells + 1 ≤ R.cells) (hs : slots + N ≤ R.slots) (hdg : decode cc pc = .ok (.newarray .boolean, 2))
    (kk : ∀ (q : Nat) (H1 : Heap), yJ D A s.heap (ws ++ [(q, .inl (ka 1, N, .inl (fun _ => 0)))]) H1 locs → W p l e R s m args below meth c H1 locs (cells + 1) (slots + N) Z (F0 m (pc + 2) ls (.ref q :: rest))) : W p l e R s m args below meth c H locs cells slots Z (F0 m pc ls (.int n :: rest)) := by
  refine va_newa (atype := .boolean) (ty := .boolean) (a0 := (N, .inl (fun _ => 0))) C.1 C.2.1 (C.2.2.2.2.1 _ ha) rfl C.2.2.2.2.2.1 hJ.1 hJ.2.1 hJ.2.2.1 hJ.2.2.2 (fun cA => rfl) hn hN hb4 hc hs hdg (fun q cA H1 a0 a1 a2 a3 => ?_)
  have e1 : s.vm.findClass ("[" ++ (FieldType.boolean).toString) = some cA := (a0.2 4 _ rfl).2
  have e2 : s.vm.findClass ("[" ++ (FieldType.boolean).toString) = some (ka 1) := (C.2.2.2.2.2.1.2 1 _ rfl).2
  cases Option.some.inj (e1.symm.trans e2)
  exact kk q H1 ⟨a1, a2, a3, hJ.2.2.2⟩
theorem y_newl (C : yC p s m args c cc nL own D ka) (hJ : yJ D A s.heap ws H locs) (ha : Cond.arrayClass .long ∈ xG) {n : Int32} {N : Nat} (hn : ¬ n < 0) (hN : n.toNatClampNeg = N) (hb4 : N * 8 ≤ 536870912) (hc : cells + 1 ≤ R.cells) (hs : slots + N ≤ R.slots) (hdg : decode cc pc = .ok (.newarray .long, 2))
    (kk : ∀ (q : Nat) (H1 : Heap), yJ D A s.heap (ws ++ [(q, .inl (ka 2, N, .inr (.inl (fun _ => 0))))]) H1 locs → W p l e R s m args below meth c H1 locs (cells + 1) (slots + N) Z (F0 m (pc + 2) ls (.ref q :: rest))) : W p l e R s m args below meth c H locs cells slots Z (F0 m pc ls (.int n :: rest)) := by
  refine va_newa (atype := .long) (ty := .long) (a0 := (N, .inr (.inl (fun _ => 0)))) C.1 C.2.1 (C.2.2.2.2.1 _ ha) rfl C.2.2.2.2.2.1 hJ.1 hJ.2.1 hJ.2.2.1 hJ.2.2.2 (fun cA => rfl) hn hN hb4 hc hs hdg (fun q cA H1 a0 a1 a2 a3 => ?_)
  have e1 : s.vm.findClass ("[" ++ (FieldType.long).toString) = some cA := (a0.2 4 _ rfl).2
  have e2 : s.vm.findClass ("[" ++ (FieldType.long).toString) = some (ka 2) := (C.2.2.2.2.2.1.2 2 _ rfl).2
  cases Option.some.inj (e1.symm.trans e2)
  exact kk q H1 ⟨a1, a2, a3, hJ.2.2.2⟩
theorem y_get (C : yC p s m args c cc nL own D ka) (hJ : yJ D A s.heap ws H locs) (q0 : Nat) {a ci k idx : Nat} {fs : List Value} {v : Value} (he : ws[q0]? = some (a, .inr (ci, fs))) (hF : xFd own idx ci k) (hv : fs[k]? = some v) (hdg : decode cc pc = .ok (.getfield idx, 3))
    (kk : W p l e R s m args below meth c H locs cells slots Z (F0 m (pc + 3) ls (v :: rest))) : W p l e R s m args below meth c H locs cells slots Z (F0 m pc ls (.ref a :: rest)) := by
  obtain ⟨CN, T, N, h1, h2, h3, h4⟩ := hF
  exact va_get C.1 C.2.1 C.2.2.2.2.1 h2 C.2.2.2.1 C.2.2.2.2.2.1 hJ.1 q0 he h1 k h3 (C.2.2.2.2.1 _ h4) (fun _ h => h) hv hdg kk
/-- a final field that holds a reference -/
def yFw (own : String) (idx ci k : Nat) : Prop := ∃ (CN : String) (T : u_T) (N : Nat) (ty : Nat → FieldType) (t : FieldType), xcl[ci]? = some (CN, T, N) ∧ (∀ w ∈ u_ws CN T N, w ∈ xG) ∧ k < N ∧ Cond.fieldLink own idx (T k).1 (T k).2.1 (T k).2.2.1 ∈ xG ∧ (∀ k, k < N → parseFieldDescriptor (T k).2.2.1 = some (ty k)) ∧ (∀ a, a < N → ∀ b, b < N → a ≠ b → (T a).2.1 ≠ (T b).2.1) ∧ (T k).2.2.2 = true ∧ (T k).1 = own ∧ parseFieldDescriptor (T k).2.2.1 = some t ∧ ((∃ n, t = .object n) ∨ ∃ u, t = .array u)
theorem y_putF (C : yC p s m args c cc nL own D ka) (hin : meth.name = "<init>") (hJ : yJ D A s.heap ws H locs) (q0 : Nat) {a ci k idx x : Nat} {fs : List Value} (he : ws[q0]? = some (a, .inr (ci, fs))) (hF : yFw own idx ci k) (hk : k < fs.length) (hdg : decode cc pc = .ok (.putfield idx, 3))
    (kk : ∀ (H1 : Heap) (locs1 : List Loc), yJ D A s.heap (ws.set q0 (a, .inr (ci, fs.set k (.ref x)))) H1 locs1 → W p l e R s m args below meth c H1 locs1 cells slots Z (F0 m (pc + 3) ls rest)) : W p l e R s m args below meth c H locs cells slots Z (F0 m pc ls (.ref x :: .ref a :: rest)) := by
  obtain ⟨CN, T, N, ty, t, h1, h2, h3, h4, h5, h6, h7, h8, h9, h10⟩ := hF
  have hn : narrow t (.ref x) = .ref x ∧ fits t (.ref x) = true := by
    rcases h10 with ⟨n, rfl⟩ | ⟨u, rfl⟩ <;> exact ⟨rfl, rfl⟩
  exact va_putF (ty := t) (v := .ref x) C.1 C.2.1 C.2.2.2.2.1 h2 ty h5 h6 C.2.2.2.1 C.2.2.2.2.2.1 hJ.1 hJ.2.1 hJ.2.2.1 q0 he h1 k h3 (C.2.2.2.2.1 _ h4) (fun _ h => h) h7 hin h8 h9 hn.1 hn.2 hk hdg (fun H1 locs1 a1 a2 a3 => kk H1 locs1 ⟨a1, a2, a3, hJ.2.2.2⟩)
theorem y_put (C : yC p s m args c cc nL own D ka) (hJ : yJ D A s.heap ws H locs) (q0 : Nat) {a ci k idx : Nat} {x : Int32} {fs : List Value} (he : ws[q0]? = some (a, .inr (ci, fs))) (hF : xFw own idx ci k) (hk : k < fs.length) (hdg : decode cc pc = .ok (.putfield idx, 3))
    (kk : ∀ (H1 : Heap) (locs1 : List Loc), yJ D A s.heap (ws.set q0 (a, .inr (ci, fs.set k (.int x)))) H1 locs1 → W p l e R s m args below meth c H1 locs1 cells slots Z (F0 m (pc + 3) ls rest)) : W p l e R s m args below meth c H locs cells slots Z (F0 m pc ls (.int x :: .ref a :: rest)) := by
  obtain ⟨CN, T, N, ty, h1, h2, h3, h4, h5, h6, h7, h8⟩ := hF
  exact va_put (ty := .int) (v := .int x) C.1 C.2.1 C.2.2.2.2.1 h2 ty h5 h6 C.2.2.2.1 C.2.2.2.2.2.1 hJ.1 hJ.2.1 hJ.2.2.1 q0 he h1 k h3 (C.2.2.2.2.1 _ h4) (fun _ h => h) h7 h8 rfl rfl hk hdg (fun H1 locs1 a1 a2 a3 => kk H1 locs1 ⟨a1, a2, a3, hJ.2.2.2⟩)
/-- a constructor as a callee -/
def yY (y : MethodName) (bytes : ByteArray) (maxL n : Nat) : Prop :=
  Cond.instanceMethod y ∈ xG ∧ Cond.initialized y.cls ∈ xG ∧ Cond.code y bytes maxL none ∈ xG ∧ y.name = "<init>" ∧ y.cls ≠ "java/lang/invoke/MethodHandle" ∧ y.cls ≠ "java/lang/invoke/VarHandle" ∧ (parseMethodDescriptor y.desc).map (fun d => d.parameters.length) = some n
theorem y_good {y : MethodName} {bytes : ByteArray} {maxL : Nat} (h4 : Cond.code y bytes maxL none ∈ xG) : GoodIn xG (.code y bytes maxL none :: xG) := fun w h => by
  rcases List.mem_cons.mp h with rfl | h
  · exact ⟨h4, good_of_word (xG_good h4)⟩
  · exact ⟨h, good_of_word (xG_good h)⟩
theorem y_callI (C : yC p s m args c cc nL own D ka) (hJ : yJ D A s.heap ws H locs) (hls : ls.size = nL) {n idx maxL mc ms b : Nat} {y : MethodName} {bytes : ByteArray} {rm : Room} {As : List Value} {w0 wr : va_W} {w1 : (Nat → Nat) → va_W} {g : List Value}
    (isC isR : List Nat) (hC : isC.map (fun i => ws[i]?) = w0.map some) (hRr : isR.map (fun i => ws[i]?) = wr.map some) (hnC : va_nd isC = true) (hnR : va_nd isR = true) (hdis : ∀ i ∈ isR, i ∉ isC)
    (hM : yM l y (.code y bytes maxL none :: xG) rm D ka (.ref b :: As) w0 w1 mc ms) (hY : yY y bytes maxL n) (hl : Cond.methodLink own idx y ∈ xG) (hrc : rm.cells = mc) (hrs : rm.slots = ms) (hR : rm.frames + 1 ≤ R.frames ∧ 8 + (maxL + 11) + rm.locals ≤ R.locals)
    (hn : As.length = n) (hg : g = As.reverse ++ .ref b :: rest) (hw : (rest.map fun v => v.category).sum ≤ 8) (hdg : decode cc pc = .ok (.invokespecial idx, 3)) (hf : cells + mc ≤ R.cells ∧ slots + ms ≤ R.slots)
    (kk : ∀ (a : Nat → Nat) (H1 : Heap) (locs1 : List Loc), yJ D A s.heap (wr ++ w1 a) H1 locs1 → W p l e R s m args below meth c H1 locs1 (cells + mc) (slots + ms) Z (F0 m (pc + 3) ls rest)) : W p l e R s m args below meth c H locs cells slots Z (F0 m pc ls g) := by
  subst hg
  obtain ⟨h1, h3, h4, h5, h6, h7, h8⟩ := hY
  have hJc := hJ.re isC hnC hC
  have hFc := va_free (wc := w0) hJ.2.1 hJ.2.2.1 hJ.2.2.2 isC hC
  refine va_callv (va_runI (As := As) (rest := rest) (Ts := xG) (nL := nL) ⟨C.1, C.2.1, C.2.2.1, C.2.2.2.1, C.2.2.2.2.1⟩ (hM H.size) ⟨callB_of n C.2.2.2.2.1 (y_good h4) rfl hrc hrs (C.2.2.2.2.1 _ h3) (C.2.2.2.2.1 _ hl) ⟨h6, h7, h8⟩ hR, h5, C.2.2.2.2.1 _ h1⟩ ⟨yBlind, fun U hU hW => ⟨rfl, by rw [hU], by rw [hU]; exact hJc.1, ⟨hJc.2.1.1, fun _ _ _ => trivial⟩, yK.moved hW.alike C.2.2.2.2.2⟩⟩ rfl hn hls rfl (lv_room hw) hdg hf) hJ.2.2.1 (fun q _ h => hFc q h) hFc (fun a t H1 locs1 ht hvm hq hB hz hk hS => ?_)
  obtain ⟨hP1, hD1⟩ := hB
  rw [ht] at hP1
  obtain ⟨hP, hD⟩ := va_join (wr := wr) (w1 := w1 a) hJ.1 hJ.2.1 isC isR hC hRr hnR hdis hk hFc hP1 hD1
  exact kk a H1 locs1 ⟨hP, hD, hS, hJ.2.2.2⟩
end YY
