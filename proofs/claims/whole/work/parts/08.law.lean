/-! the law's own rows -/
/-- a helper as a callee -/
def xYh (y : MethodName) (bytes : ByteArray) (maxL : Nat) (ret : Option FieldType) (hh : List (Nat × Nat × Nat × Nat)) (n : Nat) : Prop :=
  Cond.static y ∈ xG ∧ Cond.initialized y.cls ∈ xG ∧ Cond.codeWith y bytes maxL ret hh ∈ xG ∧ y.cls ≠ "java/lang/invoke/MethodHandle" ∧ y.cls ≠ "java/lang/invoke/VarHandle" ∧ (parseMethodDescriptor y.desc).map (fun d => d.parameters.length) = some n
section XLW
variable {p : Program} {l : Launch} {e : Env} {R : Room} {s : State} {m : MethodId} {args : Array Value} {below : List Frame} {meth : Method} {c : Code} {H : Heap} {locs : List Loc} {cells slots : Nat} {Z : State → Prop}
variable {cc : ByteArray} {nL pc : Nat} {own : String} {V : xV} {σ : xS} {ls : Array Slot} {rest : List Value}
theorem x_old {H0 : Heap} (hV : ∀ c, c < 61 → H0.size ≤ V.2.2 c) {q : Nat} (hq : q < H0.size) : ¬ xA V H0.size q := fun h => by
  rcases h with ⟨c, hc, rfl⟩ | h
  · have := hV c hc
    omega
  · omega
theorem x_callh (C : xC p s m args c cc nL own V) (hI : xI V s.heap σ H locs) (hX : xX s) (hV : ∀ c, c < 61 → s.heap.size ≤ V.2.2 c) (hls : ls.size = nL) {n idx maxL : Nat} {y : MethodName} {bytes : ByteArray} {ret : Option FieldType} {hh : List (Nat × Nat × Nat × Nat)} {rm : Room} {As : List Value} {Q : Int32 → xS → Prop} {g : List Value}
    (hM : xMh l y (.codeWith y bytes maxL ret hh :: xG) rm V As σ Q) (hY : xYh y bytes maxL ret hh n) (hl : Cond.methodLink own idx y ∈ xG) (hrc : rm.cells = 1) (hrs : rm.slots = 6) (hR : rm.frames + 1 ≤ R.frames ∧ 8 + (maxL + 11) + rm.locals ≤ R.locals)
    (hn : As.length = n) (hg : g = As.reverse ++ rest) (hw : (rest.map fun v => v.category).sum ≤ 8) (hdg : decode cc pc = .ok (.invokestatic idx, 3)) (hf : cells + 1 ≤ R.cells ∧ slots + 6 ≤ R.slots)
    (kk : ∀ (r : Int32) (τ : xS) (H1 : Heap) (locs1 : List Loc), Q r τ → xI V s.heap τ H1 locs1 → W p l e R s m args below meth c H1 locs1 (cells + 1) (slots + 6) Z (F0 m (pc + 3) ls (.int r :: rest))) : W p l e R s m args below meth c H locs cells slots Z (F0 m pc ls g) := by
  subst hg
  obtain ⟨hx, hb, hml, hown, hts, hK0⟩ := id C
  obtain ⟨y1, y2, y3, y4, y5, y6⟩ := hY
  have hws : ∀ w ∈ (.codeWith y bytes maxL ret hh :: xG), ∀ (a' : Array Value) (U : State), s.WarmedH U.vm → w.before a' U = true := by
    intro w hw a' U hW
    have hw' : w ∈ xG := (List.mem_cons.mp hw).elim (fun e => by rw [e]; exact y3) id
    exact word_at hW (good_of_word (xG_good hw')) (hts w hw')
  have hK : Back l R p e below s args y 3 8 (PreOf R 1 6 (va_Pc As (xPreT V H.size σ))) (PostOf (va_Qi Q (xPost V) (xA V H.size)) 1 6 (xA V H.size)) :=
    va_backW (hh := hh) (bytes := bytes) (maxL := maxL) (ret := ret) (hM H.size) xBlindT hrc hrs hR.1 hR.2 hws List.mem_cons_self (fun a' U hW => word_at hW (good_of_word (xG_good y2)) (hts _ y2))
  obtain ⟨mk, methM, cM, hnamed, hmethM, -, -, -, -, -, -, hsigM⟩ := Cond.codeWith_spec (hts _ y3)
  have hstatic : methM.isStatic = true := Cond.static_spec hnamed hmethM (hts _ y1)
  obtain ⟨kP, hkP, -⟩ := className_of_methodNamed hnamed
  have hinitP : kP.init = .initialized := Cond.initialized_spec (findClass_of_methodNamed hnamed) hkP (hts _ y2)
  have hlen : As.length = methM.sig.parameters.length := by
    rw [hsigM] at y6
    exact hn.trans (Option.some.inj y6).symm
  have hrun : va_Run p l e R s m args below meth c H locs cells slots 1 6 (F0 m pc ls (As.reverse ++ rest)) rest (va_Qi Q (xPost V) (xA V H.size) As.toArray) (xA V H.size) := by
    intro T hT X
    have hdg' : decode c.code (F0 m pc ls (As.reverse ++ rest)).pc = .ok (.invokestatic idx, 3) := by rw [hb]; exact hdg
    obtain ⟨vm₁, X₁, hstep₁⟩ := X.invokestatic hx hown (hts _ hl) hnamed hmethM hstatic hkP hinitP ⟨y4, y5⟩ (g := F0 m pc ls (As.reverse ++ rest)) rfl (argsL := As) (rest := rest) hlen rfl hdg'
    have hTU : (T.setVm vm₁).heap = H := hT
    obtain ⟨v, ⟨U', l2, c2, s2⟩, X', ⟨g', mk', t, L, e1, e2, hq, h1, hL, h2, h3⟩, hsteps⟩ := hK m meth c ⟨T.setVm vm₁, locs, cells, slots⟩ (F0 m pc ls rest) (.invokestatic idx) mk As.toArray X₁ rfl (hls.trans hml.symm) hdg' (lv_room hw) (X₁.named hnamed)
      ⟨hf.1, hf.2, rfl, ⟨by rw [hTU], by rw [hTU]; exact hI.1, ⟨hI.2.1.1, fun _ _ _ => trivial⟩, hK0.moved X₁.warmed⟩, hX.moved X₁.warmed (fun q cell hq _ => by
        rw [hTU, hI.2.2.2.1 q (Array.getElem?_eq_some_iff.mp hq).1 (x_old hV (Array.getElem?_eq_some_iff.mp hq).1)]; exact hq)⟩
    dsimp only [Pt.U, Pt.locs, Pt.cells, Pt.slots] at X' e1 e2 h1 h2 h3 hsteps
    subst h1; subst h2; subst h3
    exact ⟨v, (T.setVm vm₁).calling g' mk' As.toArray, t, U', L, hT, X', hL, e1, e2, hq, fun target h => hstep₁ _ fun acts => by rw [doInvoke_state]; exact hsteps.trans h⟩
  refine va_calli hrun hI.2.2 (fun q _ h => x_free hI q h) (x_free hI) (fun r u t H1 locs1 ht hvm hq hB hz hk hS => ?_)
  exact kk r u H1 locs1 hq ⟨by rw [← ht]; exact hB, xD_any hI.2.1, hS⟩
end XLW
