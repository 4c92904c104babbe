theorem lpS {S : Type} (P : Nat → Nat → S → Prop) (I : Nat → S → Prop) (N : Nat) (h : ∀ n i s, i < N → I i s → (∀ s', I (i + 1) s' → P n (i + 1) s') → P (n + 1) i s) (hN : ∀ n s, I N s → P (n + 1) N s) {s : S} (h0 : I 0 s) : ∃ n, P n 0 s := by
  have key : ∀ d i s, i + d = N → I i s → P (d + 1) i s := by
    intro d
    induction d with
    | zero => intro i s hi hs; rw [show i = N by omega] at hs ⊢; exact hN 0 s hs
    | succ d ih => intro i s hi hs; exact h _ i s (by omega) hs (fun s' hs' => ih (i + 1) s' (by omega) hs')
  exact ⟨N + 1, key N 0 s (by omega) h0⟩
theorem lpM {S : Type} (P : Nat → S → Prop) (I : S → Prop) (m : S → Nat) (h : ∀ n s, I s → (∀ s', I s' → m s' < m s → P n s') → P (n + 1) s) {s : S} (h0 : I s) : ∃ n, P n s := by
  have key : ∀ b s, I s → m s < b → P b s := by
    intro b
    induction b with
    | zero => intro s _ hs; omega
    | succ b ih => intro s hs hb; exact h b s hs (fun s' hs' hm => ih s' hs' (by omega))
  exact ⟨m s + 1, key _ s h0 (by omega)⟩
noncomputable def cw (B : Nat → Prop) (ix : Nat → Nat) (v : Nat → Int32) (f : Nat → Int32) : Nat → Nat → Int32 := fun i => Nat.rec f (fun k g => @ite _ (B k) (Classical.propDecidable _) (upd g (ix k) (v k)) g) i
theorem cw_0 (B : Nat → Prop) (ix : Nat → Nat) (v : Nat → Int32) (f : Nat → Int32) : cw B ix v f 0 = f := rfl
theorem cw_y {B : Nat → Prop} (ix : Nat → Nat) (v : Nat → Int32) (f : Nat → Int32) {k : Nat} (h : B k) : upd (cw B ix v f k) (ix k) (v k) = cw B ix v f (k + 1) := (if_pos h).symm
theorem cw_n {B : Nat → Prop} (ix : Nat → Nat) (v : Nat → Int32) (f : Nat → Int32) {k : Nat} (h : ¬ B k) : cw B ix v f (k + 1) = cw B ix v f k := if_neg h
theorem cw_no {B : Nat → Prop} {ix : Nat → Nat} {v : Nat → Int32} {f : Nat → Int32} {p : Nat} : ∀ i : Nat, (∀ k, k < i → B k → ix k ≠ p) → cw B ix v f i p = f p := by
  intro i
  induction i with
  | zero => intro _; rfl
  | succ i ih =>
    intro h
    by_cases hb : B i
    · rw [← cw_y ix v f hb, upd_n _ _ (fun e => h i (by omega) hb e.symm)]
      exact ih (fun k hk => h k (by omega))
    · rw [cw_n ix v f hb]
      exact ih (fun k hk => h k (by omega))
theorem cw_at {B : Nat → Prop} {ix : Nat → Nat} {v : Nat → Int32} {f : Nat → Int32} {p k : Nat} : ∀ i : Nat, k < i → B k → ix k = p → (∀ j, k < j → j < i → B j → ix j = p → v j = v k) → cw B ix v f i p = v k := by
  intro i
  induction i with
  | zero => intro h; omega
  | succ i ih =>
    intro hk hb he hj
    by_cases e : k = i
    · subst e
      rw [← cw_y ix v f hb, he, upd_s]
    · by_cases hbi : B i
      · rw [← cw_y ix v f hbi]
        by_cases ei : ix i = p
        · rw [ei, upd_s]; exact hj i (by omega) (by omega) hbi ei
        · rw [upd_n _ _ (fun x => ei x.symm)]
          exact ih (by omega) hb he (fun j h1 h2 => hj j h1 (by omega))
      · rw [cw_n ix v f hbi]
        exact ih (by omega) hb he (fun j h1 h2 => hj j h1 (by omega))
theorem cw_c {B : Nat → Prop} {ix : Nat → Nat} {c : Int32} {f : Nat → Int32} {p : Nat} {i : Nat} {k : Nat} (hk : k < i) (hb : B k) (he : ix k = p) : cw B ix (fun _ => c) f i p = c :=
  cw_at (v := fun _ => c) i hk hb he (fun _ _ _ _ _ => rfl)
theorem cw_id {B : Nat → Prop} {v : Nat → Int32} {f : Nat → Int32} (i p : Nat) : (p < i → B p → cw B id v f i p = v p) ∧ (¬ (p < i ∧ B p) → cw B id v f i p = f p) :=
  ⟨fun h hb => cw_at i h hb rfl (fun j _ _ _ e => by rw [show j = p from e]), fun h => cw_no i (fun k hk hb e => h (by rw [← (show k = p from e)]; exact ⟨hk, hb⟩))⟩
noncomputable def sel (K : Nat → Prop) : Nat → Nat → Nat := fun i => Nat.rec (fun j => j) (fun k g => @ite _ (K k) (Classical.propDecidable _) (fun j => if j = cnt K k then k else g j) g) i
theorem sel_y {K : Nat → Prop} {i : Nat} (h : K i) : sel K (i + 1) = fun j => if j = cnt K i then i else sel K i j := if_pos h
theorem sel_n {K : Nat → Prop} {i : Nat} (h : ¬ K i) : sel K (i + 1) = sel K i := if_neg h
theorem sel_ge {K : Nat → Prop} : ∀ i j : Nat, i ≤ j → sel K i j = j := by
  intro i
  induction i with
  | zero => intro j _; rfl
  | succ i ih =>
    intro j hj
    by_cases h : K i
    · rw [sel_y h]
      have := cnt_le K i
      show (if j = cnt K i then i else sel K i j) = j
      rw [if_neg (by omega)]; exact ih j (by omega)
    · rw [sel_n h]; exact ih j (by omega)
theorem sel_in {K : Nat → Prop} : ∀ i j : Nat, j < cnt K i → sel K i j < i ∧ K (sel K i j) := by
  intro i
  induction i with
  | zero => intro j hj; exact absurd hj (Nat.not_lt_zero _)
  | succ i ih =>
    intro j hj
    by_cases h : K i
    · rw [sel_y h]
      rw [cnt_y K h] at hj
      show (if j = cnt K i then i else sel K i j) < i + 1 ∧ K (if j = cnt K i then i else sel K i j)
      by_cases e : j = cnt K i
      · rw [if_pos e]; exact ⟨by omega, h⟩
      · rw [if_neg e]; have := ih j (by omega); exact ⟨by omega, this.2⟩
    · rw [sel_n h]
      rw [cnt_n K h] at hj
      have := ih j hj; exact ⟨by omega, this.2⟩
theorem sel_mono {K : Nat → Prop} : ∀ i j k : Nat, j < k → k < cnt K i → sel K i j < sel K i k := by
  intro i
  induction i with
  | zero => intro j k _ hk; exact absurd hk (Nat.not_lt_zero _)
  | succ i ih =>
    intro j k hjk hk
    by_cases h : K i
    · rw [sel_y h]
      rw [cnt_y K h] at hk
      show (if j = cnt K i then i else sel K i j) < (if k = cnt K i then i else sel K i k)
      rw [if_neg (by omega)]
      by_cases e : k = cnt K i
      · rw [if_pos e]; exact (sel_in i j (by omega)).1
      · rw [if_neg e]; exact ih j k hjk (by omega)
    · rw [sel_n h]
      rw [cnt_n K h] at hk
      exact ih j k hjk hk
theorem sel_sur {K : Nat → Prop} : ∀ i m : Nat, m < i → K m → ∃ j, j < cnt K i ∧ sel K i j = m := by
  intro i
  induction i with
  | zero => intro m hm; omega
  | succ i ih =>
    intro m hm hK
    by_cases h : K i
    · rw [sel_y h, cnt_y K h]
      by_cases e : m = i
      · exact ⟨cnt K i, by omega, by rw [e]; exact if_pos rfl⟩
      · obtain ⟨j, hj, ej⟩ := ih m (by omega) hK
        exact ⟨j, by omega, by show (if j = cnt K i then i else sel K i j) = m; rw [if_neg (by omega)]; exact ej⟩
    · rw [sel_n h, cnt_n K h]
      exact ih m (by have : m ≠ i := fun e => h (e ▸ hK); omega) hK
noncomputable def kep (K : Nat → Prop) (f : Nat → Int32) (i : Nat) : Nat → Int32 := fun j => f (sel K i j)
theorem kep_0 (K : Nat → Prop) (f : Nat → Int32) : kep K f 0 = f := rfl
theorem kep_ge (K : Nat → Prop) (f : Nat → Int32) {i j : Nat} (h : i ≤ j) : kep K f i j = f j := by unfold kep; rw [sel_ge i j h]
theorem kep_y {K : Nat → Prop} (f : Nat → Int32) {i : Nat} (h : K i) : upd (kep K f i) (cnt K i) (f i) = kep K f (i + 1) := by
  funext j
  unfold kep
  rw [sel_y h]
  by_cases e : j = cnt K i
  · rw [e, upd_s]; dsimp only; rw [if_pos rfl]
  · rw [upd_n _ _ e]; dsimp only; rw [if_neg e]
theorem kep_n {K : Nat → Prop} (f : Nat → Int32) {i : Nat} (h : ¬ K i) : kep K f (i + 1) = kep K f i := by unfold kep; rw [sel_n h]
def rng (f : Nat → Int32) (a n : Nat) (v : Int32) : Nat → Int32 := fun p => if a ≤ p ∧ p < a + n then v else f p
theorem rng_y (f : Nat → Int32) {a n p : Nat} (v : Int32) (h : a ≤ p ∧ p < a + n) : rng f a n v p = v := if_pos h
theorem rng_n (f : Nat → Int32) {a n p : Nat} (v : Int32) (h : ¬ (a ≤ p ∧ p < a + n)) : rng f a n v p = f p := if_neg h
theorem rng_0 (f : Nat → Int32) (a : Nat) (v : Int32) : rng f a 0 v = f := by funext p; exact rng_n f v (by omega)
theorem rng_s (f : Nat → Int32) (a n : Nat) (v : Int32) : upd (rng f a n v) (a + n) v = rng f a (n + 1) v := by
  funext p
  by_cases e : p = a + n
  · rw [e, upd_s, rng_y _ _ (by omega)]
  · rw [upd_n _ _ e]
    by_cases h : a ≤ p ∧ p < a + n
    · rw [rng_y _ _ h, rng_y _ _ (by omega)]
    · rw [rng_n _ _ h, rng_n _ _ (by omega)]
theorem HeapR_e {s c : Nat → Int32} {A : Nat → Prop} {pl mn : Nat → Nat} {hd : Nat → Int32} {fs fc : Nat → Nat → Int32} (h : HeapR s c A pl mn hd fs fc) (hd' : lDis A pl mn) {u : Nat} (hu : A u) :
    HeapR (rng s (pl u) (mn u + 1) 4) (rng c (pl u) (mn u + 1) 0) (fun o => A o ∧ o ≠ u) pl mn hd fs fc := by
  refine ⟨fun o ho => ?_, fun o i ho hi => ?_, fun p hp hf => ?_⟩
  · have := hd' o u ho.1 hu ho.2
    rw [rng_n _ _ (by omega), rng_n _ _ (by omega)]
    exact h.1 o ho.1
  · have := hd' o u ho.1 hu ho.2
    rw [rng_n _ _ (by omega), rng_n _ _ (by omega)]
    exact h.2.1 o i ho.1 hi
  · by_cases hh : pl u ≤ p ∧ p < pl u + (mn u + 1)
    · rw [rng_y _ _ hh, rng_y _ _ hh]; exact ⟨rfl, rfl⟩
    · rw [rng_n _ _ hh, rng_n _ _ hh]
      refine h.2.2 p hp (fun o ho => ?_)
      by_cases e : o = u
      · rw [e]; omega
      · exact hf o ⟨ho, e⟩
theorem HeapR_A {s c : Nat → Int32} {A B : Nat → Prop} {pl mn : Nat → Nat} {hd : Nat → Int32} {fs fc : Nat → Nat → Int32} (h : HeapR s c A pl mn hd fs fc) (e : ∀ o, A o ↔ B o) : HeapR s c B pl mn hd fs fc :=
  ⟨fun o ho => h.1 o ((e o).mpr ho), fun o i ho hi => h.2.1 o i ((e o).mpr ho) hi, fun p hp hf => h.2.2 p hp (fun o ho => hf o ((e o).mp ho))⟩
theorem HeapR_P {s c : Nat → Int32} {A : Nat → Prop} {pl pl' mn mn' : Nat → Nat} {hd hd' : Nat → Int32} {fs fs' fc fc' : Nat → Nat → Int32} (h : HeapR s c A pl mn hd fs fc) (e : ∀ o, A o → pl' o = pl o ∧ mn' o = mn o ∧ hd' o = hd o ∧ ∀ i, i < mn o → fs' o i = fs o i ∧ fc' o i = fc o i) : HeapR s c A pl' mn' hd' fs' fc' := by
  refine ⟨fun o ho => ?_, fun o i ho hi => ?_, fun p hp hf => h.2.2 p hp (fun o ho => ?_)⟩
  · rw [(e o ho).1, (e o ho).2.2.1]; exact h.1 o ho
  · rw [(e o ho).2.1] at hi
    rw [(e o ho).1, ((e o ho).2.2.2 i hi).1, ((e o ho).2.2.2 i hi).2]; exact h.2.1 o i ho hi
  · have := hf o ho; rw [(e o ho).1, (e o ho).2.1] at this; exact this
theorem HeapR_h {s c : Nat → Int32} {A : Nat → Prop} {pl mn : Nat → Nat} {hd : Nat → Int32} {fs fc : Nat → Nat → Int32} (h : HeapR s c A pl mn hd fs fc) (h3 : ∀ o i, A o → i < mn o → fs o i ≠ 3) {p : Nat} (hp : p < 640) (e : s p = 3) : ∃ o, A o ∧ pl o = p := by
  by_cases hc : ∃ o, A o ∧ pl o ≤ p ∧ p ≤ pl o + mn o
  · obtain ⟨o, ho, ha, hb⟩ := hc
    by_cases e' : p = pl o
    · exact ⟨o, ho, e'.symm⟩
    · have := h.2.1 o (p - pl o - 1) ho (by omega)
      rw [show pl o + 1 + (p - pl o - 1) = p by omega, e] at this
      exact absurd this.1.symm (h3 o _ ho (by omega))
  · have := h.2.2 p hp (fun o ho => by
      by_cases h' : p < pl o
      · exact Or.inl h'
      · right
        by_cases h'' : pl o + mn o < p
        · exact h''
        · exact absurd ⟨o, ho, by omega, by omega⟩ hc)
    rw [e] at this
    exact absurd this.1 (by decide)
abbrev hp2 (σ : xS) (s c : Nat → Int32) : xS := va_up (va_up σ 28 s) 29 c
theorem hp2_s (σ : xS) (s c : Nat → Int32) (k : Nat) (v : Int32) : xu (va_up (va_up σ 28 s) 29 c) 28 k v = va_up (va_up σ 28 (upd s k v)) 29 c := by
  funext d j
  by_cases e : d = 28
  · subst e; rw [xu_cc, xf_c _ _ _ (by decide), xf_s, xf_c _ _ _ (by decide), xf_s]
  · rw [xu_c _ _ _ _ e]
    by_cases e' : d = 29
    · subst e'; rw [xf_s, xf_s]
    · rw [xf_c _ _ _ e', xf_c _ _ _ e, xf_c _ _ _ e', xf_c _ _ _ e]
theorem hp2_0 (σ : xS) : va_up (va_up σ 28 (σ 28)) 29 (σ 29) = σ := by rw [xf_0, xf_0]
theorem up2_s (σ : xS) {a b : Nat} (h : a ≠ b) (s c : Nat → Int32) (k : Nat) (v : Int32) : xu (va_up (va_up σ a s) b c) a k v = va_up (va_up σ a (upd s k v)) b c := by
  funext d j
  by_cases e : d = a
  · subst e; rw [xu_cc, xf_c _ _ _ h, xf_s, xf_c _ _ _ h, xf_s]
  · rw [xu_c _ _ _ _ e]
    by_cases e' : d = b
    · subst e'; rw [xf_s, xf_s]
    · rw [xf_c _ _ _ e', xf_c _ _ _ e, xf_c _ _ _ e', xf_c _ _ _ e]
theorem up2_0 (σ : xS) (a b : Nat) : va_up (va_up σ a (σ a)) b (σ b) = σ := by rw [xf_0, xf_0]
