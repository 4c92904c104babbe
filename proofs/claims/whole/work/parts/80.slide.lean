theorem cnt_rem {P Q : Nat → Prop} {n k : Nat} (h : ∀ j, j < n → (P j ↔ Q j ∧ j ≠ k)) (hk : k < n) (hq : Q k) : cnt P n + 1 = cnt Q n := by
  induction n with
  | zero => omega
  | succ n ih =>
    by_cases e : k = n
    · subst e
      have hp : ¬ P k := fun x => ((h k (by omega)).mp x).2 rfl
      rw [cnt_n P hp, cnt_y Q hq]
      have : cnt P k = cnt Q k := cnt_iff (fun j hj => ⟨fun x => ((h j (by omega)).mp x).1, fun x => (h j (by omega)).mpr ⟨x, by omega⟩⟩)
      omega
    · have := ih (fun j hj => h j (by omega)) (by omega)
      by_cases hp : P n
      · rw [cnt_y P hp, cnt_y Q ((h n (by omega)).mp hp).1]; omega
      · rw [cnt_n P hp, cnt_n Q (fun x => hp ((h n (by omega)).mpr ⟨x, by omega⟩))]; omega
theorem vu_s (f : Nat → Nat) (k v : Nat) : va_up f k v k = v := by unfold va_up; rw [if_pos rfl]
theorem vu_n (f : Nat → Nat) {k j : Nat} (v : Nat) (h : j ≠ k) : va_up f k v j = f j := by unfold va_up; rw [if_neg h]
def slP (mn ro : Nat → Nat) (o p : Nat) (st : Nat × Nat × (Nat → Nat) × Nat) : Nat × Nat × (Nat → Nat) × Nat :=
  if 16 < st.2.1 + (mn o + 1) then (st.1 + 1, mn o + 1, va_up st.2.2.1 o (ro st.1 * 16), st.2.2.2 + (if ro st.1 * 16 = p then 0 else 1))
  else (st.1, st.2.1 + (mn o + 1), va_up st.2.2.1 o (ro (st.1 - 1) * 16 + st.2.1), st.2.2.2 + (if ro (st.1 - 1) * 16 + st.2.1 = p then 0 else 1))
noncomputable def slS (A : Nat → Prop) (mn ro pl : Nat → Nat) : Nat → Nat × Nat × (Nat → Nat) × Nat := fun j => Nat.rec (0, 16, pl, 0) (fun j st => @dite _ (∃ o, A o ∧ pl o = rpos ro j) (Classical.propDecidable _) (fun h => slP mn ro (Classical.choose h) (rpos ro j) st) (fun _ => st)) j
theorem slS_y {A : Nat → Prop} {mn ro pl : Nat → Nat} {j o : Nat} (ho : A o) (hp : pl o = rpos ro j) (hu : ∀ q, A q → pl q = rpos ro j → q = o) : slS A mn ro pl (j + 1) = slP mn ro o (rpos ro j) (slS A mn ro pl j) := by
  have h : ∃ o, A o ∧ pl o = rpos ro j := ⟨o, ho, hp⟩
  have e : slS A mn ro pl (j + 1) = slP mn ro (Classical.choose h) (rpos ro j) (slS A mn ro pl j) := dif_pos h
  rw [e, hu _ (Classical.choose_spec h).1 (Classical.choose_spec h).2]
theorem slS_n {A : Nat → Prop} {mn ro pl : Nat → Nat} {j : Nat} (h : ∀ o, A o → pl o ≠ rpos ro j) : slS A mn ro pl (j + 1) = slS A mn ro pl j :=
  dif_neg (fun ⟨o, a, b⟩ => h o a b)
def prc (ro pl : Nat → Nat) (j o : Nat) : Prop := ∃ x, x < j ∧ pl o = rpos ro x
def SH (A B : Nat → Prop) (mn ro pl : Nat → Nat) (m : Nat) : Prop := (∀ o, A o → B o) ∧ (∀ j k, j < k → k < m → ro j ≠ ro k) ∧ (∀ o, B o → pl o % 16 + mn o < 16) ∧ lDis B pl mn
theorem SH.ab {A B : Nat → Prop} {mn ro pl : Nat → Nat} {m : Nat} (h : SH A B mn ro pl m) : ∀ o, A o → B o := h.1
theorem SH.inj {A B : Nat → Prop} {mn ro pl : Nat → Nat} {m : Nat} (h : SH A B mn ro pl m) : ∀ j k, j < k → k < m → ro j ≠ ro k := h.2.1
theorem SH.pg {A B : Nat → Prop} {mn ro pl : Nat → Nat} {m : Nat} (h : SH A B mn ro pl m) : ∀ o, B o → pl o % 16 + mn o < 16 := h.2.2.1
theorem SH.dis {A B : Nat → Prop} {mn ro pl : Nat → Nat} {m : Nat} (h : SH A B mn ro pl m) : lDis B pl mn := h.2.2.2
def SI1 (B : Nat → Prop) (ro pl : Nat → Nat) (m j len fill : Nat) : Prop := (len = 0 ∧ fill = 16) ∨ (0 < len ∧ 1 ≤ fill ∧ fill ≤ 16 ∧ 16 * (len - 1) + fill ≤ 16 * m ∧ ∀ o x, B o → j ≤ x → x < 16 * m → pl o = rpos ro x → 16 * (len - 1) + fill ≤ x)
def SI2 (A : Nat → Prop) (mn ro pl : Nat → Nat) (j len fill : Nat) (P : Nat → Nat) : Prop := ∀ o, A o → prc ro pl j o → ∃ x y, x < j ∧ pl o = rpos ro x ∧ y ≤ x ∧ P o = rpos ro y ∧ y % 16 + mn o < 16 ∧ y + mn o + 1 ≤ 16 * (len - 1) + fill ∧ 0 < len
def SI (A B : Nat → Prop) (mn ro pl : Nat → Nat) (m j : Nat) (len fill : Nat) (P : Nat → Nat) : Prop := SI1 B ro pl m j len fill ∧ SI2 A mn ro pl j len fill P ∧ (∀ o, ¬ (A o ∧ prc ro pl j o) → P o = pl o) ∧ lDis (fun o => B o ∧ (A o ∨ ¬ prc ro pl j o)) P mn
theorem SI.one {A B : Nat → Prop} {mn ro pl : Nat → Nat} {m j len fill : Nat} {P : Nat → Nat} (h : SI A B mn ro pl m j len fill P) : SI1 B ro pl m j len fill := h.1
theorem SI.two {A B : Nat → Prop} {mn ro pl : Nat → Nat} {m j len fill : Nat} {P : Nat → Nat} (h : SI A B mn ro pl m j len fill P) : SI2 A mn ro pl j len fill P := h.2.1
theorem SI.thr {A B : Nat → Prop} {mn ro pl : Nat → Nat} {m j len fill : Nat} {P : Nat → Nat} (h : SI A B mn ro pl m j len fill P) : ∀ o, ¬ (A o ∧ prc ro pl j o) → P o = pl o := h.2.2.1
theorem SI.fou {A B : Nat → Prop} {mn ro pl : Nat → Nat} {m j len fill : Nat} {P : Nat → Nat} (h : SI A B mn ro pl m j len fill P) : lDis (fun o => B o ∧ (A o ∨ ¬ prc ro pl j o)) P mn := h.2.2.2
theorem rpos_ne {ro : Nat → Nat} {m : Nat} (hi : ∀ j k, j < k → k < m → ro j ≠ ro k) {a b : Nat} (hab : a ≠ b) (ha : a < 16 * m) (hb : b < 16 * m) : rpos ro a ≠ rpos ro b := by
  rcases Nat.lt_or_gt_of_ne hab with h | h
  · exact rpos_inj hi h (by omega)
  · exact fun e => rpos_inj hi h (by omega) e.symm
theorem lin_dis {ro : Nat → Nat} {m : Nat} (hi : ∀ j k, j < k → k < m → ro j ≠ ro k) {x y a b : Nat} (hx : x % 16 + a < 16) (hy : y % 16 + b < 16) (h : x + a < y) (hx' : x < 16 * m) (hy' : y < 16 * m) : rpos ro x + a < rpos ro y ∨ rpos ro y + b < rpos ro x := by
  unfold rpos
  by_cases e : x / 16 = y / 16
  · rw [e]; left; omega
  · have := hi (x / 16) (y / 16) (by omega) (by omega)
    omega
theorem rpos_mod (ro : Nat → Nat) (x : Nat) : rpos ro x % 16 = x % 16 ∧ rpos ro x / 16 = ro (x / 16) := by unfold rpos; omega
theorem SH.beh {A B : Nat → Prop} {mn ro pl : Nat → Nat} {m : Nat} (h : SH A B mn ro pl m) {u o j x : Nat} (hu : B u) (ho : B o) (eu : pl u = rpos ro j) (eo : pl o = rpos ro x) (hj : j < x) (hx : x < 16 * m) : j + mn u + 1 ≤ x := by
  have hne : u ≠ o := fun e => by
    rw [e, eo] at eu
    exact rpos_ne h.inj (show j ≠ x by omega) (by omega) hx eu.symm
  have hd := h.dis u o hu ho hne
  have hp := h.pg u hu
  rw [eu] at hd hp
  rw [eo] at hd
  rw [(rpos_mod ro j).1] at hp
  unfold rpos at hd
  by_cases e : x / 16 = j / 16
  · rw [e] at hd; omega
  · omega
theorem SI_0 {A B : Nat → Prop} {mn ro pl : Nat → Nat} {m : Nat} (h : SH A B mn ro pl m) : SI A B mn ro pl m 0 0 16 pl :=
  ⟨Or.inl ⟨rfl, rfl⟩, fun o _ ⟨x, hx, _⟩ => by omega, fun _ _ => rfl, fun o q ho hq => h.dis o q ho.1 hq.1⟩
theorem SI_n {A B : Nat → Prop} {mn ro pl : Nat → Nat} {m j len fill : Nat} {P : Nat → Nat} (hI : SI A B mn ro pl m j len fill P) (hn : ∀ o, A o → pl o ≠ rpos ro j) : SI A B mn ro pl m (j + 1) len fill P := by
  have hp : ∀ o, A o → prc ro pl (j + 1) o → prc ro pl j o := fun o ho ⟨x, hx, e⟩ => ⟨x, by
    have : x ≠ j := fun ex => hn o ho (by rw [e, ex])
    omega, e⟩
  refine ⟨hI.one.imp id (fun ⟨a, b, c, d, e⟩ => ⟨a, b, c, d, fun o x ho hx => e o x ho (by omega)⟩), fun o ho hpr => ?_, fun o hno => hI.thr o (fun ⟨a, x, hx, e⟩ => hno ⟨a, x, by omega, e⟩), fun o q ho hq => hI.fou o q ⟨ho.1, ?_⟩ ⟨hq.1, ?_⟩⟩
  · obtain ⟨x, y, h1, h2⟩ := hI.two o ho (hp o ho hpr)
    exact ⟨x, y, by omega, h2⟩
  · exact ho.2.imp id (fun z ⟨x, hx, e⟩ => z ⟨x, by omega, e⟩)
  · exact hq.2.imp id (fun z ⟨x, hx, e⟩ => z ⟨x, by omega, e⟩)
theorem SI_to {A B : Nat → Prop} {mn ro pl : Nat → Nat} {m j len fill u : Nat} {P : Nat → Nat} (h : SH A B mn ro pl m) (hI : SI A B mn ro pl m j len fill P) (hj : j < 16 * m) (hu : B u) (eu : pl u = rpos ro j) :
    ∃ y, y ≤ j ∧ y % 16 + mn u < 16 ∧ (16 < fill + (mn u + 1) → y = 16 * len ∧ rpos ro y = ro len * 16 ∧ len < m) ∧ (¬ 16 < fill + (mn u + 1) → 0 < len ∧ y = 16 * (len - 1) + fill ∧ rpos ro y = ro (len - 1) * 16 + fill) ∧ (0 < len → 16 * (len - 1) + fill ≤ y) := by
  have hpg := h.pg u hu
  rw [eu, (rpos_mod ro j).1] at hpg
  rcases hI.one with ⟨e1, e2⟩ | ⟨e1, e2, e3, e4, e5⟩
  · subst e1 e2
    refine ⟨0, by omega, by omega, fun _ => ⟨by omega, by unfold rpos; simp, by omega⟩, fun h => by omega, fun h => by omega⟩
  · have := e5 u j hu (Nat.le_refl _) hj eu
    by_cases hov : 16 < fill + (mn u + 1)
    · refine ⟨16 * len, by omega, by omega, fun _ => ⟨rfl, ?_, by omega⟩, fun h => absurd hov h, fun _ => by omega⟩
      unfold rpos
      rw [show 16 * len / 16 = len by omega, show 16 * len % 16 = 0 by omega, Nat.add_zero]
    · refine ⟨16 * (len - 1) + fill, by omega, by omega, fun h => absurd h hov, fun _ => ⟨e1, rfl, ?_⟩, fun _ => Nat.le_refl _⟩
      unfold rpos
      rw [show (16 * (len - 1) + fill) / 16 = len - 1 by omega, show (16 * (len - 1) + fill) % 16 = fill by omega]
theorem SI_y {A B : Nat → Prop} {mn ro pl : Nat → Nat} {m j len fill len' fill' u y : Nat} {P : Nat → Nat} (h : SH A B mn ro pl m) (hI : SI A B mn ro pl m j len fill P) (hj : j < 16 * m) (hu : A u) (eu : pl u = rpos ro j)
    (hy : y ≤ j) (hy2 : y % 16 + mn u < 16) (hy3 : 0 < len → 16 * (len - 1) + fill ≤ y) (hl : 0 < len') (hf : 1 ≤ fill' ∧ fill' ≤ 16) (he : 16 * (len' - 1) + fill' = y + (mn u + 1)) : SI A B mn ro pl m (j + 1) len' fill' (va_up P u (rpos ro y)) ∧ (∀ o, B o → (A o ∨ ¬ prc ro pl j o) → o ≠ u → P o + mn o < rpos ro y ∨ rpos ro y + mn u < P o) := by
  have hB := h.ab u hu
  have hpg := h.pg u hB
  rw [eu, (rpos_mod ro j).1] at hpg
  have key : ∀ o, B o → (A o ∨ ¬ prc ro pl j o) → o ≠ u → P o + mn o < rpos ro y ∨ rpos ro y + mn u < P o := fun o hBo hAo hne => by
    by_cases hp : A o ∧ prc ro pl j o
    · obtain ⟨x, z, z1, z2, z3, z4, z5, z6, z7⟩ := hI.two o hp.1 hp.2
      rw [z4]
      have := hy3 z7
      exact lin_dis h.inj z5 hy2 (by omega) (by omega) (by omega)
    · rw [hI.thr o hp]
      have npr : ¬ prc ro pl j o := fun x => hAo.elim (fun a => hp ⟨a, x⟩) (fun a => a x)
      have hpo := h.pg o hBo
      by_cases hin : ∃ k, k < m ∧ pl o / 16 = ro k
      · obtain ⟨k, k1, k2⟩ := hin
        have eo : pl o = rpos ro (16 * k + pl o % 16) := by
          unfold rpos
          rw [show (16 * k + pl o % 16) / 16 = k by omega, ← k2]; omega
        have hx : j < 16 * k + pl o % 16 := by
          rcases Nat.lt_trichotomy (16 * k + pl o % 16) j with x | x | x
          · exact absurd ⟨_, x, eo⟩ npr
          · exfalso
            rw [x] at eo
            have := h.dis o u hBo hB hne
            omega
          · exact x
        have := h.beh hB hBo eu eo hx (by omega)
        rw [eo]
        exact (lin_dis h.inj hy2 (y := 16 * k + pl o % 16) (b := mn o) (by omega) (by omega) (by omega) (by omega)).symm
      · have h1 : pl o / 16 ≠ ro (y / 16) := fun e => hin ⟨y / 16, by omega, e⟩
        unfold rpos
        omega
  refine ⟨⟨Or.inr ⟨hl, hf.1, hf.2, by omega, fun o x ho hx hx' eo => ?_⟩, fun o ho hp => ?_, fun o hno => ?_, fun o q ho hq hne => ?_⟩, key⟩
  · have := h.beh hB ho eu eo (by omega) hx'
    omega
  · by_cases e : o = u
    · rw [e]
      exact ⟨j, y, by omega, eu, hy, vu_s _ _ _, hy2, by omega, hl⟩
    · obtain ⟨x, hx, ex⟩ := hp
      have hxj : x ≠ j := fun exj => by
        rw [exj] at ex
        have := h.dis o u (h.ab o ho) hB e
        omega
      obtain ⟨x', z, z1, z2, z3, z4, z5, z6, z7⟩ := hI.two o ho ⟨x, by omega, ex⟩
      have := hy3 z7
      exact ⟨x', z, by omega, z2, z3, by rw [vu_n _ _ e]; exact z4, z5, by omega, hl⟩
  · have e : o ≠ u := fun e => hno (by rw [e]; exact ⟨hu, j, by omega, eu⟩)
    rw [vu_n _ _ e]
    exact hI.thr o (fun ⟨a, x, hx, ex⟩ => hno ⟨a, x, by omega, ex⟩)
  · have w : ∀ o, (A o ∨ ¬ prc ro pl (j + 1) o) → (A o ∨ ¬ prc ro pl j o) := fun o z => z.imp id (fun z ⟨x, hx, e⟩ => z ⟨x, by omega, e⟩)
    by_cases e : o = u
    · have e' : q ≠ u := fun x => hne (by rw [e, x])
      rw [e, vu_s, vu_n _ _ e']
      exact (key q hq.1 (w q hq.2) e').symm
    · rw [vu_n _ _ e]
      by_cases e' : q = u
      · rw [e', vu_s]; exact key o ho.1 (w o ho.2) e
      · rw [vu_n _ _ e']
        exact hI.fou o q ⟨ho.1, w o ho.2⟩ ⟨hq.1, w q hq.2⟩ hne
