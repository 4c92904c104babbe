noncomputable def plQ (A : Nat → Prop) (mn : Nat → Nat) (ro : Nat → Nat → Nat) (m : Nat → Nat) (r0 : Nat) (pl : Nat → Nat) : Nat → Nat → Nat := fun i => Nat.rec pl (fun i P => (slS A mn (ro (r0 + i)) P (16 * m (r0 + i))).2.2.1) i
noncomputable def slQ (A : Nat → Prop) (mn : Nat → Nat) (ro : Nat → Nat → Nat) (m : Nat → Nat) (r0 : Nat) (pl : Nat → Nat) (i : Nat) : Nat × Nat × (Nat → Nat) × Nat := slS A mn (ro (r0 + i)) (plQ A mn ro m r0 pl i) (16 * m (r0 + i))
noncomputable def mvQ (A : Nat → Prop) (mn : Nat → Nat) (ro : Nat → Nat → Nat) (m : Nat → Nat) (r0 : Nat) (pl : Nat → Nat) : Nat → Nat := fun i => Nat.rec 0 (fun i n => n + (slQ A mn ro m r0 pl i).2.2.2) i
theorem plQ_s (A : Nat → Prop) (mn : Nat → Nat) (ro : Nat → Nat → Nat) (m : Nat → Nat) (r0 : Nat) (pl : Nat → Nat) (i : Nat) : plQ A mn ro m r0 pl (i + 1) = (slQ A mn ro m r0 pl i).2.2.1 := rfl
theorem mvQ_s (A : Nat → Prop) (mn : Nat → Nat) (ro : Nat → Nat → Nat) (m : Nat → Nat) (r0 : Nat) (pl : Nat → Nat) (i : Nat) : mvQ A mn ro m r0 pl (i + 1) = mvQ A mn ro m r0 pl i + (slQ A mn ro m r0 pl i).2.2.2 := rfl
def RH (A B : Nat → Prop) (mn g : Nat → Nat) (ro : Nat → Nat → Nat) (m : Nat → Nat) (r0 R : Nat) (pl : Nat → Nat) : Prop :=
  (∀ o, A o → B o) ∧ (∀ o, B o → g o < R ∧ (A o ∨ r0 ≤ g o) ∧ pl o % 16 + mn o < 16 ∧ ∃ k, k < m (g o) ∧ pl o / 16 = ro (g o) k) ∧ lDis B pl mn ∧ (∀ q q' k k', q < R → q' < R → k < m q → k' < m q' → ro q k = ro q' k' → q = q' ∧ k = k')
def RI (A B : Nat → Prop) (mn g : Nat → Nat) (ro : Nat → Nat → Nat) (m : Nat → Nat) (r0 : Nat) (pl : Nat → Nat) (i : Nat) : Prop :=
  (∀ o, B o → (A o ∨ r0 + i ≤ g o) → plQ A mn ro m r0 pl i o % 16 + mn o < 16 ∧ ∃ k, k < m (g o) ∧ plQ A mn ro m r0 pl i o / 16 = ro (g o) k) ∧ lDis (fun o => B o ∧ (A o ∨ r0 + i ≤ g o)) (plQ A mn ro m r0 pl i) mn ∧
  (∀ o, ¬ (A o ∧ r0 ≤ g o ∧ g o < r0 + i) → plQ A mn ro m r0 pl i o = pl o) ∧
  (∀ o, A o → r0 ≤ g o → g o < r0 + i → ∃ y, plQ A mn ro m r0 pl i o = rpos (ro (g o)) y ∧ y % 16 + mn o < 16 ∧ y + mn o + 1 ≤ 16 * ((slQ A mn ro m r0 pl (g o - r0)).1 - 1) + (slQ A mn ro m r0 pl (g o - r0)).2.1 ∧ 0 < (slQ A mn ro m r0 pl (g o - r0)).1)
theorem RI_sh {A B : Nat → Prop} {mn g : Nat → Nat} {ro : Nat → Nat → Nat} {m : Nat → Nat} {r0 R : Nat} {pl : Nat → Nat} {i : Nat} (h : RH A B mn g ro m r0 R pl) (hI : RI A B mn g ro m r0 pl i) (hi : r0 + i < R) : SH A (fun o => B o ∧ (A o ∨ r0 + i ≤ g o)) mn (ro (r0 + i)) (plQ A mn ro m r0 pl i) (m (r0 + i)) :=
  ⟨fun o ho => ⟨h.1 o ho, Or.inl ho⟩, fun j k hjk hk e => by have := (h.2.2.2 (r0 + i) (r0 + i) j k hi hi (by omega) hk e).2; omega, fun o ho => (hI.1 o ho.1 ho.2).1, hI.2.1⟩
theorem RI_prc {A B : Nat → Prop} {mn g : Nat → Nat} {ro : Nat → Nat → Nat} {m : Nat → Nat} {r0 R : Nat} {pl : Nat → Nat} {i : Nat} (h : RH A B mn g ro m r0 R pl) (hI : RI A B mn g ro m r0 pl i) (hi : r0 + i < R) {o : Nat} (ho : B o) (ha : A o ∨ r0 + i ≤ g o) : prc (ro (r0 + i)) (plQ A mn ro m r0 pl i) (16 * m (r0 + i)) o ↔ g o = r0 + i := by
  obtain ⟨k, k1, k2⟩ := (hI.1 o ho ha).2
  constructor
  · rintro ⟨x, hx, ex⟩
    rw [ex, (rpos_mod _ x).2] at k2
    exact ((h.2.2.2 (r0 + i) (g o) (x / 16) k hi (h.2.1 o ho).1 (by omega) k1 k2).1).symm
  · intro e
    rw [e] at k1 k2
    refine ⟨16 * k + plQ A mn ro m r0 pl i o % 16, by omega, ?_⟩
    unfold rpos
    rw [show (16 * k + plQ A mn ro m r0 pl i o % 16) / 16 = k by omega, ← k2]; omega
theorem RI_all {A B : Nat → Prop} {mn g : Nat → Nat} {ro : Nat → Nat → Nat} {m : Nat → Nat} {r0 R : Nat} {pl : Nat → Nat} (h : RH A B mn g ro m r0 R pl) : ∀ i, r0 + i ≤ R → RI A B mn g ro m r0 pl i := by
  intro i
  induction i with
  | zero =>
    intro _
    exact ⟨fun o ho _ => (h.2.1 o ho).2.2, fun o q ho hq => h.2.2.1 o q ho.1 hq.1, fun _ _ => rfl, fun o _ h1 h2 => by omega⟩
  | succ i ih =>
    intro hi
    have hI := ih (by omega)
    have hs := RI_sh h hI (by omega)
    have hS := SI_all hs (16 * m (r0 + i)) (Nat.le_refl _)
    have hp := fun o => RI_prc h hI (show r0 + i < R by omega) (o := o)
    obtain ⟨_, hS2, hS3, hS4⟩ := id hS
    change ∀ o, _ → plQ A mn ro m r0 pl (i + 1) o = _ at hS3
    change lDis _ (plQ A mn ro m r0 pl (i + 1)) mn at hS4
    have st : ∀ o, A o → g o = r0 + i → ∃ x y, x < 16 * m (r0 + i) ∧ y ≤ x ∧ plQ A mn ro m r0 pl (i + 1) o = rpos (ro (r0 + i)) y ∧ y % 16 + mn o < 16 ∧ y + mn o + 1 ≤ 16 * ((slQ A mn ro m r0 pl i).1 - 1) + (slQ A mn ro m r0 pl i).2.1 ∧ 0 < (slQ A mn ro m r0 pl i).1 := fun o ho e => by
      obtain ⟨x, y, x1, x2, x3, x4, x5, x6, x7⟩ := hS2 o ho ((hp o (h.1 o ho) (Or.inl ho)).mpr e)
      exact ⟨x, y, x1, x3, x4, x5, x6, x7⟩
    have sm : ∀ o, ¬ (A o ∧ g o = r0 + i) → plQ A mn ro m r0 pl (i + 1) o = plQ A mn ro m r0 pl i o := fun o hn => hS3 o (fun x => hn ⟨x.1, (hp o (h.1 o x.1) (Or.inl x.1)).mp x.2⟩)
    refine ⟨fun o ho ha => ?_, fun o q ho hq => ?_, fun o hn => ?_, fun o ho h1 h2 => ?_⟩
    · by_cases e : A o ∧ g o = r0 + i
      · obtain ⟨x, y, x1, x2, x3, x4, _⟩ := st o e.1 e.2
        rw [x3, (rpos_mod _ y).1, (rpos_mod _ y).2, e.2]
        exact ⟨x4, y / 16, by omega, rfl⟩
      · rw [sm o e]
        exact hI.1 o ho (ha.imp id (fun x => by omega))
    · have w : ∀ o, (B o ∧ (A o ∨ r0 + (i + 1) ≤ g o)) → ((B o ∧ (A o ∨ r0 + i ≤ g o)) ∧ (A o ∨ ¬ prc (ro (r0 + i)) (plQ A mn ro m r0 pl i) (16 * m (r0 + i)) o)) := fun o x => ⟨⟨x.1, x.2.imp id (fun y => by omega)⟩, x.2.imp id (fun y z => by
        have := (hp o x.1 (Or.inr (by omega))).mp z
        omega)⟩
      exact hS4 o q (w o ho) (w q hq)
    · rw [sm o (fun x => hn ⟨x.1, by omega, by omega⟩)]
      exact hI.2.2.1 o (fun x => hn ⟨x.1, x.2.1, by omega⟩)
    · by_cases e : g o = r0 + i
      · obtain ⟨x, y, x1, x2, x3, x4, x5, x6⟩ := st o ho e
        rw [e, show r0 + i - r0 = i by omega]
        exact ⟨y, x3, x4, x5, x6⟩
      · rw [sm o (fun x => e x.2)]
        exact hI.2.2.2 o ho h1 (by omega)
def fre (ro : Nat → Nat → Nat) (m : Nat → Nat) (r0 i : Nat) (ln : Nat → Nat) (p : Nat) : Prop := ∃ q k, r0 ≤ q ∧ q < r0 + i ∧ ln (q - r0) ≤ k ∧ k < m q ∧ ro q k = p
def CC (σ τ : xS) (A B : Nat → Prop) (mn g : Nat → Nat) (ro : Nat → Nat → Nat) (m : Nat → Nat) (r0 : Nat) (pl : Nat → Nat) (hd : Nat → Int32) (fs fc : Nat → Nat → Int32) (i : Nat) : Prop :=
  HeapR (τ 28) (τ 29) (fun o => B o ∧ (A o ∨ r0 + i ≤ g o)) (plQ A mn ro m r0 pl i) mn hd fs fc ∧ (∀ o, A o → τ 10 (pl o) = nI (plQ A mn ro m r0 pl i o)) ∧
  (∀ q, r0 ≤ q → q < r0 + i → τ 22 q = nI (slQ A mn ro m r0 pl (q - r0)).1 ∧ τ 23 q = nI (slQ A mn ro m r0 pl (q - r0)).2.1) ∧ (∀ q, ¬ (r0 ≤ q ∧ q < r0 + i) → τ 22 q = σ 22 q ∧ τ 23 q = σ 23 q) ∧
  (∀ p, (fre ro m r0 i (fun j => (slQ A mn ro m r0 pl j).1) p → τ 20 p = -1) ∧ (¬ fre ro m r0 i (fun j => (slQ A mn ro m r0 pl j).1) p → τ 20 p = σ 20 p)) ∧
  τ 2 4 = σ 2 4 + nI (mvQ A mn ro m r0 pl i) ∧ (∃ gd, τ 2 3 = σ 2 3 + nI gd ∧ gd + cnt (fun o => (B o ∧ (A o ∨ r0 + i ≤ g o)) ∧ ¬ A o) 640 = cnt (fun o => B o ∧ ¬ A o) 640) ∧
  (∀ d, d ≠ 28 → d ≠ 29 → d ≠ 10 → d ≠ 22 → d ≠ 23 → d ≠ 2 → d ≠ 20 → τ d = σ d) ∧ (∀ k, k ≠ 3 → k ≠ 4 → τ 2 k = σ 2 k)
theorem fre_s {ro : Nat → Nat → Nat} {m : Nat → Nat} {r0 i : Nat} {ln : Nat → Nat} {p : Nat} : fre ro m r0 (i + 1) ln p ↔ fre ro m r0 i ln p ∨ ∃ k, ln i ≤ k ∧ k < m (r0 + i) ∧ ro (r0 + i) k = p := by
  constructor
  · rintro ⟨q, k, h1, h2, h3, h4, h5⟩
    by_cases e : q = r0 + i
    · subst e
      rw [show r0 + i - r0 = i by omega] at h3
      exact Or.inr ⟨k, h3, h4, h5⟩
    · exact Or.inl ⟨q, k, h1, by omega, h3, h4, h5⟩
  · rintro (⟨q, k, h1, h2, h3, h4, h5⟩ | ⟨k, h3, h4, h5⟩)
    · exact ⟨q, k, h1, by omega, h3, h4, h5⟩
    · exact ⟨r0 + i, k, by omega, by omega, by rw [show r0 + i - r0 = i by omega]; exact h3, h4, h5⟩
theorem fre_cw {ro : Nat → Nat → Nat} {m : Nat → Nat} {r0 i : Nat} {ln : Nat → Nat} {f f0 : Nat → Int32} {c : Int32} (h : ∀ p, (fre ro m r0 i ln p → f p = c) ∧ (¬ fre ro m r0 i ln p → f p = f0 p)) (p : Nat) : (fre ro m r0 (i + 1) ln p → cw (fun _ => True) (fun k => ro (r0 + i) (ln i + k)) (fun _ => c) f (m (r0 + i) - ln i) p = c) ∧ (¬ fre ro m r0 (i + 1) ln p → cw (fun _ => True) (fun k => ro (r0 + i) (ln i + k)) (fun _ => c) f (m (r0 + i) - ln i) p = f0 p) := by
  rw [fre_s]
  by_cases hx : ∃ k, ln i ≤ k ∧ k < m (r0 + i) ∧ ro (r0 + i) k = p
  · obtain ⟨k, k1, k2, k3⟩ := hx
    refine ⟨fun _ => ?_, fun hn => absurd (Or.inr ⟨k, k1, k2, k3⟩) hn⟩
    exact cw_c (k := k - ln i) (by omega) trivial (by rw [show ln i + (k - ln i) = k by omega]; exact k3)
  · rw [cw_no (B := fun _ => True) _ (fun k hk _ e => hx ⟨ln i + k, Nat.le_add_right _ _, by omega, e⟩)]
    exact ⟨fun hf => (h p).1 (hf.elim id (fun y => absurd y hx)), fun hn => (h p).2 (fun y => hn (Or.inl y))⟩
theorem e_regsC {σ : xS} {A B : Nat → Prop} {mn g : Nat → Nat} {ro : Nat → Nat → Nat} {m : Nat → Nat} {r0 R : Nat} {pl : Nat → Nat} {hd : Nat → Int32} {fs fc : Nat → Nat → Int32} (h : RH A B mn g ro m r0 R pl) (hr0 : r0 ≤ R) (hR8 : R ≤ 8) (h7 : σ 7 4 = nI R)
    (hrow : ∀ q, q < R → m q ≤ 40 ∧ σ 22 q = nI (m q) ∧ ∀ k, k < m q → σ (32 + q) k = nI (ro q k) ∧ ro q k < 40) (hB : ∀ o, B o → o < 640 ∧ pl o + mn o < 640 ∧ mn o < 16 ∧ hd o &&& 15 = nI (mn o) ∧ ∀ i, i < mn o → fs o i ≠ 3)
    (hl : lvw B pl A (σ 26)) (hH : HeapR (σ 28) (σ 29) B pl mn hd fs fc) (hnp : ∀ o, A o → σ 10 (pl o) = nI (pl o)) (x2 : Int32) (Q : Int32 → xS → Prop)
    (hQ : ∀ τ, CC σ τ A B mn g ro m r0 pl hd fs fc (R - r0) → p_Mem_followAllMoves τ (fun σ16 => Q (((xu σ16 2 2 ((σ16 2 2) + 1)) 2 3) - x2) (xu σ16 2 2 ((σ16 2 2) + 1)))) : ∃ n, p_Col_run_L90 Q n x2 (nI r0) σ := by
  refine lpS (S := xS) (fun f i τ => p_Col_run_L90 Q f x2 (nI (r0 + i)) τ) (fun i τ => CC σ τ A B mn g ro m r0 pl hd fs fc i) (R - r0) ?_ ?_ (s := σ) ?_
  · intro f i τ hi hC hk
    show b_Col_run_L90 (p_Col_run_L90 Q f) Q x2 (nI (r0 + i)) τ
    unfold b_Col_run_L90 p_Reg_amount
    obtain ⟨C1, C2, C3, C4, C5, C6, ⟨gd, C7, C7'⟩, C8, C9⟩ := id hC
    have l1 : ¬ R ≤ r0 + i := by omega
    have f7 : τ 7 = σ 7 := C8 7 (by decide) (by decide) (by decide) (by decide) (by decide) (by decide) (by decide)
    have f26 : τ 26 = σ 26 := C8 26 (by decide) (by decide) (by decide) (by decide) (by decide) (by decide) (by decide)
    have f32 : τ (32 + (r0 + i)) = σ (32 + (r0 + i)) := C8 _ (by omega) (by omega) (by omega) (by omega) (by omega) (by omega) (by omega)
    simp (disch := omega) only [forall_eq, true_and, and_true, and_self, not_true_eq_false, not_false_eq_true, false_imp_iff, true_imp_iff, imp_self, implies_true, ne_eq, reduceIte, cl, cl0, cl1, cl2, vpn, vp0, le8, le16, le40, le640, le1400, le6400, lt8, lt16, le15, le2, nI_leI, nI_ltI, nI_eq, nI_1, nI_add, n_le0, n_lt0, n_0le, n_eq0, n_eq1, n_eq2, n_m1, n_m1r, Nat.reduceEqDiff, Nat.reduceAdd, Int32.add_zero, nI_pred, div16, mul15, mul40, mul16, mul640, mulr16, xu_s, xu_c, xu_k, xu_cc, rows_xu, xf_s, xf_c, rows_xf, xul_c, rows_xul, xul_L, lgc, f7, h7, l1]
    have hI := RI_all h i (by omega)
    have hs := RI_sh h hI (by omega)
    obtain ⟨m4, m2, mr⟩ := hrow (r0 + i) (by omega)
    have hm : τ 22 (r0 + i) = nI (m (r0 + i)) := by rw [(C4 (r0 + i) (by omega)).1]; exact m2
    have hpl : ∀ o, B o → (A o ∨ r0 + i ≤ g o) → plQ A mn ro m r0 pl i o + mn o < 640 := fun o ho ha => by
      obtain ⟨a, k, k1, k2⟩ := hI.1 o ho ha
      have := ((hrow (g o) (h.2.1 o ho).1).2.2 k k1).2
      omega
    have hE : SE τ (r0 + i) A (fun o => B o ∧ (A o ∨ r0 + i ≤ g o)) mn (ro (r0 + i)) (plQ A mn ro m r0 pl i) pl (m (r0 + i)) hd fs := by
      refine ⟨by omega, m4, fun k hk => by rw [f32]; exact mr k hk, fun o ho => ?_, ?_, fun o x ho hx ex => ?_, fun o q ho hq e => ?_⟩
      · obtain ⟨b1, b2, b3, b4, b5⟩ := hB o ho.1
        exact ⟨b1, hpl o ho.1 ho.2, b3, b4, by omega, b5⟩
      · rw [f26]
        intro p hp
        rcases hl p hp with ⟨a, b⟩ | ⟨a, o, o1, o2, o3⟩
        · exact Or.inl ⟨a, fun o ho e => b o ho.1 e⟩
        · exact Or.inr ⟨a, o, ⟨o1, Or.inl o3⟩, o2, o3⟩
      · have := (RI_prc h hI (by omega) ho.1 ho.2).mp ⟨x, hx, ex⟩
        exact (hI.2.2.1 o (fun y => by omega)).symm
      · by_cases x : o = q
        · exact x
        · have := h.2.2.1 o q ho.1 hq.1 x; omega
    have key := e_slideRegion hE hs hm C1 C2 (fun τ' => p_Col_run_L90 Q f x2 (nI (r0 + (i + 1))) τ') (fun τ1 hC1 => by
      refine hk _ ?_
      obtain ⟨D1, D2, ⟨D3, D3'⟩, D4, ⟨gd', D5, D5'⟩, D6, D7, D8⟩ := hC1
      have hset : ∀ o, ((B o ∧ (A o ∨ r0 + i ≤ g o)) ∧ (A o ∨ ¬ prc (ro (r0 + i)) (plQ A mn ro m r0 pl i) (16 * m (r0 + i)) o)) ↔ (B o ∧ (A o ∨ r0 + (i + 1) ≤ g o)) := fun o => by
        constructor
        · rintro ⟨⟨a, b⟩, c⟩
          refine ⟨a, ?_⟩
          rcases b with b | b
          · exact Or.inl b
          · rcases c with c | c
            · exact Or.inl c
            · right
              have : g o ≠ r0 + i := fun e => c ((RI_prc h hI (by omega) a (Or.inr b)).mpr e)
              omega
        · rintro ⟨a, b⟩
          refine ⟨⟨a, b.imp id (fun x => by omega)⟩, b.imp id (fun x y => ?_)⟩
          have := (RI_prc h hI (by omega) a (Or.inr (by omega))).mp y
          omega
      refine ⟨?_, ?_, fun q q1 q2 => ?_, fun q hq => ?_, fun p => ?_, ?_, ⟨gd + gd', ?_, ?_⟩, fun d d1 d2 d3 d4 d5 d6 d7 => ?_, fun k k1 k2 => ?_⟩
      · simp (disch := omega) only [forall_eq, true_and, and_true, and_self, not_true_eq_false, not_false_eq_true, false_imp_iff, true_imp_iff, imp_self, implies_true, ne_eq, reduceIte, cl, cl0, cl1, cl2, vpn, vp0, le8, le16, le40, le640, le1400, le6400, lt8, lt16, le15, le2, nI_leI, nI_ltI, nI_eq, nI_1, nI_add, n_le0, n_lt0, n_0le, n_eq0, n_eq1, n_eq2, n_m1, n_m1r, Nat.reduceEqDiff, Nat.reduceAdd, Int32.add_zero, nI_pred, div16, mul15, mul40, mul16, mul640, mulr16, xu_s, xu_c, xu_k, xu_cc, rows_xu, xf_s, xf_c, rows_xf, xul_c, rows_xul, xul_L, lgc]
        exact HeapR_A D1 hset
      · simp (disch := omega) only [forall_eq, true_and, and_true, and_self, not_true_eq_false, not_false_eq_true, false_imp_iff, true_imp_iff, imp_self, implies_true, ne_eq, reduceIte, cl, cl0, cl1, cl2, vpn, vp0, le8, le16, le40, le640, le1400, le6400, lt8, lt16, le15, le2, nI_leI, nI_ltI, nI_eq, nI_1, nI_add, n_le0, n_lt0, n_0le, n_eq0, n_eq1, n_eq2, n_m1, n_m1r, Nat.reduceEqDiff, Nat.reduceAdd, Int32.add_zero, nI_pred, div16, mul15, mul40, mul16, mul640, mulr16, xu_s, xu_c, xu_k, xu_cc, rows_xu, xf_s, xf_c, rows_xf, xul_c, rows_xul, xul_L, lgc]
        exact D2
      · simp (disch := omega) only [forall_eq, true_and, and_true, and_self, not_true_eq_false, not_false_eq_true, false_imp_iff, true_imp_iff, imp_self, implies_true, ne_eq, reduceIte, cl, cl0, cl1, cl2, vpn, vp0, le8, le16, le40, le640, le1400, le6400, lt8, lt16, le15, le2, nI_leI, nI_ltI, nI_eq, nI_1, nI_add, n_le0, n_lt0, n_0le, n_eq0, n_eq1, n_eq2, n_m1, n_m1r, Nat.reduceEqDiff, Nat.reduceAdd, Int32.add_zero, nI_pred, div16, mul15, mul40, mul16, mul640, mulr16, xu_s, xu_c, xu_k, xu_cc, rows_xu, xf_s, xf_c, rows_xf, xul_c, rows_xul, xul_L, lgc]
        by_cases e : q = r0 + i
        · rw [e, show r0 + i - r0 = i by omega]; exact ⟨D3, D3'⟩
        · rw [(D7 q e).1, (D7 q e).2]; exact C3 q q1 (by omega)
      · simp (disch := omega) only [forall_eq, true_and, and_true, and_self, not_true_eq_false, not_false_eq_true, false_imp_iff, true_imp_iff, imp_self, implies_true, ne_eq, reduceIte, cl, cl0, cl1, cl2, vpn, vp0, le8, le16, le40, le640, le1400, le6400, lt8, lt16, le15, le2, nI_leI, nI_ltI, nI_eq, nI_1, nI_add, n_le0, n_lt0, n_0le, n_eq0, n_eq1, n_eq2, n_m1, n_m1r, Nat.reduceEqDiff, Nat.reduceAdd, Int32.add_zero, nI_pred, div16, mul15, mul40, mul16, mul640, mulr16, xu_s, xu_c, xu_k, xu_cc, rows_xu, xf_s, xf_c, rows_xf, xul_c, rows_xul, xul_L, lgc]
        rw [(D7 q (by omega)).1, (D7 q (by omega)).2]; exact C4 q (by omega)
      · simp (disch := omega) only [forall_eq, true_and, and_true, and_self, not_true_eq_false, not_false_eq_true, false_imp_iff, true_imp_iff, imp_self, implies_true, ne_eq, reduceIte, cl, cl0, cl1, cl2, vpn, vp0, le8, le16, le40, le640, le1400, le6400, lt8, lt16, le15, le2, nI_leI, nI_ltI, nI_eq, nI_1, nI_add, n_le0, n_lt0, n_0le, n_eq0, n_eq1, n_eq2, n_m1, n_m1r, Nat.reduceEqDiff, Nat.reduceAdd, Int32.add_zero, nI_pred, div16, mul15, mul40, mul16, mul640, mulr16, xu_s, xu_c, xu_k, xu_cc, rows_xu, xf_s, xf_c, rows_xf, xul_c, rows_xul, xul_L, lgc]
        exact fre_cw (ln := fun j => (slQ A mn ro m r0 pl j).1) C5 p
      · simp (disch := omega) only [forall_eq, true_and, and_true, and_self, not_true_eq_false, not_false_eq_true, false_imp_iff, true_imp_iff, imp_self, implies_true, ne_eq, reduceIte, cl, cl0, cl1, cl2, vpn, vp0, le8, le16, le40, le640, le1400, le6400, lt8, lt16, le15, le2, nI_leI, nI_ltI, nI_eq, nI_1, nI_add, n_le0, n_lt0, n_0le, n_eq0, n_eq1, n_eq2, n_m1, n_m1r, Nat.reduceEqDiff, Nat.reduceAdd, Int32.add_zero, nI_pred, div16, mul15, mul40, mul16, mul640, mulr16, xu_s, xu_c, xu_k, xu_cc, rows_xu, xf_s, xf_c, rows_xf, xul_c, rows_xul, xul_L, lgc]
        rw [D4, C6, mvQ_s, ← nI_add, Int32.add_assoc]; rfl
      · simp (disch := omega) only [forall_eq, true_and, and_true, and_self, not_true_eq_false, not_false_eq_true, false_imp_iff, true_imp_iff, imp_self, implies_true, ne_eq, reduceIte, cl, cl0, cl1, cl2, vpn, vp0, le8, le16, le40, le640, le1400, le6400, lt8, lt16, le15, le2, nI_leI, nI_ltI, nI_eq, nI_1, nI_add, n_le0, n_lt0, n_0le, n_eq0, n_eq1, n_eq2, n_m1, n_m1r, Nat.reduceEqDiff, Nat.reduceAdd, Int32.add_zero, nI_pred, div16, mul15, mul40, mul16, mul640, mulr16, xu_s, xu_c, xu_k, xu_cc, rows_xu, xf_s, xf_c, rows_xf, xul_c, rows_xul, xul_L, lgc]
        rw [D5, C7, ← nI_add, Int32.add_assoc]
      · have e1 := cnt_iff (P := fun o => (B o ∧ (A o ∨ r0 + (i + 1) ≤ g o)) ∧ ¬ A o) (Q := fun o => ((B o ∧ (A o ∨ r0 + i ≤ g o)) ∧ (A o ∨ ¬ prc (ro (r0 + i)) (plQ A mn ro m r0 pl i) (16 * m (r0 + i)) o)) ∧ ¬ A o) (n := 640) (fun o _ => by rw [hset o])
        dsimp only at D5' e1
        omega
      · simp (disch := omega) only [forall_eq, true_and, and_true, and_self, not_true_eq_false, not_false_eq_true, false_imp_iff, true_imp_iff, imp_self, implies_true, ne_eq, reduceIte, cl, cl0, cl1, cl2, vpn, vp0, le8, le16, le40, le640, le1400, le6400, lt8, lt16, le15, le2, nI_leI, nI_ltI, nI_eq, nI_1, nI_add, n_le0, n_lt0, n_0le, n_eq0, n_eq1, n_eq2, n_m1, n_m1r, Nat.reduceEqDiff, Nat.reduceAdd, Int32.add_zero, nI_pred, div16, mul15, mul40, mul16, mul640, mulr16, xu_s, xu_c, xu_k, xu_cc, rows_xu, xf_s, xf_c, rows_xf, xul_c, rows_xul, xul_L, lgc]
        rw [D6 d d1 d2 d3 d4 d5 d6]; exact C8 d d1 d2 d3 d4 d5 d6 d7
      · simp (disch := omega) only [forall_eq, true_and, and_true, and_self, not_true_eq_false, not_false_eq_true, false_imp_iff, true_imp_iff, imp_self, implies_true, ne_eq, reduceIte, cl, cl0, cl1, cl2, vpn, vp0, le8, le16, le40, le640, le1400, le6400, lt8, lt16, le15, le2, nI_leI, nI_ltI, nI_eq, nI_1, nI_add, n_le0, n_lt0, n_0le, n_eq0, n_eq1, n_eq2, n_m1, n_m1r, Nat.reduceEqDiff, Nat.reduceAdd, Int32.add_zero, nI_pred, div16, mul15, mul40, mul16, mul640, mulr16, xu_s, xu_c, xu_k, xu_cc, rows_xu, xf_s, xf_c, rows_xf, xul_c, rows_xul, xul_L, lgc]
        rw [D8 k k1 k2]; exact C9 k k1 k2)
    exact key
  · intro f τ hC
    show b_Col_run_L90 (p_Col_run_L90 Q f) Q x2 (nI (r0 + (R - r0))) τ
    unfold b_Col_run_L90 p_Reg_amount
    have f7 : τ 7 = σ 7 := hC.2.2.2.2.2.2.2.1 7 (by decide) (by decide) (by decide) (by decide) (by decide) (by decide) (by decide)
    rw [show r0 + (R - r0) = R by omega]
    simp (disch := omega) only [forall_eq, true_and, and_true, and_self, not_true_eq_false, not_false_eq_true, false_imp_iff, true_imp_iff, imp_self, implies_true, ne_eq, reduceIte, cl, cl0, cl1, cl2, vpn, vp0, le8, le16, le40, le640, le1400, le6400, lt8, lt16, le15, le2, nI_leI, nI_ltI, nI_eq, nI_1, nI_add, n_le0, n_lt0, n_0le, n_eq0, n_eq1, n_eq2, n_m1, n_m1r, Nat.reduceEqDiff, Nat.reduceAdd, Int32.add_zero, nI_pred, div16, mul15, mul40, mul16, mul640, mulr16, xu_s, xu_c, xu_k, xu_cc, rows_xu, xf_s, xf_c, rows_xf, xul_c, rows_xul, xul_L, lgc, f7, h7, Nat.le_refl]
    exact hQ τ hC
  · refine ⟨?_, hnp, fun q q1 q2 => by omega, fun _ _ => ⟨rfl, rfl⟩, fun p => ⟨fun ⟨q, k, q1, q2, _⟩ => by omega, fun _ => rfl⟩, ?_, ⟨0, ?_, ?_⟩, fun _ _ _ _ _ _ _ _ => rfl, fun _ _ _ => rfl⟩
    · exact HeapR_A hH (fun o => ⟨fun x => ⟨x, by have := (h.2.1 o x).2.1; exact this⟩, fun x => x.1⟩)
    · show _ = _ + nI 0; rw [nI_0, Int32.add_zero]
    · rw [nI_0, Int32.add_zero]
    · rw [Nat.zero_add]
      exact cnt_iff (fun o _ => ⟨fun x => ⟨x.1.1, x.2⟩, fun x => ⟨⟨x.1, (h.2.1 o x.1).2.1⟩, x.2⟩⟩)
def RM (σ τ : xS) (A : Nat → Prop) (mn : Nat → Nat) (ro : Nat → Nat → Nat) (m : Nat → Nat) (r0 : Nat) (pl : Nat → Nat) (i : Nat) : Prop :=
  (∀ o, A o → τ 44 o = nI (plQ A mn ro m r0 pl i o)) ∧ (∀ p, p < 640 → τ 49 p = -1 ∨ ∃ o, A o ∧ τ 49 p = nI o ∧ plQ A mn ro m r0 pl i o = p) ∧ (∀ o, A o → τ 49 (plQ A mn ro m r0 pl i o) = nI o) ∧
  (∀ q, r0 ≤ q → q < r0 + i → τ 51 q = nI (slQ A mn ro m r0 pl (q - r0)).1 ∧ τ 53 q = atI (slQ A mn ro m r0 pl (q - r0)).1 (slQ A mn ro m r0 pl (q - r0)).2.1) ∧ (∀ q, ¬ (r0 ≤ q ∧ q < r0 + i) → τ 51 q = σ 51 q ∧ τ 53 q = σ 53 q) ∧
  (∀ p, (fre ro m r0 i (fun j => (slQ A mn ro m r0 pl j).1) p → τ 50 p = 0) ∧ (¬ fre ro m r0 i (fun j => (slQ A mn ro m r0 pl j).1) p → τ 50 p = σ 50 p)) ∧
  τ 31 23 = σ 31 23 + nI (mvQ A mn ro m r0 pl i) ∧ (∀ d, d ≠ 44 → d ≠ 49 → d ≠ 51 → d ≠ 53 → d ≠ 50 → d ≠ 31 → τ d = σ d) ∧ (∀ k, k ≠ 23 → τ 31 k = σ 31 k) ∧ (∀ o, ¬ A o → τ 44 o = σ 44 o) ∧ (∀ p, 640 ≤ p → τ 49 p = σ 49 p)
theorem e_regsM {σ : xS} {A : Nat → Prop} {mn g : Nat → Nat} {ro : Nat → Nat → Nat} {m : Nat → Nat} {r0 R : Nat} {pl : Nat → Nat} (h : RH A A mn g ro m r0 R pl) (hr0 : r0 ≤ R) (hR8 : R ≤ 8) (h13 : σ 31 13 = nI R)
    (hrow : ∀ q, q < R → m q ≤ 40 ∧ σ 51 q = nI (m q) ∧ ∀ k, k < m q → σ 52 (40 * q + k) = nI (ro q k) ∧ ro q k < 40) (hB : ∀ o, A o → o < 640 ∧ σ 42 o = nI (mn o) ∧ mn o < 16)
    (h44 : ∀ o, A o → σ 44 o = nI (pl o)) (h49 : ∀ p, p < 640 → σ 49 p = -1 ∨ ∃ o, A o ∧ σ 49 p = nI o ∧ pl o = p) (h49' : ∀ o, A o → σ 49 (pl o) = nI o) (x2 : Int32) (Q : Int32 → xS → Prop)
    (hQ : ∀ τ, RM σ τ A mn ro m r0 pl (R - r0) → Q x2 (xu (xu τ 31 21 ((τ 31 21) + 1)) 31 22 (((xu τ 31 21 ((τ 31 21) + 1)) 31 22) + x2))) : ∃ n, p_Mod_collectFrom_L217 Q n x2 (nI r0) σ := by
  refine lpS (S := xS) (fun f i τ => p_Mod_collectFrom_L217 Q f x2 (nI (r0 + i)) τ) (fun i τ => RM σ τ A mn ro m r0 pl i) (R - r0) ?_ ?_ (s := σ) ?_
  · intro f i τ hi hC hk
    show b_Mod_collectFrom_L217 (p_Mod_collectFrom_L217 Q f) Q x2 (nI (r0 + i)) τ
    unfold b_Mod_collectFrom_L217
    obtain ⟨C1, C2, C3, C4, C5, C6, C7, C8, C9, CA, CB⟩ := id hC
    have l1 : ¬ R ≤ r0 + i := by omega
    have f13 : τ 31 13 = nI R := by rw [C9 13 (by decide)]; exact h13
    have f52 : τ 52 = σ 52 := C8 52 (by decide) (by decide) (by decide) (by decide) (by decide) (by decide)
    have f42 : τ 42 = σ 42 := C8 42 (by decide) (by decide) (by decide) (by decide) (by decide) (by decide)
    simp (disch := omega) only [forall_eq, true_and, and_true, and_self, not_true_eq_false, not_false_eq_true, false_imp_iff, true_imp_iff, imp_self, implies_true, ne_eq, reduceIte, cl, cl0, cl1, cl2, vpn, vp0, le8, le16, le40, le640, le1400, le6400, lt8, lt16, le15, le2, nI_leI, nI_ltI, nI_eq, nI_1, nI_add, n_le0, n_lt0, n_0le, n_eq0, n_eq1, n_eq2, n_m1, n_m1r, Nat.reduceEqDiff, Nat.reduceAdd, Int32.add_zero, nI_pred, div16, mul15, mul40, mul16, mul640, mulr16, xu_s, xu_c, xu_k, xu_cc, rows_xu, xf_s, xf_c, rows_xf, xul_c, rows_xul, xul_L, lgc, f13, l1]
    have hI := RI_all h i (by omega)
    have hs : SH A A mn (ro (r0 + i)) (plQ A mn ro m r0 pl i) (m (r0 + i)) := by
      have := RI_sh h hI (by omega)
      exact ⟨fun o ho => ho, this.inj, fun o ho => this.pg o ⟨ho, Or.inl ho⟩, fun o q ho hq => this.dis o q ⟨ho, Or.inl ho⟩ ⟨hq, Or.inl hq⟩⟩
    obtain ⟨m4, m2, mr⟩ := hrow (r0 + i) (by omega)
    refine e_mSlide (ro := ro (r0 + i)) (m := m (r0 + i)) (by omega) m4 (fun k hk => by rw [f52]; exact mr k hk) (fun o ho => ?_) hs (by rw [(C5 (r0 + i) (by omega)).1]; exact m2) C1 C2 C3 _ (fun τ1 hC1 => hk _ ?_)
    · obtain ⟨b1, b2, b3⟩ := hB o ho
      refine ⟨b1, by rw [f42]; exact b2, b3, ?_⟩
      obtain ⟨a, k, k1, k2⟩ := hI.1 o ho (Or.inl ho)
      have := ((hrow (g o) (h.2.1 o ho).1).2.2 k k1).2
      omega
    · obtain ⟨D1, D2, D3, D4, D5, D6, D7, D8⟩ := hC1
      refine ⟨?_, ?_, ?_, fun q q1 q2 => ?_, fun q hq => ?_, fun p => ?_, ?_, fun d d1 d2 d3 d4 d5 d6 => ?_, fun k k1 => ?_, fun o ho => ?_, fun p hp => ?_⟩
      · simp (disch := omega) only [forall_eq, true_and, and_true, and_self, not_true_eq_false, not_false_eq_true, false_imp_iff, true_imp_iff, imp_self, implies_true, ne_eq, reduceIte, cl, cl0, cl1, cl2, vpn, vp0, le8, le16, le40, le640, le1400, le6400, lt8, lt16, le15, le2, nI_leI, nI_ltI, nI_eq, nI_1, nI_add, n_le0, n_lt0, n_0le, n_eq0, n_eq1, n_eq2, n_m1, n_m1r, Nat.reduceEqDiff, Nat.reduceAdd, Int32.add_zero, nI_pred, div16, mul15, mul40, mul16, mul640, mulr16, xu_s, xu_c, xu_k, xu_cc, rows_xu, xf_s, xf_c, rows_xf, xul_c, rows_xul, xul_L, lgc]; exact D1
      · simp (disch := omega) only [forall_eq, true_and, and_true, and_self, not_true_eq_false, not_false_eq_true, false_imp_iff, true_imp_iff, imp_self, implies_true, ne_eq, reduceIte, cl, cl0, cl1, cl2, vpn, vp0, le8, le16, le40, le640, le1400, le6400, lt8, lt16, le15, le2, nI_leI, nI_ltI, nI_eq, nI_1, nI_add, n_le0, n_lt0, n_0le, n_eq0, n_eq1, n_eq2, n_m1, n_m1r, Nat.reduceEqDiff, Nat.reduceAdd, Int32.add_zero, nI_pred, div16, mul15, mul40, mul16, mul640, mulr16, xu_s, xu_c, xu_k, xu_cc, rows_xu, xf_s, xf_c, rows_xf, xul_c, rows_xul, xul_L, lgc]; exact D2
      · simp (disch := omega) only [forall_eq, true_and, and_true, and_self, not_true_eq_false, not_false_eq_true, false_imp_iff, true_imp_iff, imp_self, implies_true, ne_eq, reduceIte, cl, cl0, cl1, cl2, vpn, vp0, le8, le16, le40, le640, le1400, le6400, lt8, lt16, le15, le2, nI_leI, nI_ltI, nI_eq, nI_1, nI_add, n_le0, n_lt0, n_0le, n_eq0, n_eq1, n_eq2, n_m1, n_m1r, Nat.reduceEqDiff, Nat.reduceAdd, Int32.add_zero, nI_pred, div16, mul15, mul40, mul16, mul640, mulr16, xu_s, xu_c, xu_k, xu_cc, rows_xu, xf_s, xf_c, rows_xf, xul_c, rows_xul, xul_L, lgc]; exact D3
      · simp (disch := omega) only [forall_eq, true_and, and_true, and_self, not_true_eq_false, not_false_eq_true, false_imp_iff, true_imp_iff, imp_self, implies_true, ne_eq, reduceIte, cl, cl0, cl1, cl2, vpn, vp0, le8, le16, le40, le640, le1400, le6400, lt8, lt16, le15, le2, nI_leI, nI_ltI, nI_eq, nI_1, nI_add, n_le0, n_lt0, n_0le, n_eq0, n_eq1, n_eq2, n_m1, n_m1r, Nat.reduceEqDiff, Nat.reduceAdd, Int32.add_zero, nI_pred, div16, mul15, mul40, mul16, mul640, mulr16, xu_s, xu_c, xu_k, xu_cc, rows_xu, xf_s, xf_c, rows_xf, xul_c, rows_xul, xul_L, lgc]
        by_cases e : q = r0 + i
        · rw [e, show r0 + i - r0 = i by omega, upd_s, upd_s]; exact ⟨rfl, rfl⟩
        · rw [upd_n _ _ e, upd_n _ _ e, D5 51 (by decide) (by decide) (by decide), D5 53 (by decide) (by decide) (by decide)]; exact C4 q q1 (by omega)
      · simp (disch := omega) only [forall_eq, true_and, and_true, and_self, not_true_eq_false, not_false_eq_true, false_imp_iff, true_imp_iff, imp_self, implies_true, ne_eq, reduceIte, cl, cl0, cl1, cl2, vpn, vp0, le8, le16, le40, le640, le1400, le6400, lt8, lt16, le15, le2, nI_leI, nI_ltI, nI_eq, nI_1, nI_add, n_le0, n_lt0, n_0le, n_eq0, n_eq1, n_eq2, n_m1, n_m1r, Nat.reduceEqDiff, Nat.reduceAdd, Int32.add_zero, nI_pred, div16, mul15, mul40, mul16, mul640, mulr16, xu_s, xu_c, xu_k, xu_cc, rows_xu, xf_s, xf_c, rows_xf, xul_c, rows_xul, xul_L, lgc]
        rw [D5 51 (by decide) (by decide) (by decide), D5 53 (by decide) (by decide) (by decide)]; exact C5 q (by omega)
      · simp (disch := omega) only [forall_eq, true_and, and_true, and_self, not_true_eq_false, not_false_eq_true, false_imp_iff, true_imp_iff, imp_self, implies_true, ne_eq, reduceIte, cl, cl0, cl1, cl2, vpn, vp0, le8, le16, le40, le640, le1400, le6400, lt8, lt16, le15, le2, nI_leI, nI_ltI, nI_eq, nI_1, nI_add, n_le0, n_lt0, n_0le, n_eq0, n_eq1, n_eq2, n_m1, n_m1r, Nat.reduceEqDiff, Nat.reduceAdd, Int32.add_zero, nI_pred, div16, mul15, mul40, mul16, mul640, mulr16, xu_s, xu_c, xu_k, xu_cc, rows_xu, xf_s, xf_c, rows_xf, xul_c, rows_xul, xul_L, lgc]
        exact fre_cw (ln := fun j => (slQ A mn ro m r0 pl j).1) C6 p
      · simp (disch := omega) only [forall_eq, true_and, and_true, and_self, not_true_eq_false, not_false_eq_true, false_imp_iff, true_imp_iff, imp_self, implies_true, ne_eq, reduceIte, cl, cl0, cl1, cl2, vpn, vp0, le8, le16, le40, le640, le1400, le6400, lt8, lt16, le15, le2, nI_leI, nI_ltI, nI_eq, nI_1, nI_add, n_le0, n_lt0, n_0le, n_eq0, n_eq1, n_eq2, n_m1, n_m1r, Nat.reduceEqDiff, Nat.reduceAdd, Int32.add_zero, nI_pred, div16, mul15, mul40, mul16, mul640, mulr16, xu_s, xu_c, xu_k, xu_cc, rows_xu, xf_s, xf_c, rows_xf, xul_c, rows_xul, xul_L, lgc]
        rw [D4, C7, mvQ_s, ← nI_add, Int32.add_assoc]; rfl
      · simp (disch := omega) only [forall_eq, true_and, and_true, and_self, not_true_eq_false, not_false_eq_true, false_imp_iff, true_imp_iff, imp_self, implies_true, ne_eq, reduceIte, cl, cl0, cl1, cl2, vpn, vp0, le8, le16, le40, le640, le1400, le6400, lt8, lt16, le15, le2, nI_leI, nI_ltI, nI_eq, nI_1, nI_add, n_le0, n_lt0, n_0le, n_eq0, n_eq1, n_eq2, n_m1, n_m1r, Nat.reduceEqDiff, Nat.reduceAdd, Int32.add_zero, nI_pred, div16, mul15, mul40, mul16, mul640, mulr16, xu_s, xu_c, xu_k, xu_cc, rows_xu, xf_s, xf_c, rows_xf, xul_c, rows_xul, xul_L, lgc]
        rw [D5 d d1 d2 d6]; exact C8 d d1 d2 d3 d4 d5 d6
      · simp (disch := omega) only [forall_eq, true_and, and_true, and_self, not_true_eq_false, not_false_eq_true, false_imp_iff, true_imp_iff, imp_self, implies_true, ne_eq, reduceIte, cl, cl0, cl1, cl2, vpn, vp0, le8, le16, le40, le640, le1400, le6400, lt8, lt16, le15, le2, nI_leI, nI_ltI, nI_eq, nI_1, nI_add, n_le0, n_lt0, n_0le, n_eq0, n_eq1, n_eq2, n_m1, n_m1r, Nat.reduceEqDiff, Nat.reduceAdd, Int32.add_zero, nI_pred, div16, mul15, mul40, mul16, mul640, mulr16, xu_s, xu_c, xu_k, xu_cc, rows_xu, xf_s, xf_c, rows_xf, xul_c, rows_xul, xul_L, lgc]
        rw [D6 k k1]; exact C9 k k1
      · simp (disch := omega) only [forall_eq, true_and, and_true, and_self, not_true_eq_false, not_false_eq_true, false_imp_iff, true_imp_iff, imp_self, implies_true, ne_eq, reduceIte, cl, cl0, cl1, cl2, vpn, vp0, le8, le16, le40, le640, le1400, le6400, lt8, lt16, le15, le2, nI_leI, nI_ltI, nI_eq, nI_1, nI_add, n_le0, n_lt0, n_0le, n_eq0, n_eq1, n_eq2, n_m1, n_m1r, Nat.reduceEqDiff, Nat.reduceAdd, Int32.add_zero, nI_pred, div16, mul15, mul40, mul16, mul640, mulr16, xu_s, xu_c, xu_k, xu_cc, rows_xu, xf_s, xf_c, rows_xf, xul_c, rows_xul, xul_L, lgc]
        rw [D7 o ho]; exact CA o ho
      · simp (disch := omega) only [forall_eq, true_and, and_true, and_self, not_true_eq_false, not_false_eq_true, false_imp_iff, true_imp_iff, imp_self, implies_true, ne_eq, reduceIte, cl, cl0, cl1, cl2, vpn, vp0, le8, le16, le40, le640, le1400, le6400, lt8, lt16, le15, le2, nI_leI, nI_ltI, nI_eq, nI_1, nI_add, n_le0, n_lt0, n_0le, n_eq0, n_eq1, n_eq2, n_m1, n_m1r, Nat.reduceEqDiff, Nat.reduceAdd, Int32.add_zero, nI_pred, div16, mul15, mul40, mul16, mul640, mulr16, xu_s, xu_c, xu_k, xu_cc, rows_xu, xf_s, xf_c, rows_xf, xul_c, rows_xul, xul_L, lgc]
        rw [D8 p hp]; exact CB p hp
  · intro f τ hC
    show b_Mod_collectFrom_L217 (p_Mod_collectFrom_L217 Q f) Q x2 (nI (r0 + (R - r0))) τ
    unfold b_Mod_collectFrom_L217
    have f13 : τ 31 13 = nI R := by rw [hC.2.2.2.2.2.2.2.2.1 13 (by decide)]; exact h13
    rw [show r0 + (R - r0) = R by omega]
    simp (disch := omega) only [forall_eq, true_and, and_true, and_self, not_true_eq_false, not_false_eq_true, false_imp_iff, true_imp_iff, imp_self, implies_true, ne_eq, reduceIte, cl, cl0, cl1, cl2, vpn, vp0, le8, le16, le40, le640, le1400, le6400, lt8, lt16, le15, le2, nI_leI, nI_ltI, nI_eq, nI_1, nI_add, n_le0, n_lt0, n_0le, n_eq0, n_eq1, n_eq2, n_m1, n_m1r, Nat.reduceEqDiff, Nat.reduceAdd, Int32.add_zero, nI_pred, div16, mul15, mul40, mul16, mul640, mulr16, xu_s, xu_c, xu_k, xu_cc, rows_xu, xf_s, xf_c, rows_xf, xul_c, rows_xul, xul_L, lgc, f13, Nat.le_refl]
    have := hQ τ hC
    simp (disch := omega) only [forall_eq, true_and, and_true, and_self, not_true_eq_false, not_false_eq_true, false_imp_iff, true_imp_iff, imp_self, implies_true, ne_eq, reduceIte, cl, cl0, cl1, cl2, vpn, vp0, le8, le16, le40, le640, le1400, le6400, lt8, lt16, le15, le2, nI_leI, nI_ltI, nI_eq, nI_1, nI_add, n_le0, n_lt0, n_0le, n_eq0, n_eq1, n_eq2, n_m1, n_m1r, Nat.reduceEqDiff, Nat.reduceAdd, Int32.add_zero, nI_pred, div16, mul15, mul40, mul16, mul640, mulr16, xu_s, xu_c, xu_k, xu_cc, rows_xu, xf_s, xf_c, rows_xf, xul_c, rows_xul, xul_L, lgc] at this
    exact this
  · refine ⟨h44, h49, h49', fun q q1 q2 => by omega, fun _ _ => ⟨rfl, rfl⟩, fun p => ⟨fun ⟨q, k, q1, q2, _⟩ => by omega, fun _ => rfl⟩, ?_, fun _ _ _ _ _ _ _ => rfl, fun _ _ => rfl, fun _ _ => rfl, fun _ _ => rfl⟩
    show _ = _ + nI 0; rw [nI_0, Int32.add_zero]
