theorem TR_c {σ τ ρ : xS} (h : TR σ ρ) (e : ∀ d, d ≠ 10 → τ d = σ d) : TR τ ρ := by
  have er : rowsF τ = rowsF σ := by
    funext q k
    unfold rowsF
    by_cases x : q < 8
    · rw [if_pos x, if_pos x, e (32 + q) (by omega)]
    · rw [if_neg x, if_neg x]
  unfold TR at h ⊢
  rw [er, e 20 (by decide), e 7 (by decide), e 22 (by decide), e 23 (by decide)]
  exact h
theorem Tk_det {σ1 σ2 ρ σ1' σ2' ρ1' ρ2' : xS} {r s q1 q2 : Nat} (h1 : Tk σ1 ρ r s σ1' ρ1' q1) (h2 : Tk σ2 ρ r s σ2' ρ2' q2) (e : ∀ d, d ≠ 10 → σ1 d = σ2 d) : q1 = q2 ∧ (∀ d, d ≠ 10 → σ1' d = σ2' d) := by
  have xuc : ∀ (a b : xS) (c k : Nat) (v : Int32), (∀ d, d ≠ 10 → a d = b d) → ∀ d, d ≠ 10 → xu a c k v d = xu b c k v d := fun a b c k v hab d hd => by
    by_cases x : d = c
    · subst x; rw [xu_cc, xu_cc, hab d hd]
    · rw [xu_c _ _ _ _ x, xu_c _ _ _ _ x]; exact hab d hd
  rcases h1 with ⟨a1, a2, a3, rfl, _⟩ | ⟨a0, p, a1, a2, a3, a4, rfl, _⟩
  · rcases h2 with ⟨b1, b2, b3, rfl, _⟩ | ⟨b0, p', b1, b2, b3, b4, _⟩
    · exact ⟨by rw [a3, b3], xuc _ _ _ _ _ e⟩
    · omega
  · rcases h2 with ⟨b1, b2, b3, _⟩ | ⟨b0, p', b1, b2, b3, b4, rfl, _⟩
    · omega
    · have : p = p' := by
        rcases Nat.lt_trichotomy p p' with x | x | x
        · exact absurd a2 (b3 p x)
        · exact x
        · exact absurd b2 (a3 p' x)
      subst this
      exact ⟨by rw [a4, b4], xuc _ _ _ _ _ (xuc _ _ _ _ _ (xuc _ _ _ _ _ (xuc _ _ _ _ _ e)))⟩
theorem Tk_noR {σ ρ σ' ρ' : xS} {r s q : Nat} (h : Tk σ ρ r s σ' ρ' q) : ¬ noR ρ r s := fun hno => by
  rcases h with ⟨b1, b2, _⟩ | ⟨b0, p, b1, b2, _⟩
  · have := hno.1; omega
  · exact hno.2 p b1 b2
def npF (p qs : Nat → Nat) (k : Nat) (f : Nat → Int32) : Prop := ∀ x, x < 640 → (∃ j, j < k ∧ p j = x ∧ f x = nI (qs j)) ∨ ((∀ j, j < k → p j ≠ x) ∧ f x = nI x)
theorem e_placeAll {σ ρ : xS} {r c : Nat} {p m : Nat → Nat} {σs ρs : Nat → xS} {qs : Nat → Nat} (hT : TR σ ρ) (hr : r < rN ρ) (e1 : σs 0 = σ) (e2 : ρs 0 = ρ) (hC : Ch r (fun k => m k + 1) σs ρs qs c) (hc : σ 3 3 = nI c) (c6 : c ≤ 640) (hp : ∀ k, k < c → σ 12 k = nI (p k) ∧ p k < 640 ∧ σ 29 (p k) &&& 15 = nI (m k) ∧ m k < 16) (hd : ∀ i j, i < j → j < c → p i ≠ p j) (Q : xS → Prop)
    (h : ∀ τ, (∀ d, d ≠ 10 → τ d = σs c d) → npF p qs c (τ 10) → Q τ) : p_Par_placeAll (nI r) σ Q := by
  have hr8 := (TR_at hT hr).1
  have hok := Ch_ok hT hr e1 e2 hC (fun k hk => ⟨by omega, by have := (hp k hk).2.2.2; omega⟩)
  have hfr : ∀ k, k ≤ c → ∀ d, d ≠ 20 → d ≠ 22 → d ≠ 23 → ¬ (32 ≤ d ∧ d < 40) → σs k d = σ d := by
    intro k
    induction k with
    | zero => intro _ d _ _ _ _; rw [e1]
    | succ k ih => intro hk d h1 h2 h3 h4; rw [(Tk_fr (hC k (by omega)) hr8).1 d h1 h2 h3 h4]; exact ih (by omega) d h1 h2 h3 h4
  unfold p_Par_placeAll
  refine e_startMoves _ (fun np hnp => ?_)
  refine lpS (S := xS) (fun f k τ => p_Par_placeAll_L9 Q f (nI r) (nI k) τ) (fun k τ => (∀ d, d ≠ 10 → τ d = σs k d) ∧ npF p qs k (τ 10)) c ?_ ?_ (s := va_up σ 10 np) ⟨fun d hd => by rw [xf_c _ _ _ hd, e1], fun x hx => Or.inr ⟨fun j hj => by omega, by rw [xf_s]; exact hnp x hx⟩⟩
  · intro f k τ hk ⟨g1, g2⟩ hn
    show b_Par_placeAll_L9 (p_Par_placeAll_L9 Q f) Q (nI r) (nI k) τ
    unfold b_Par_placeAll_L9 p_Hea_sizeOf p_Hea_fieldsOf
    have l1 : ¬ c ≤ k := by omega
    obtain ⟨a1, a2, a3, a4⟩ := hp k hk
    have t3 : τ 3 3 = nI c := by rw [g1 3 (by decide), hfr k (by omega) 3 (by decide) (by decide) (by decide) (by omega)]; exact hc
    have t12 : τ 12 k = nI (p k) := by rw [g1 12 (by decide), hfr k (by omega) 12 (by decide) (by decide) (by decide) (by omega)]; exact a1
    have t29 : τ 29 (p k) &&& 15 = nI (m k) := by rw [g1 29 (by decide), hfr k (by omega) 29 (by decide) (by decide) (by decide) (by omega)]; exact a3
    obtain ⟨o1, o2, _⟩ := hok k (by omega)
    simp (disch := omega) only [forall_eq, true_and, and_true, and_self, not_true_eq_false, not_false_eq_true, false_imp_iff, true_imp_iff, imp_self, implies_true, ne_eq, reduceIte, cl, cl0, cl1, cl2, vpn, vp0, le8, le16, le40, le640, le1400, le6400, lt8, lt16, le15, le2, nI_leI, nI_ltI, nI_eq, nI_1, nI_add, n_le0, n_lt0, n_0le, n_eq0, n_eq1, n_eq2, n_m1, n_m1r, Nat.reduceEqDiff, Nat.reduceAdd, Int32.add_zero, nI_pred, div16, mul15, mul40, mul16, mul640, mulr16, xu_s, xu_c, xu_k, xu_cc, rows_xu, xf_s, xf_c, rows_xf, xul_c, rows_xul, xul_L, lgc, t3, l1, t12, t29]
    refine tk_C (TR_c o1 g1) (by omega) ⟨by omega, by omega⟩ _ (fun τ' ρ' q hk' => ?_) (fun hno => absurd hno (Tk_noR (hC k hk)))
    obtain ⟨d1, d2⟩ := Tk_det hk' (hC k hk) g1
    subst d1
    have hq := (Tk_ok (TR_c o1 g1) (by omega) ⟨by omega, by omega⟩ hk').2.1
    have t12' : τ' 12 k = nI (p k) := by rw [d2 12 (by decide), hfr (k + 1) (by omega) 12 (by decide) (by decide) (by decide) (by omega)]; exact a1
    have t10 : τ' 10 = τ 10 := (Tk_fr hk' hr8).1 10 (by decide) (by decide) (by decide) (by omega)
    unfold p_Mem_noteMove
    simp (disch := omega) only [forall_eq, true_and, and_true, and_self, not_true_eq_false, not_false_eq_true, false_imp_iff, true_imp_iff, imp_self, implies_true, ne_eq, reduceIte, cl, cl0, cl1, cl2, vpn, vp0, le8, le16, le40, le640, le1400, le6400, lt8, lt16, le15, le2, nI_leI, nI_ltI, nI_eq, nI_1, nI_add, n_le0, n_lt0, n_0le, n_eq0, n_eq1, n_eq2, n_m1, n_m1r, Nat.reduceEqDiff, Nat.reduceAdd, Int32.add_zero, nI_pred, div16, mul15, mul40, mul16, mul640, mulr16, xu_s, xu_c, xu_k, xu_cc, rows_xu, xf_s, xf_c, rows_xf, xul_c, rows_xul, xul_L, lgc, t12']
    refine hn _ ⟨fun d hd' => ?_, fun x hx => ?_⟩
    · simp (disch := omega) only [forall_eq, true_and, and_true, and_self, not_true_eq_false, not_false_eq_true, false_imp_iff, true_imp_iff, imp_self, implies_true, ne_eq, reduceIte, cl, cl0, cl1, cl2, vpn, vp0, le8, le16, le40, le640, le1400, le6400, lt8, lt16, le15, le2, nI_leI, nI_ltI, nI_eq, nI_1, nI_add, n_le0, n_lt0, n_0le, n_eq0, n_eq1, n_eq2, n_m1, n_m1r, Nat.reduceEqDiff, Nat.reduceAdd, Int32.add_zero, nI_pred, div16, mul15, mul40, mul16, mul640, mulr16, xu_s, xu_c, xu_k, xu_cc, rows_xu, xf_s, xf_c, rows_xf, xul_c, rows_xul, xul_L, lgc]; exact d2 d hd'
    · simp (disch := omega) only [forall_eq, true_and, and_true, and_self, not_true_eq_false, not_false_eq_true, false_imp_iff, true_imp_iff, imp_self, implies_true, ne_eq, reduceIte, cl, cl0, cl1, cl2, vpn, vp0, le8, le16, le40, le640, le1400, le6400, lt8, lt16, le15, le2, nI_leI, nI_ltI, nI_eq, nI_1, nI_add, n_le0, n_lt0, n_0le, n_eq0, n_eq1, n_eq2, n_m1, n_m1r, Nat.reduceEqDiff, Nat.reduceAdd, Int32.add_zero, nI_pred, div16, mul15, mul40, mul16, mul640, mulr16, xu_s, xu_c, xu_k, xu_cc, rows_xu, xf_s, xf_c, rows_xf, xul_c, rows_xul, xul_L, lgc]
      rw [t10]
      by_cases ex : x = p k
      · left; exact ⟨k, by omega, ex.symm, by rw [ex, upd_s]⟩
      · rw [upd_n _ _ ex]
        rcases g2 x hx with ⟨j, j1, j2, j3⟩ | ⟨y1, y2⟩
        · exact Or.inl ⟨j, by omega, j2, j3⟩
        · refine Or.inr ⟨fun j hj e => ?_, y2⟩
          by_cases ej : j = k
          · rw [ej] at e; exact ex e.symm
          · exact y1 j (by omega) e
  · intro f τ ⟨g1, g2⟩
    show b_Par_placeAll_L9 (p_Par_placeAll_L9 Q f) Q (nI r) (nI c) τ
    unfold b_Par_placeAll_L9
    have t3 : τ 3 3 = nI c := by rw [g1 3 (by decide), hfr c (Nat.le_refl _) 3 (by decide) (by decide) (by decide) (by omega)]; exact hc
    simp (disch := omega) only [forall_eq, true_and, and_true, and_self, not_true_eq_false, not_false_eq_true, false_imp_iff, true_imp_iff, imp_self, implies_true, ne_eq, reduceIte, cl, cl0, cl1, cl2, vpn, vp0, le8, le16, le40, le640, le1400, le6400, lt8, lt16, le15, le2, nI_leI, nI_ltI, nI_eq, nI_1, nI_add, n_le0, n_lt0, n_0le, n_eq0, n_eq1, n_eq2, n_m1, n_m1r, Nat.reduceEqDiff, Nat.reduceAdd, Int32.add_zero, nI_pred, div16, mul15, mul40, mul16, mul640, mulr16, xu_s, xu_c, xu_k, xu_cc, rows_xu, xf_s, xf_c, rows_xf, xul_c, rows_xul, xul_L, lgc, t3, Nat.le_refl]
    exact h τ g1 g2
def lfP (pt qs pl : Nat → Nat) : Nat → Nat → Nat := fun k => Nat.rec pl (fun k P => va_up P (pt k) (qs k)) k
theorem lfP_s (pt qs pl : Nat → Nat) (k : Nat) : lfP pt qs pl (k + 1) = va_up (lfP pt qs pl k) (pt k) (qs k) := rfl
theorem lfP_n {pt qs pl : Nat → Nat} {o : Nat} : ∀ k, (∀ j, j < k → pt j ≠ o) → lfP pt qs pl k o = pl o := by
  intro k
  induction k with
  | zero => intro _; rfl
  | succ k ih => intro h; rw [lfP_s, vu_n _ _ (fun e => h k (by omega) e.symm)]; exact ih (fun j hj => h j (by omega))
theorem lfP_y {pt qs pl : Nat → Nat} {j : Nat} : ∀ k, (∀ i j, i < j → j < k → pt i ≠ pt j) → j < k → lfP pt qs pl k (pt j) = qs j := by
  intro k
  induction k with
  | zero => intro _ h; omega
  | succ k ih =>
    intro hd hj
    rw [lfP_s]
    by_cases e : j = k
    · rw [e, vu_s]
    · rw [vu_n _ _ (hd j k (by omega) (by omega))]
      exact ih (fun a b h1 h2 => hd a b h1 (by omega)) (by omega)
theorem pt_cases (pt : Nat → Nat) (k o : Nat) : (∃ j, j < k ∧ pt j = o) ∨ ∀ j, j < k → pt j ≠ o := by
  by_cases x : ∃ j, j < k ∧ pt j = o
  · exact Or.inl x
  · exact Or.inr (fun j hj e => x ⟨j, hj, e⟩)
def LF (B : Nat → Prop) (pl mn pt qs : Nat → Nat) (c : Nat) : Prop := (∀ k, k < c → B (pt k) ∧ qs k + mn (pt k) < 640) ∧ (∀ i j, i < j → j < c → pt i ≠ pt j) ∧ (∀ o k, B o → k < c → (pl o + mn o < qs k ∨ qs k + mn (pt k) < pl o)) ∧ (∀ i j, i < j → j < c → (qs i + mn (pt i) < qs j ∨ qs j + mn (pt j) < qs i)) ∧ lDis B pl mn
theorem LF_dis {B : Nat → Prop} {pl mn pt qs : Nat → Nat} {c k : Nat} (h : LF B pl mn pt qs c) (hk : k ≤ c) : lDis B (lfP pt qs pl k) mn := by
  obtain ⟨h1, h2, h3, h4, h5⟩ := h
  have hd : ∀ i j, i < j → j < k → pt i ≠ pt j := fun i j a b => h2 i j a (by omega)
  intro o q ho hq hne
  rcases pt_cases pt k o with ⟨i, i1, rfl⟩ | no
  · rw [lfP_y k hd i1]
    rcases pt_cases pt k q with ⟨j, j1, rfl⟩ | nq
    · rw [lfP_y k hd j1]
      rcases Nat.lt_trichotomy i j with x | x | x
      · exact h4 i j x (by omega)
      · exact absurd (by rw [x]) hne
      · exact (h4 j i x (by omega)).symm
    · rw [lfP_n k nq]; exact (h3 q i hq (by omega)).symm
  · rw [lfP_n k no]
    rcases pt_cases pt k q with ⟨j, j1, rfl⟩ | nq
    · rw [lfP_y k hd j1]; exact h3 o j ho (by omega)
    · rw [lfP_n k nq]; exact h5 o q ho hq hne
theorem LF_free {B : Nat → Prop} {pl mn pt qs : Nat → Nat} {c k : Nat} (h : LF B pl mn pt qs c) (hk : k < c) : ∀ o, B o → o ≠ pt k → (lfP pt qs pl k o + mn o < qs k ∨ qs k + mn (pt k) < lfP pt qs pl k o) := by
  obtain ⟨h1, h2, h3, h4, h5⟩ := h
  have hd : ∀ i j, i < j → j < k → pt i ≠ pt j := fun i j a b => h2 i j a (by omega)
  intro o ho hne
  rcases pt_cases pt k o with ⟨i, i1, rfl⟩ | no
  · rw [lfP_y k hd i1]; exact h4 i k (by omega) hk
  · rw [lfP_n k no]; exact h3 o k ho hk
theorem e_carryAll {τ : xS} {B : Nat → Prop} {pl mn pt qs : Nat → Nat} {hd : Nat → Int32} {fs fc : Nat → Nat → Int32} {c : Nat} (hL : LF B pl mn pt qs c) (hb : ∀ o, B o → pl o + mn o < 640 ∧ mn o < 16 ∧ hd o &&& 15 = nI (mn o)) (hc : τ 3 3 = nI c) (c6 : c ≤ 640) (h12 : ∀ k, k < c → τ 12 k = nI (pl (pt k))) (h10 : ∀ k, k < c → τ 10 (pl (pt k)) = nI (qs k)) (hR : HeapR (τ 28) (τ 29) B pl mn hd fs fc) (Q : xS → Prop)
    (h : ∀ s s', HeapR s s' B (lfP pt qs pl c) mn hd fs fc → p_Mem_followAllMoves (hp2 τ s s') (fun σ3 => Q σ3)) : ∃ n, p_Par_transfer_L7 Q n 0 τ := by
  have key := lpS (S := (Nat → Int32) × (Nat → Int32)) (fun f k x => p_Par_transfer_L7 Q f (nI k) (hp2 τ x.1 x.2)) (fun k x => HeapR x.1 x.2 B (lfP pt qs pl k) mn hd fs fc) c (by
    rintro f k ⟨s1, c1⟩ hk hs hn
    dsimp only at hs hn ⊢
    show b_Par_transfer_L7 (p_Par_transfer_L7 Q f) Q (nI k) _
    unfold b_Par_transfer_L7 p_Mem_newPlaceOf
    have l1 : ¬ c ≤ k := by omega
    obtain ⟨a1, a2⟩ := hL.1 k hk
    obtain ⟨b1, b2, b3⟩ := hb (pt k) a1
    have eP : lfP pt qs pl k (pt k) = pl (pt k) := lfP_n k (fun j hj => hL.2.1 j k hj hk)
    simp (disch := omega) only [forall_eq, true_and, and_true, and_self, not_true_eq_false, not_false_eq_true, false_imp_iff, true_imp_iff, imp_self, implies_true, ne_eq, reduceIte, cl, cl0, cl1, cl2, vpn, vp0, le8, le16, le40, le640, le1400, le6400, lt8, lt16, le15, le2, nI_leI, nI_ltI, nI_eq, nI_1, nI_add, n_le0, n_lt0, n_0le, n_eq0, n_eq1, n_eq2, n_m1, n_m1r, Nat.reduceEqDiff, Nat.reduceAdd, Int32.add_zero, nI_pred, div16, mul15, mul40, mul16, mul640, mulr16, xu_s, xu_c, xu_k, xu_cc, rows_xu, xf_s, xf_c, rows_xf, xul_c, rows_xul, xul_L, lgc, hc, l1, h12 k hk, h10 k hk]
    refine e_carry (m := mn (pt k)) b1 a2 ?_ ?_ _ ?_
    · have := hL.2.2.1 (pt k) k a1 hk; omega
    · have := (hs.1 (pt k) a1).2
      rw [eP] at this
      rw [this]; exact b3
    · refine hn (_, _) ?_
      have := HeapR_m hs (LF_dis hL (by omega)) a1 (LF_free hL hk)
      rw [eP] at this
      rw [lfP_s]
      exact this) (by
    rintro f ⟨s1, c1⟩ hs
    show b_Par_transfer_L7 (p_Par_transfer_L7 Q f) Q (nI c) _
    unfold b_Par_transfer_L7
    simp (disch := omega) only [forall_eq, true_and, and_true, and_self, not_true_eq_false, not_false_eq_true, false_imp_iff, true_imp_iff, imp_self, implies_true, ne_eq, reduceIte, cl, cl0, cl1, cl2, vpn, vp0, le8, le16, le40, le640, le1400, le6400, lt8, lt16, le15, le2, nI_leI, nI_ltI, nI_eq, nI_1, nI_add, n_le0, n_lt0, n_0le, n_eq0, n_eq1, n_eq2, n_m1, n_m1r, Nat.reduceEqDiff, Nat.reduceAdd, Int32.add_zero, nI_pred, div16, mul15, mul40, mul16, mul640, mulr16, xu_s, xu_c, xu_k, xu_cc, rows_xu, xf_s, xf_c, rows_xf, xul_c, rows_xul, xul_L, lgc, hc, Nat.le_refl]
    exact h s1 c1 hs) (s := (τ 28, τ 29)) hR
  dsimp only [hp2] at key
  rw [hp2_0] at key
  exact key
def LM (σ τ ρk : xS) (B : Nat → Prop) (pl pt qs g : Nat → Nat) (r k : Nat) : Prop := (∀ o, B o → τ 44 o = nI (lfP pt qs pl k o)) ∧ (∀ p, p < 640 → τ 49 p = -1 ∨ ∃ o, B o ∧ τ 49 p = nI o ∧ lfP pt qs pl k o = p) ∧ (∀ o, B o → τ 49 (lfP pt qs pl k o) = nI o) ∧ (∀ o, B o → τ 43 o = nI (lfP pt (fun _ => r) g k o)) ∧ R4 ρk τ ∧ (∀ d, d ≠ 43 → d ≠ 44 → d ≠ 49 → d ≠ 50 → d ≠ 51 → d ≠ 52 → d ≠ 53 → τ d = σ d)
theorem e_liftM {σ : xS} {B : Nat → Prop} {pl mn pt qs g : Nat → Nat} {r c : Nat} {σs ρs : Nat → xS} (hr : r < 8) (hL : LF B pl mn pt qs c) (hB : ∀ o, B o → o < 640 ∧ σ 42 o = nI (mn o) ∧ mn o < 16 ∧ pl o < 640) (hC : Ch r (fun k => mn (pt k) + 1) σs ρs qs c) (hT : ∀ k, k ≤ c → TR (σs k) (ρs k) ∧ r < rN (ρs k)) (hc : σ 31 26 = nI c) (c6 : c ≤ 640) (h57 : ∀ k, k < c → σ 57 k = nI (pt k))
    (h0 : LM σ σ (ρs 0) B pl pt qs g r 0) (Q : Int32 → xS → Prop) (h : ∀ τ, LM σ τ (ρs c) B pl pt qs g r c → Q (nI c) (xu τ 31 24 (σ 31 24 + nI c))) : ∃ n, p_Mod_lift_L36 Q n (nI r) 0 σ := by
  refine lpS (S := xS) (fun f k τ => p_Mod_lift_L36 Q f (nI r) (nI k) τ) (fun k τ => LM σ τ (ρs k) B pl pt qs g r k) c ?_ ?_ (s := σ) h0
  · intro f k τ hk hM hn
    show b_Mod_lift_L36 (p_Mod_lift_L36 Q f) Q (nI r) (nI k) τ
    unfold b_Mod_lift_L36
    obtain ⟨M1, M2, M3, M4, M5, M6⟩ := hM
    have l1 : ¬ c ≤ k := by omega
    obtain ⟨a1, a2⟩ := hL.1 k hk
    obtain ⟨b1, b2, b3, b4⟩ := hB (pt k) a1
    have t31 : τ 31 = σ 31 := M6 31 (by decide) (by decide) (by decide) (by decide) (by decide) (by decide) (by decide)
    have t57 : τ 57 = σ 57 := M6 57 (by decide) (by decide) (by decide) (by decide) (by decide) (by decide) (by decide)
    have t42 : τ 42 = σ 42 := M6 42 (by decide) (by decide) (by decide) (by decide) (by decide) (by decide) (by decide)
    have eP : lfP pt qs pl k (pt k) = pl (pt k) := lfP_n k (fun j hj => hL.2.1 j k hj hk)
    have e44 := M1 (pt k) a1
    rw [eP] at e44
    simp (disch := omega) only [forall_eq, true_and, and_true, and_self, not_true_eq_false, not_false_eq_true, false_imp_iff, true_imp_iff, imp_self, implies_true, ne_eq, reduceIte, cl, cl0, cl1, cl2, vpn, vp0, le8, le16, le40, le640, le1400, le6400, lt8, lt16, le15, le2, nI_leI, nI_ltI, nI_eq, nI_1, nI_add, n_le0, n_lt0, n_0le, n_eq0, n_eq1, n_eq2, n_m1, n_m1r, Nat.reduceEqDiff, Nat.reduceAdd, Int32.add_zero, nI_pred, div16, mul15, mul40, mul16, mul640, mulr16, xu_s, xu_c, xu_k, xu_cc, rows_xu, xf_s, xf_c, rows_xf, xul_c, rows_xul, xul_L, lgc, t31, hc, l1, t57, h57 k hk, e44, t42, b2]
    obtain ⟨T1, T2⟩ := hT k (by omega)
    refine tk_M (s := mn (pt k) + 1) T1 T2 ⟨by omega, by omega⟩ ⟨?_, ?_, ?_, ?_⟩ (hC k hk) _ (fun τ2 h4 f2 => ?_)
    · simp (disch := omega) only [forall_eq, true_and, and_true, and_self, not_true_eq_false, not_false_eq_true, false_imp_iff, true_imp_iff, imp_self, implies_true, ne_eq, reduceIte, cl, cl0, cl1, cl2, vpn, vp0, le8, le16, le40, le640, le1400, le6400, lt8, lt16, le15, le2, nI_leI, nI_ltI, nI_eq, nI_1, nI_add, n_le0, n_lt0, n_0le, n_eq0, n_eq1, n_eq2, n_m1, n_m1r, Nat.reduceEqDiff, Nat.reduceAdd, Int32.add_zero, nI_pred, div16, mul15, mul40, mul16, mul640, mulr16, xu_s, xu_c, xu_k, xu_cc, rows_xu, xf_s, xf_c, rows_xf, xul_c, rows_xul, xul_L, lgc]; exact M5.1
    · simp (disch := omega) only [forall_eq, true_and, and_true, and_self, not_true_eq_false, not_false_eq_true, false_imp_iff, true_imp_iff, imp_self, implies_true, ne_eq, reduceIte, cl, cl0, cl1, cl2, vpn, vp0, le8, le16, le40, le640, le1400, le6400, lt8, lt16, le15, le2, nI_leI, nI_ltI, nI_eq, nI_1, nI_add, n_le0, n_lt0, n_0le, n_eq0, n_eq1, n_eq2, n_m1, n_m1r, Nat.reduceEqDiff, Nat.reduceAdd, Int32.add_zero, nI_pred, div16, mul15, mul40, mul16, mul640, mulr16, xu_s, xu_c, xu_k, xu_cc, rows_xu, xf_s, xf_c, rows_xf, xul_c, rows_xul, xul_L, lgc]; exact M5.2.1
    · simp (disch := omega) only [forall_eq, true_and, and_true, and_self, not_true_eq_false, not_false_eq_true, false_imp_iff, true_imp_iff, imp_self, implies_true, ne_eq, reduceIte, cl, cl0, cl1, cl2, vpn, vp0, le8, le16, le40, le640, le1400, le6400, lt8, lt16, le15, le2, nI_leI, nI_ltI, nI_eq, nI_1, nI_add, n_le0, n_lt0, n_0le, n_eq0, n_eq1, n_eq2, n_m1, n_m1r, Nat.reduceEqDiff, Nat.reduceAdd, Int32.add_zero, nI_pred, div16, mul15, mul40, mul16, mul640, mulr16, xu_s, xu_c, xu_k, xu_cc, rows_xu, xf_s, xf_c, rows_xf, xul_c, rows_xul, xul_L, lgc]; exact M5.2.2.1
    · simp (disch := omega) only [forall_eq, true_and, and_true, and_self, not_true_eq_false, not_false_eq_true, false_imp_iff, true_imp_iff, imp_self, implies_true, ne_eq, reduceIte, cl, cl0, cl1, cl2, vpn, vp0, le8, le16, le40, le640, le1400, le6400, lt8, lt16, le15, le2, nI_leI, nI_ltI, nI_eq, nI_1, nI_add, n_le0, n_lt0, n_0le, n_eq0, n_eq1, n_eq2, n_m1, n_m1r, Nat.reduceEqDiff, Nat.reduceAdd, Int32.add_zero, nI_pred, div16, mul15, mul40, mul16, mul640, mulr16, xu_s, xu_c, xu_k, xu_cc, rows_xu, xf_s, xf_c, rows_xf, xul_c, rows_xul, xul_L, lgc]; exact M5.2.2.2
    have g43 := f2 43 (by decide) (by decide) (by decide) (by decide)
    have g44 := f2 44 (by decide) (by decide) (by decide) (by decide)
    have g49 := f2 49 (by decide) (by decide) (by decide) (by decide)
    simp (disch := omega) only [forall_eq, true_and, and_true, and_self, not_true_eq_false, not_false_eq_true, false_imp_iff, true_imp_iff, imp_self, implies_true, ne_eq, reduceIte, cl, cl0, cl1, cl2, vpn, vp0, le8, le16, le40, le640, le1400, le6400, lt8, lt16, le15, le2, nI_leI, nI_ltI, nI_eq, nI_1, nI_add, n_le0, n_lt0, n_0le, n_eq0, n_eq1, n_eq2, n_m1, n_m1r, Nat.reduceEqDiff, Nat.reduceAdd, Int32.add_zero, nI_pred, div16, mul15, mul40, mul16, mul640, mulr16, xu_s, xu_c, xu_k, xu_cc, rows_xu, xf_s, xf_c, rows_xf, xul_c, rows_xul, xul_L, lgc] at g43 g44 g49
    simp (disch := omega) only [forall_eq, true_and, and_true, and_self, not_true_eq_false, not_false_eq_true, false_imp_iff, true_imp_iff, imp_self, implies_true, ne_eq, reduceIte, cl, cl0, cl1, cl2, vpn, vp0, le8, le16, le40, le640, le1400, le6400, lt8, lt16, le15, le2, nI_leI, nI_ltI, nI_eq, nI_1, nI_add, n_le0, n_lt0, n_0le, n_eq0, n_eq1, n_eq2, n_m1, n_m1r, Nat.reduceEqDiff, Nat.reduceAdd, Int32.add_zero, nI_pred, div16, mul15, mul40, mul16, mul640, mulr16, xu_s, xu_c, xu_k, xu_cc, rows_xu, xf_s, xf_c, rows_xf, xul_c, rows_xul, xul_L, lgc, upd_s]
    have hfree := LF_free hL hk
    refine hn _ ⟨fun o ho => ?_, fun p hp => ?_, fun o ho => ?_, fun o ho => ?_, ⟨?_, ?_, ?_, ?_⟩, fun d d1 d2 d3 d4 d5 d6 d7 => ?_⟩
    · simp (disch := omega) only [forall_eq, true_and, and_true, and_self, not_true_eq_false, not_false_eq_true, false_imp_iff, true_imp_iff, imp_self, implies_true, ne_eq, reduceIte, cl, cl0, cl1, cl2, vpn, vp0, le8, le16, le40, le640, le1400, le6400, lt8, lt16, le15, le2, nI_leI, nI_ltI, nI_eq, nI_1, nI_add, n_le0, n_lt0, n_0le, n_eq0, n_eq1, n_eq2, n_m1, n_m1r, Nat.reduceEqDiff, Nat.reduceAdd, Int32.add_zero, nI_pred, div16, mul15, mul40, mul16, mul640, mulr16, xu_s, xu_c, xu_k, xu_cc, rows_xu, xf_s, xf_c, rows_xf, xul_c, rows_xul, xul_L, lgc]
      rw [lfP_s, g44]
      by_cases e : o = pt k
      · rw [e, upd_s, vu_s]
      · rw [upd_n _ _ e, vu_n _ _ e]; exact M1 o ho
    · simp (disch := omega) only [forall_eq, true_and, and_true, and_self, not_true_eq_false, not_false_eq_true, false_imp_iff, true_imp_iff, imp_self, implies_true, ne_eq, reduceIte, cl, cl0, cl1, cl2, vpn, vp0, le8, le16, le40, le640, le1400, le6400, lt8, lt16, le15, le2, nI_leI, nI_ltI, nI_eq, nI_1, nI_add, n_le0, n_lt0, n_0le, n_eq0, n_eq1, n_eq2, n_m1, n_m1r, Nat.reduceEqDiff, Nat.reduceAdd, Int32.add_zero, nI_pred, div16, mul15, mul40, mul16, mul640, mulr16, xu_s, xu_c, xu_k, xu_cc, rows_xu, xf_s, xf_c, rows_xf, xul_c, rows_xul, xul_L, lgc]
      rw [lfP_s, g49]
      by_cases e : p = qs k
      · right; exact ⟨pt k, a1, by rw [e, upd_s], by rw [vu_s, e]⟩
      · rw [upd_n _ _ e]
        by_cases e' : p = pl (pt k)
        · left; rw [e', upd_s]
        · rw [upd_n _ _ e']
          rcases M2 p hp with x | ⟨o, o1, o2, o3⟩
          · exact Or.inl x
          · have hne : o ≠ pt k := fun z => e' (by rw [← o3, z, eP])
            exact Or.inr ⟨o, o1, o2, by rw [vu_n _ _ hne]; exact o3⟩
    · simp (disch := omega) only [forall_eq, true_and, and_true, and_self, not_true_eq_false, not_false_eq_true, false_imp_iff, true_imp_iff, imp_self, implies_true, ne_eq, reduceIte, cl, cl0, cl1, cl2, vpn, vp0, le8, le16, le40, le640, le1400, le6400, lt8, lt16, le15, le2, nI_leI, nI_ltI, nI_eq, nI_1, nI_add, n_le0, n_lt0, n_0le, n_eq0, n_eq1, n_eq2, n_m1, n_m1r, Nat.reduceEqDiff, Nat.reduceAdd, Int32.add_zero, nI_pred, div16, mul15, mul40, mul16, mul640, mulr16, xu_s, xu_c, xu_k, xu_cc, rows_xu, xf_s, xf_c, rows_xf, xul_c, rows_xul, xul_L, lgc]
      rw [lfP_s, g49]
      by_cases e : o = pt k
      · rw [e, vu_s, upd_s]
      · rw [vu_n _ _ e]
        have x1 := hfree o ho e
        have x2 := LF_dis hL (show k ≤ c by omega) o (pt k) ho a1 e
        rw [eP] at x2
        rw [upd_n _ _ (by omega), upd_n _ _ (by omega)]
        exact M3 o ho
    · simp (disch := omega) only [forall_eq, true_and, and_true, and_self, not_true_eq_false, not_false_eq_true, false_imp_iff, true_imp_iff, imp_self, implies_true, ne_eq, reduceIte, cl, cl0, cl1, cl2, vpn, vp0, le8, le16, le40, le640, le1400, le6400, lt8, lt16, le15, le2, nI_leI, nI_ltI, nI_eq, nI_1, nI_add, n_le0, n_lt0, n_0le, n_eq0, n_eq1, n_eq2, n_m1, n_m1r, Nat.reduceEqDiff, Nat.reduceAdd, Int32.add_zero, nI_pred, div16, mul15, mul40, mul16, mul640, mulr16, xu_s, xu_c, xu_k, xu_cc, rows_xu, xf_s, xf_c, rows_xf, xul_c, rows_xul, xul_L, lgc]
      rw [lfP_s, g43]
      by_cases e : o = pt k
      · rw [e, upd_s, vu_s]
      · rw [upd_n _ _ e, vu_n _ _ e]; exact M4 o ho
    · simp (disch := omega) only [forall_eq, true_and, and_true, and_self, not_true_eq_false, not_false_eq_true, false_imp_iff, true_imp_iff, imp_self, implies_true, ne_eq, reduceIte, cl, cl0, cl1, cl2, vpn, vp0, le8, le16, le40, le640, le1400, le6400, lt8, lt16, le15, le2, nI_leI, nI_ltI, nI_eq, nI_1, nI_add, n_le0, n_lt0, n_0le, n_eq0, n_eq1, n_eq2, n_m1, n_m1r, Nat.reduceEqDiff, Nat.reduceAdd, Int32.add_zero, nI_pred, div16, mul15, mul40, mul16, mul640, mulr16, xu_s, xu_c, xu_k, xu_cc, rows_xu, xf_s, xf_c, rows_xf, xul_c, rows_xul, xul_L, lgc]; exact h4.1
    · simp (disch := omega) only [forall_eq, true_and, and_true, and_self, not_true_eq_false, not_false_eq_true, false_imp_iff, true_imp_iff, imp_self, implies_true, ne_eq, reduceIte, cl, cl0, cl1, cl2, vpn, vp0, le8, le16, le40, le640, le1400, le6400, lt8, lt16, le15, le2, nI_leI, nI_ltI, nI_eq, nI_1, nI_add, n_le0, n_lt0, n_0le, n_eq0, n_eq1, n_eq2, n_m1, n_m1r, Nat.reduceEqDiff, Nat.reduceAdd, Int32.add_zero, nI_pred, div16, mul15, mul40, mul16, mul640, mulr16, xu_s, xu_c, xu_k, xu_cc, rows_xu, xf_s, xf_c, rows_xf, xul_c, rows_xul, xul_L, lgc]; exact h4.2.1
    · simp (disch := omega) only [forall_eq, true_and, and_true, and_self, not_true_eq_false, not_false_eq_true, false_imp_iff, true_imp_iff, imp_self, implies_true, ne_eq, reduceIte, cl, cl0, cl1, cl2, vpn, vp0, le8, le16, le40, le640, le1400, le6400, lt8, lt16, le15, le2, nI_leI, nI_ltI, nI_eq, nI_1, nI_add, n_le0, n_lt0, n_0le, n_eq0, n_eq1, n_eq2, n_m1, n_m1r, Nat.reduceEqDiff, Nat.reduceAdd, Int32.add_zero, nI_pred, div16, mul15, mul40, mul16, mul640, mulr16, xu_s, xu_c, xu_k, xu_cc, rows_xu, xf_s, xf_c, rows_xf, xul_c, rows_xul, xul_L, lgc]; exact h4.2.2.1
    · simp (disch := omega) only [forall_eq, true_and, and_true, and_self, not_true_eq_false, not_false_eq_true, false_imp_iff, true_imp_iff, imp_self, implies_true, ne_eq, reduceIte, cl, cl0, cl1, cl2, vpn, vp0, le8, le16, le40, le640, le1400, le6400, lt8, lt16, le15, le2, nI_leI, nI_ltI, nI_eq, nI_1, nI_add, n_le0, n_lt0, n_0le, n_eq0, n_eq1, n_eq2, n_m1, n_m1r, Nat.reduceEqDiff, Nat.reduceAdd, Int32.add_zero, nI_pred, div16, mul15, mul40, mul16, mul640, mulr16, xu_s, xu_c, xu_k, xu_cc, rows_xu, xf_s, xf_c, rows_xf, xul_c, rows_xul, xul_L, lgc]; exact h4.2.2.2
    · simp (disch := omega) only [forall_eq, true_and, and_true, and_self, not_true_eq_false, not_false_eq_true, false_imp_iff, true_imp_iff, imp_self, implies_true, ne_eq, reduceIte, cl, cl0, cl1, cl2, vpn, vp0, le8, le16, le40, le640, le1400, le6400, lt8, lt16, le15, le2, nI_leI, nI_ltI, nI_eq, nI_1, nI_add, n_le0, n_lt0, n_0le, n_eq0, n_eq1, n_eq2, n_m1, n_m1r, Nat.reduceEqDiff, Nat.reduceAdd, Int32.add_zero, nI_pred, div16, mul15, mul40, mul16, mul640, mulr16, xu_s, xu_c, xu_k, xu_cc, rows_xu, xf_s, xf_c, rows_xf, xul_c, rows_xul, xul_L, lgc]
      rw [f2 d d4 d5 d6 d7]
      simp (disch := omega) only [forall_eq, true_and, and_true, and_self, not_true_eq_false, not_false_eq_true, false_imp_iff, true_imp_iff, imp_self, implies_true, ne_eq, reduceIte, cl, cl0, cl1, cl2, vpn, vp0, le8, le16, le40, le640, le1400, le6400, lt8, lt16, le15, le2, nI_leI, nI_ltI, nI_eq, nI_1, nI_add, n_le0, n_lt0, n_0le, n_eq0, n_eq1, n_eq2, n_m1, n_m1r, Nat.reduceEqDiff, Nat.reduceAdd, Int32.add_zero, nI_pred, div16, mul15, mul40, mul16, mul640, mulr16, xu_s, xu_c, xu_k, xu_cc, rows_xu, xf_s, xf_c, rows_xf, xul_c, rows_xul, xul_L, lgc]
      exact M6 d d1 d2 d3 d4 d5 d6 d7
  · intro f τ hM
    show b_Mod_lift_L36 (p_Mod_lift_L36 Q f) Q (nI r) (nI c) τ
    unfold b_Mod_lift_L36
    have t31 : τ 31 = σ 31 := hM.2.2.2.2.2 31 (by decide) (by decide) (by decide) (by decide) (by decide) (by decide) (by decide)
    simp (disch := omega) only [forall_eq, true_and, and_true, and_self, not_true_eq_false, not_false_eq_true, false_imp_iff, true_imp_iff, imp_self, implies_true, ne_eq, reduceIte, cl, cl0, cl1, cl2, vpn, vp0, le8, le16, le40, le640, le1400, le6400, lt8, lt16, le15, le2, nI_leI, nI_ltI, nI_eq, nI_1, nI_add, n_le0, n_lt0, n_0le, n_eq0, n_eq1, n_eq2, n_m1, n_m1r, Nat.reduceEqDiff, Nat.reduceAdd, Int32.add_zero, nI_pred, div16, mul15, mul40, mul16, mul640, mulr16, xu_s, xu_c, xu_k, xu_cc, rows_xu, xf_s, xf_c, rows_xf, xul_c, rows_xul, xul_L, lgc, t31, hc, Nat.le_refl]
    exact h τ hM
