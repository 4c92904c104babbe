theorem e_leastFree {σ : xS} (Q : Int32 → xS → Prop) (hy : ∀ p, p < 40 → σ 20 p = -1 → (∀ p', p' < p → ¬ σ 20 p' = -1) → Q (nI p) σ) (hn : (∀ p, p < 40 → ¬ σ 20 p = -1) → Q (-1) σ) : p_Reg_leastFreePage σ Q := by
  unfold p_Reg_leastFreePage
  refine lpI (fun f i => p_Reg_leastFreePage_L2 Q f (nI i) σ) (fun i => ∀ p, p < i → ¬ σ 20 p = -1) 40 (fun f i hi hc hk => ?_) (fun f hc => ?_) (fun p hp => by omega)
  · show b_Reg_leastFreePage_L2 (p_Reg_leastFreePage_L2 Q f) Q (nI i) σ
    unfold b_Reg_leastFreePage_L2
    have l1 : ¬ 40 ≤ i := by omega
    simp (disch := omega) only [forall_eq, true_and, and_true, and_self, not_true_eq_false, not_false_eq_true, false_imp_iff, true_imp_iff, imp_self, implies_true, ne_eq, reduceIte, cl, cl0, cl1, cl2, vpn, vp0, le8, le16, le40, le640, le1400, le6400, lt8, lt16, le15, le2, nI_leI, nI_ltI, nI_eq, nI_1, nI_add, n_le0, n_lt0, n_0le, n_eq0, n_eq1, n_eq2, n_m1, n_m1r, Nat.reduceEqDiff, Nat.reduceAdd, Int32.add_zero, nI_pred, div16, mul15, mul40, mul16, mul640, mulr16, xu_s, xu_c, xu_k, xu_cc, rows_xu, xf_s, xf_c, rows_xf, xul_c, rows_xul, xul_L, lgc, l1]
    refine ⟨fun e => hk (fun p hp => ?_), fun e => hy i hi e hc⟩
    by_cases x : p = i
    · rw [x]; exact e
    · exact hc p (by omega)
  · show b_Reg_leastFreePage_L2 (p_Reg_leastFreePage_L2 Q f) Q (nI 40) σ
    unfold b_Reg_leastFreePage_L2
    simp (disch := omega) only [forall_eq, true_and, and_true, and_self, not_true_eq_false, not_false_eq_true, false_imp_iff, true_imp_iff, imp_self, implies_true, ne_eq, reduceIte, cl, cl0, cl1, cl2, vpn, vp0, le8, le16, le40, le640, le1400, le6400, lt8, lt16, le15, le2, nI_leI, nI_ltI, nI_eq, nI_1, nI_add, n_le0, n_lt0, n_0le, n_eq0, n_eq1, n_eq2, n_m1, n_m1r, Nat.reduceEqDiff, Nat.reduceAdd, Int32.add_zero, nI_pred, div16, mul15, mul40, mul16, mul640, mulr16, xu_s, xu_c, xu_k, xu_cc, rows_xu, xf_s, xf_c, rows_xf, xul_c, rows_xul, xul_L, lgc, Nat.le_refl]
    exact hn hc
theorem e_mFreePage {σ : xS} (Q : Int32 → xS → Prop) (hy : ∀ p, p < 40 → σ 50 p = 0 → (∀ p', p' < p → ¬ σ 50 p' = 0) → Q (nI p) σ) (hn : (∀ p, p < 40 → ¬ σ 50 p = 0) → Q (-1) σ) : p_Mod_freePage σ Q := by
  unfold p_Mod_freePage
  refine lpI (fun f i => p_Mod_freePage_L2 Q f (nI i) σ) (fun i => ∀ p, p < i → ¬ σ 50 p = 0) 40 (fun f i hi hc hk => ?_) (fun f hc => ?_) (fun p hp => by omega)
  · show b_Mod_freePage_L2 (p_Mod_freePage_L2 Q f) Q (nI i) σ
    unfold b_Mod_freePage_L2
    have l1 : ¬ 40 ≤ i := by omega
    simp (disch := omega) only [forall_eq, true_and, and_true, and_self, not_true_eq_false, not_false_eq_true, false_imp_iff, true_imp_iff, imp_self, implies_true, ne_eq, reduceIte, cl, cl0, cl1, cl2, vpn, vp0, le8, le16, le40, le640, le1400, le6400, lt8, lt16, le15, le2, nI_leI, nI_ltI, nI_eq, nI_1, nI_add, n_le0, n_lt0, n_0le, n_eq0, n_eq1, n_eq2, n_m1, n_m1r, Nat.reduceEqDiff, Nat.reduceAdd, Int32.add_zero, nI_pred, div16, mul15, mul40, mul16, mul640, mulr16, xu_s, xu_c, xu_k, xu_cc, rows_xu, xf_s, xf_c, rows_xf, xul_c, rows_xul, xul_L, lgc, l1]
    refine ⟨fun e => hk (fun p hp => ?_), fun e => hy i hi e hc⟩
    by_cases x : p = i
    · rw [x]; exact e
    · exact hc p (by omega)
  · show b_Mod_freePage_L2 (p_Mod_freePage_L2 Q f) Q (nI 40) σ
    unfold b_Mod_freePage_L2
    simp (disch := omega) only [forall_eq, true_and, and_true, and_self, not_true_eq_false, not_false_eq_true, false_imp_iff, true_imp_iff, imp_self, implies_true, ne_eq, reduceIte, cl, cl0, cl1, cl2, vpn, vp0, le8, le16, le40, le640, le1400, le6400, lt8, lt16, le15, le2, nI_leI, nI_ltI, nI_eq, nI_1, nI_add, n_le0, n_lt0, n_0le, n_eq0, n_eq1, n_eq2, n_m1, n_m1r, Nat.reduceEqDiff, Nat.reduceAdd, Int32.add_zero, nI_pred, div16, mul15, mul40, mul16, mul640, mulr16, xu_s, xu_c, xu_k, xu_cc, rows_xu, xf_s, xf_c, rows_xf, xul_c, rows_xul, xul_L, lgc, Nat.le_refl]
    exact hn hc
theorem tk_C {σ ρ : xS} {r s : Nat} (hT : TR σ ρ) (hr : r < rN ρ) (hs : 1 ≤ s ∧ s ≤ 16) (Q : Int32 → xS → Prop) (hy : ∀ σ' ρ' q, Tk σ ρ r s σ' ρ' q → Q (nI q) σ') (hn : noR ρ r s → Q (-1) σ) : p_Reg_takePlaces (nI r) (nI s) σ Q := by
  obtain ⟨a1, a2, a3, a4, a5, a6, a7, a8, a9, aA⟩ := TR_at hT hr
  have e23 : σ 23 r = nI (if mm ρ r = 0 then 16 else tf ρ r) := by
    rw [aA]
    by_cases x : mm ρ r = 0
    · rw [if_pos x, if_pos x]; rfl
    · rw [if_neg x, if_neg x]
  unfold p_Reg_takePlaces p_Reg_takePlaces_J23 p_Reg_nextPlaces p_Reg_addPage
  by_cases hf : 0 < mm ρ r ∧ tf ρ r + s ≤ 16
  · rw [if_neg (by omega)] at e23
    obtain ⟨k, ek⟩ : ∃ k, mm ρ r = k + 1 := ⟨mm ρ r - 1, by omega⟩
    have hk := (a7 k (by omega))
    have hh := hy _ _ _ (Or.inl ⟨hf.1, hf.2, rfl, rfl, rfl⟩)
    rw [ek, show k + 1 - 1 = k by omega] at hh
    have rk := hk.2.1
    rw [ek] at a9
    simp (disch := omega) only [forall_eq, true_and, and_true, and_self, not_true_eq_false, not_false_eq_true, false_imp_iff, true_imp_iff, imp_self, implies_true, ne_eq, reduceIte, cl, cl0, cl1, cl2, vpn, vp0, le8, le16, le40, le640, le1400, le6400, lt8, lt16, le15, le2, nI_leI, nI_ltI, nI_eq, nI_1, nI_add, n_le0, n_lt0, n_0le, n_eq0, n_eq1, n_eq2, n_m1, n_m1r, Nat.reduceEqDiff, Nat.reduceAdd, Int32.add_zero, nI_pred, div16, mul15, mul40, mul16, mul640, mulr16, xu_s, xu_c, xu_k, xu_cc, rows_xu, xf_s, xf_c, rows_xf, xul_c, rows_xul, xul_L, lgc, e23, hf.2, a9, hk.2.2.2]
    exact hh
  · have hov : mm ρ r = 0 ∨ 16 < tf ρ r + s := by omega
    have hov' : ¬ (if mm ρ r = 0 then 16 else tf ρ r) + s ≤ 16 := by
      by_cases x : mm ρ r = 0
      · rw [if_pos x]; omega
      · rw [if_neg x]; omega
    have l16 : (if mm ρ r = 0 then 16 else tf ρ r) ≤ 16 := by
      by_cases x : mm ρ r = 0
      · rw [if_pos x]; omega
      · rw [if_neg x]; omega
    obtain ⟨f', ef'⟩ : ∃ f', (if mm ρ r = 0 then 16 else tf ρ r) = f' := ⟨_, rfl⟩
    rw [ef'] at e23 hov' l16
    simp (disch := omega) only [forall_eq, true_and, and_true, and_self, not_true_eq_false, not_false_eq_true, false_imp_iff, true_imp_iff, imp_self, implies_true, ne_eq, reduceIte, cl, cl0, cl1, cl2, vpn, vp0, le8, le16, le40, le640, le1400, le6400, lt8, lt16, le15, le2, nI_leI, nI_ltI, nI_eq, nI_1, nI_add, n_le0, n_lt0, n_0le, n_eq0, n_eq1, n_eq2, n_m1, n_m1r, Nat.reduceEqDiff, Nat.reduceAdd, Int32.add_zero, nI_pred, div16, mul15, mul40, mul16, mul640, mulr16, xu_s, xu_c, xu_k, xu_cc, rows_xu, xf_s, xf_c, rows_xf, xul_c, rows_xul, xul_L, lgc, e23, hov']
    refine e_leastFree _ (fun p hp e hl => ?_) (fun hno => ?_)
    · have h50 := (TR_free hT hp).1.mpr e
      have hm := Tk_lt hT hr hp h50
      have hh := hy _ _ _ (Or.inr ⟨hov, p, hp, h50, fun p' hp' => fun x => hl p' hp' ((TR_free hT (by omega)).1.mp x), rfl, rfl, rfl⟩)
      simp (disch := omega) only [forall_eq, true_and, and_true, and_self, not_true_eq_false, not_false_eq_true, false_imp_iff, true_imp_iff, imp_self, implies_true, ne_eq, reduceIte, cl, cl0, cl1, cl2, vpn, vp0, le8, le16, le40, le640, le1400, le6400, lt8, lt16, le15, le2, nI_leI, nI_ltI, nI_eq, nI_1, nI_add, n_le0, n_lt0, n_0le, n_eq0, n_eq1, n_eq2, n_m1, n_m1r, Nat.reduceEqDiff, Nat.reduceAdd, Int32.add_zero, nI_pred, div16, mul15, mul40, mul16, mul640, mulr16, xu_s, xu_c, xu_k, xu_cc, rows_xu, xf_s, xf_c, rows_xf, xul_c, rows_xul, xul_L, lgc, a9, n10, nI_0, Nat.add_zero, Int32.zero_add, xu_xu, upd_s]
      exact hh
    · simp (disch := omega) only [forall_eq, true_and, and_true, and_self, not_true_eq_false, not_false_eq_true, false_imp_iff, true_imp_iff, imp_self, implies_true, ne_eq, reduceIte, cl, cl0, cl1, cl2, vpn, vp0, le8, le16, le40, le640, le1400, le6400, lt8, lt16, le15, le2, nI_leI, nI_ltI, nI_eq, nI_1, nI_add, n_le0, n_lt0, n_0le, n_eq0, n_eq1, n_eq2, n_m1, n_m1r, Nat.reduceEqDiff, Nat.reduceAdd, Int32.add_zero, nI_pred, div16, mul15, mul40, mul16, mul640, mulr16, xu_s, xu_c, xu_k, xu_cc, rows_xu, xf_s, xf_c, rows_xf, xul_c, rows_xul, xul_L, lgc, n10]
      exact hn ⟨hov, fun p hp x => hno p hp ((TR_free hT hp).1.mp x)⟩
def R4 (ρ τ : xS) : Prop := τ 50 = ρ 50 ∧ τ 51 = ρ 51 ∧ τ 52 = ρ 52 ∧ τ 53 = ρ 53
theorem tk_find {σ ρ τ : xS} {r s : Nat} (hT : TR σ ρ) (hr : r < rN ρ) (hs : 1 ≤ s ∧ s ≤ 16) (h4 : R4 ρ τ) (Q : Int32 → xS → Prop) (hy : ∀ σ' ρ' q, Tk σ ρ r s σ' ρ' q → Q (nI q) τ) (hn : noR ρ r s → Q (-1) τ) : p_Mod_find (nI r) (nI s) τ Q := by
  obtain ⟨a1, a2, a3, a4, a5, a6, a7, a8, a9, aA⟩ := TR_at hT hr
  obtain ⟨t50, t51, t52, t53⟩ := h4
  unfold p_Mod_find p_Mod_find_J48
  have free : (mm ρ r = 0 ∨ 16 < tf ρ r + s) → p_Mod_freePage τ (fun r5 σ4 => ((¬ r5 = (-1) → Q (16 * r5) σ4) ∧ (r5 = (-1) → Q (-1) σ4))) := fun hov => by
    refine e_mFreePage _ (fun p hp e hl => ?_) (fun hno => ?_)
    · rw [t50] at e hl
      have hh := hy _ _ _ (Or.inr ⟨hov, p, hp, e, hl, rfl, rfl, rfl⟩)
      rw [Nat.mul_comm] at hh
      simp (disch := omega) only [forall_eq, true_and, and_true, and_self, not_true_eq_false, not_false_eq_true, false_imp_iff, true_imp_iff, imp_self, implies_true, ne_eq, reduceIte, cl, cl0, cl1, cl2, vpn, vp0, le8, le16, le40, le640, le1400, le6400, lt8, lt16, le15, le2, nI_leI, nI_ltI, nI_eq, nI_1, nI_add, n_le0, n_lt0, n_0le, n_eq0, n_eq1, n_eq2, n_m1, n_m1r, Nat.reduceEqDiff, Nat.reduceAdd, Int32.add_zero, nI_pred, div16, mul15, mul40, mul16, mul640, mulr16, xu_s, xu_c, xu_k, xu_cc, rows_xu, xf_s, xf_c, rows_xf, xul_c, rows_xul, xul_L, lgc]
      exact hh
    · rw [t50] at hno
      simp (disch := omega) only [forall_eq, true_and, and_true, and_self, not_true_eq_false, not_false_eq_true, false_imp_iff, true_imp_iff, imp_self, implies_true, ne_eq, reduceIte, cl, cl0, cl1, cl2, vpn, vp0, le8, le16, le40, le640, le1400, le6400, lt8, lt16, le15, le2, nI_leI, nI_ltI, nI_eq, nI_1, nI_add, n_le0, n_lt0, n_0le, n_eq0, n_eq1, n_eq2, n_m1, n_m1r, Nat.reduceEqDiff, Nat.reduceAdd, Int32.add_zero, nI_pred, div16, mul15, mul40, mul16, mul640, mulr16, xu_s, xu_c, xu_k, xu_cc, rows_xu, xf_s, xf_c, rows_xf, xul_c, rows_xul, xul_L, lgc]
      exact hn ⟨hov, hno⟩
  rcases Nat.eq_zero_or_pos (mm ρ r) with h0 | h0
  · have hh := free (Or.inl h0)
    rw [h0] at a3
    simp (disch := omega) only [forall_eq, true_and, and_true, and_self, not_true_eq_false, not_false_eq_true, false_imp_iff, true_imp_iff, imp_self, implies_true, ne_eq, reduceIte, cl, cl0, cl1, cl2, vpn, vp0, le8, le16, le40, le640, le1400, le6400, lt8, lt16, le15, le2, nI_leI, nI_ltI, nI_eq, nI_1, nI_add, n_le0, n_lt0, n_0le, n_eq0, n_eq1, n_eq2, n_m1, n_m1r, Nat.reduceEqDiff, Nat.reduceAdd, Int32.add_zero, nI_pred, div16, mul15, mul40, mul16, mul640, mulr16, xu_s, xu_c, xu_k, xu_cc, rows_xu, xf_s, xf_c, rows_xf, xul_c, rows_xul, xul_L, lgc, t51, a3]
    exact hh
  · have h0' : ¬ mm ρ r = 0 := by omega
    by_cases hov : 16 < tf ρ r + s
    · have hh := free (Or.inr hov)
      simp (disch := omega) only [forall_eq, true_and, and_true, and_self, not_true_eq_false, not_false_eq_true, false_imp_iff, true_imp_iff, imp_self, implies_true, ne_eq, reduceIte, cl, cl0, cl1, cl2, vpn, vp0, le8, le16, le40, le640, le1400, le6400, lt8, lt16, le15, le2, nI_leI, nI_ltI, nI_eq, nI_1, nI_add, n_le0, n_lt0, n_0le, n_eq0, n_eq1, n_eq2, n_m1, n_m1r, Nat.reduceEqDiff, Nat.reduceAdd, Int32.add_zero, nI_pred, div16, mul15, mul40, mul16, mul640, mulr16, xu_s, xu_c, xu_k, xu_cc, rows_xu, xf_s, xf_c, rows_xf, xul_c, rows_xul, xul_L, lgc, t51, a3, h0', t53, a4, hov]
      exact hh
    · obtain ⟨k, ek⟩ : ∃ k, mm ρ r = k + 1 := ⟨mm ρ r - 1, by omega⟩
      have hk := (a7 k (by omega))
      have hh := hy _ _ _ (Or.inl ⟨h0, by omega, rfl, rfl, rfl⟩)
      rw [ek, show k + 1 - 1 = k by omega, Nat.mul_comm] at hh
      rw [ek] at a3
      have rk := hk.2.1
      have ei : nI (40 * r + (k + 1)) - 1 = nI (40 * r + k) := nI_pred (40 * r + k)
      have kz : ¬ k + 1 = 0 := by omega
      simp (disch := omega) only [forall_eq, true_and, and_true, and_self, not_true_eq_false, not_false_eq_true, false_imp_iff, true_imp_iff, imp_self, implies_true, ne_eq, reduceIte, cl, cl0, cl1, cl2, vpn, vp0, le8, le16, le40, le640, le1400, le6400, lt8, lt16, le15, le2, nI_leI, nI_ltI, nI_eq, nI_1, nI_add, n_le0, n_lt0, n_0le, n_eq0, n_eq1, n_eq2, n_m1, n_m1r, Nat.reduceEqDiff, Nat.reduceAdd, Int32.add_zero, nI_pred, div16, mul15, mul40, mul16, mul640, mulr16, xu_s, xu_c, xu_k, xu_cc, rows_xu, xf_s, xf_c, rows_xf, xul_c, rows_xul, xul_L, lgc, t51, a3, kz, t53, a4, hov, t52, hk.1, ei]
      exact hh
theorem tk_M {σ ρ τ : xS} {r s : Nat} (hT : TR σ ρ) (hr : r < rN ρ) (hs : 1 ≤ s ∧ s ≤ 16) (h4 : R4 ρ τ) {σ' ρ' : xS} {q : Nat} (hk : Tk σ ρ r s σ' ρ' q) (Q : Int32 → xS → Prop) (h : ∀ τ', R4 ρ' τ' → (∀ d, d ≠ 50 → d ≠ 51 → d ≠ 52 → d ≠ 53 → τ' d = τ d) → Q (nI q) τ') : p_Mod_take (nI r) (nI s) τ Q := by
  obtain ⟨a1, a2, a3, a4, a5, a6, a7, a8, a9, aA⟩ := TR_at hT hr
  obtain ⟨t50, t51, t52, t53⟩ := id h4
  unfold p_Mod_take p_Mod_take_J37 p_Mod_take_J38 p_Mod_take_J88
  have hfree : ∀ p, p < 40 → ρ 50 p = 0 → ¬ noR ρ r s := fun p hp e x => x.2 p hp e
  refine tk_find hT hr hs h4 _ (fun σ1 ρ1 q1 hk1 => ?_) (fun hno => ?_)
  · have eq : q1 = q := by
      rcases hk1 with ⟨b1, b2, b3, _⟩ | ⟨b0, p, b1, b2, b3, b4, _⟩
      · rcases hk with ⟨c1, c2, c3, _⟩ | ⟨c0, p', c1, c2, c3, c4, _⟩
        · rw [b3, c3]
        · omega
      · rcases hk with ⟨c1, c2, c3, _⟩ | ⟨c0, p', c1, c2, c3, c4, _⟩
        · omega
        · have : p = p' := by
            rcases Nat.lt_trichotomy p p' with x | x | x
            · exact absurd b2 (c3 p x)
            · exact x
            · exact absurd c2 (b3 p' x)
          rw [b4, c4, this]
    subst eq
    rcases hk with ⟨b1, b2, b3, rfl, rfl⟩ | ⟨b0, p, b1, b2, b3, rfl, rfl, rfl⟩
    · have nz : ¬ mm ρ r = 0 := by omega
      have hov : ¬ 16 < tf ρ r + s := by omega
      simp (disch := omega) only [forall_eq, true_and, and_true, and_self, not_true_eq_false, not_false_eq_true, false_imp_iff, true_imp_iff, imp_self, implies_true, ne_eq, reduceIte, cl, cl0, cl1, cl2, vpn, vp0, le8, le16, le40, le640, le1400, le6400, lt8, lt16, le15, le2, nI_leI, nI_ltI, nI_eq, nI_1, nI_add, n_le0, n_lt0, n_0le, n_eq0, n_eq1, n_eq2, n_m1, n_m1r, Nat.reduceEqDiff, Nat.reduceAdd, Int32.add_zero, nI_pred, div16, mul15, mul40, mul16, mul640, mulr16, xu_s, xu_c, xu_k, xu_cc, rows_xu, xf_s, xf_c, rows_xf, xul_c, rows_xul, xul_L, lgc, t51, a3, nz, t53, a4, hov, n10]
      refine h _ ⟨?_, ?_, ?_, ?_⟩ (fun d d1 d2 d3 d4 => ?_)
      · simp (disch := omega) only [forall_eq, true_and, and_true, and_self, not_true_eq_false, not_false_eq_true, false_imp_iff, true_imp_iff, imp_self, implies_true, ne_eq, reduceIte, cl, cl0, cl1, cl2, vpn, vp0, le8, le16, le40, le640, le1400, le6400, lt8, lt16, le15, le2, nI_leI, nI_ltI, nI_eq, nI_1, nI_add, n_le0, n_lt0, n_0le, n_eq0, n_eq1, n_eq2, n_m1, n_m1r, Nat.reduceEqDiff, Nat.reduceAdd, Int32.add_zero, nI_pred, div16, mul15, mul40, mul16, mul640, mulr16, xu_s, xu_c, xu_k, xu_cc, rows_xu, xf_s, xf_c, rows_xf, xul_c, rows_xul, xul_L, lgc]; exact t50
      · simp (disch := omega) only [forall_eq, true_and, and_true, and_self, not_true_eq_false, not_false_eq_true, false_imp_iff, true_imp_iff, imp_self, implies_true, ne_eq, reduceIte, cl, cl0, cl1, cl2, vpn, vp0, le8, le16, le40, le640, le1400, le6400, lt8, lt16, le15, le2, nI_leI, nI_ltI, nI_eq, nI_1, nI_add, n_le0, n_lt0, n_0le, n_eq0, n_eq1, n_eq2, n_m1, n_m1r, Nat.reduceEqDiff, Nat.reduceAdd, Int32.add_zero, nI_pred, div16, mul15, mul40, mul16, mul640, mulr16, xu_s, xu_c, xu_k, xu_cc, rows_xu, xf_s, xf_c, rows_xf, xul_c, rows_xul, xul_L, lgc]; exact t51
      · simp (disch := omega) only [forall_eq, true_and, and_true, and_self, not_true_eq_false, not_false_eq_true, false_imp_iff, true_imp_iff, imp_self, implies_true, ne_eq, reduceIte, cl, cl0, cl1, cl2, vpn, vp0, le8, le16, le40, le640, le1400, le6400, lt8, lt16, le15, le2, nI_leI, nI_ltI, nI_eq, nI_1, nI_add, n_le0, n_lt0, n_0le, n_eq0, n_eq1, n_eq2, n_m1, n_m1r, Nat.reduceEqDiff, Nat.reduceAdd, Int32.add_zero, nI_pred, div16, mul15, mul40, mul16, mul640, mulr16, xu_s, xu_c, xu_k, xu_cc, rows_xu, xf_s, xf_c, rows_xf, xul_c, rows_xul, xul_L, lgc]; exact t52
      · simp (disch := omega) only [forall_eq, true_and, and_true, and_self, not_true_eq_false, not_false_eq_true, false_imp_iff, true_imp_iff, imp_self, implies_true, ne_eq, reduceIte, cl, cl0, cl1, cl2, vpn, vp0, le8, le16, le40, le640, le1400, le6400, lt8, lt16, le15, le2, nI_leI, nI_ltI, nI_eq, nI_1, nI_add, n_le0, n_lt0, n_0le, n_eq0, n_eq1, n_eq2, n_m1, n_m1r, Nat.reduceEqDiff, Nat.reduceAdd, Int32.add_zero, nI_pred, div16, mul15, mul40, mul16, mul640, mulr16, xu_s, xu_c, xu_k, xu_cc, rows_xu, xf_s, xf_c, rows_xf, xul_c, rows_xul, xul_L, lgc]; rw [t53]
      · simp (disch := omega) only [forall_eq, true_and, and_true, and_self, not_true_eq_false, not_false_eq_true, false_imp_iff, true_imp_iff, imp_self, implies_true, ne_eq, reduceIte, cl, cl0, cl1, cl2, vpn, vp0, le8, le16, le40, le640, le1400, le6400, lt8, lt16, le15, le2, nI_leI, nI_ltI, nI_eq, nI_1, nI_add, n_le0, n_lt0, n_0le, n_eq0, n_eq1, n_eq2, n_m1, n_m1r, Nat.reduceEqDiff, Nat.reduceAdd, Int32.add_zero, nI_pred, div16, mul15, mul40, mul16, mul640, mulr16, xu_s, xu_c, xu_k, xu_cc, rows_xu, xf_s, xf_c, rows_xf, xul_c, rows_xul, xul_L, lgc]
    · have hm := Tk_lt hT hr b1 b2
      have ed : p * 16 / 16 = p := by omega
      have fin : Q (nI (p * 16)) (xu (xu (xu (xu τ 52 (40 * r + mm ρ r) (nI p)) 51 r (nI (mm ρ r + 1))) 50 p 1) 53 r (nI s)) := by
        refine h _ ⟨?_, ?_, ?_, ?_⟩ (fun d d1 d2 d3 d4 => ?_)
        · simp (disch := omega) only [forall_eq, true_and, and_true, and_self, not_true_eq_false, not_false_eq_true, false_imp_iff, true_imp_iff, imp_self, implies_true, ne_eq, reduceIte, cl, cl0, cl1, cl2, vpn, vp0, le8, le16, le40, le640, le1400, le6400, lt8, lt16, le15, le2, nI_leI, nI_ltI, nI_eq, nI_1, nI_add, n_le0, n_lt0, n_0le, n_eq0, n_eq1, n_eq2, n_m1, n_m1r, Nat.reduceEqDiff, Nat.reduceAdd, Int32.add_zero, nI_pred, div16, mul15, mul40, mul16, mul640, mulr16, xu_s, xu_c, xu_k, xu_cc, rows_xu, xf_s, xf_c, rows_xf, xul_c, rows_xul, xul_L, lgc, t50]
        · simp (disch := omega) only [forall_eq, true_and, and_true, and_self, not_true_eq_false, not_false_eq_true, false_imp_iff, true_imp_iff, imp_self, implies_true, ne_eq, reduceIte, cl, cl0, cl1, cl2, vpn, vp0, le8, le16, le40, le640, le1400, le6400, lt8, lt16, le15, le2, nI_leI, nI_ltI, nI_eq, nI_1, nI_add, n_le0, n_lt0, n_0le, n_eq0, n_eq1, n_eq2, n_m1, n_m1r, Nat.reduceEqDiff, Nat.reduceAdd, Int32.add_zero, nI_pred, div16, mul15, mul40, mul16, mul640, mulr16, xu_s, xu_c, xu_k, xu_cc, rows_xu, xf_s, xf_c, rows_xf, xul_c, rows_xul, xul_L, lgc, t51]
        · simp (disch := omega) only [forall_eq, true_and, and_true, and_self, not_true_eq_false, not_false_eq_true, false_imp_iff, true_imp_iff, imp_self, implies_true, ne_eq, reduceIte, cl, cl0, cl1, cl2, vpn, vp0, le8, le16, le40, le640, le1400, le6400, lt8, lt16, le15, le2, nI_leI, nI_ltI, nI_eq, nI_1, nI_add, n_le0, n_lt0, n_0le, n_eq0, n_eq1, n_eq2, n_m1, n_m1r, Nat.reduceEqDiff, Nat.reduceAdd, Int32.add_zero, nI_pred, div16, mul15, mul40, mul16, mul640, mulr16, xu_s, xu_c, xu_k, xu_cc, rows_xu, xf_s, xf_c, rows_xf, xul_c, rows_xul, xul_L, lgc, t52]
        · simp (disch := omega) only [forall_eq, true_and, and_true, and_self, not_true_eq_false, not_false_eq_true, false_imp_iff, true_imp_iff, imp_self, implies_true, ne_eq, reduceIte, cl, cl0, cl1, cl2, vpn, vp0, le8, le16, le40, le640, le1400, le6400, lt8, lt16, le15, le2, nI_leI, nI_ltI, nI_eq, nI_1, nI_add, n_le0, n_lt0, n_0le, n_eq0, n_eq1, n_eq2, n_m1, n_m1r, Nat.reduceEqDiff, Nat.reduceAdd, Int32.add_zero, nI_pred, div16, mul15, mul40, mul16, mul640, mulr16, xu_s, xu_c, xu_k, xu_cc, rows_xu, xf_s, xf_c, rows_xf, xul_c, rows_xul, xul_L, lgc, t53]
        · simp (disch := omega) only [forall_eq, true_and, and_true, and_self, not_true_eq_false, not_false_eq_true, false_imp_iff, true_imp_iff, imp_self, implies_true, ne_eq, reduceIte, cl, cl0, cl1, cl2, vpn, vp0, le8, le16, le40, le640, le1400, le6400, lt8, lt16, le15, le2, nI_leI, nI_ltI, nI_eq, nI_1, nI_add, n_le0, n_lt0, n_0le, n_eq0, n_eq1, n_eq2, n_m1, n_m1r, Nat.reduceEqDiff, Nat.reduceAdd, Int32.add_zero, nI_pred, div16, mul15, mul40, mul16, mul640, mulr16, xu_s, xu_c, xu_k, xu_cc, rows_xu, xf_s, xf_c, rows_xf, xul_c, rows_xul, xul_L, lgc]
      rcases b0 with b0 | b0
      · rw [b0] at a3 fin
        simp (disch := omega) only [forall_eq, true_and, and_true, and_self, not_true_eq_false, not_false_eq_true, false_imp_iff, true_imp_iff, imp_self, implies_true, ne_eq, reduceIte, cl, cl0, cl1, cl2, vpn, vp0, le8, le16, le40, le640, le1400, le6400, lt8, lt16, le15, le2, nI_leI, nI_ltI, nI_eq, nI_1, nI_add, n_le0, n_lt0, n_0le, n_eq0, n_eq1, n_eq2, n_m1, n_m1r, Nat.reduceEqDiff, Nat.reduceAdd, Int32.add_zero, nI_pred, div16, mul15, mul40, mul16, mul640, mulr16, xu_s, xu_c, xu_k, xu_cc, rows_xu, xf_s, xf_c, rows_xf, xul_c, rows_xul, xul_L, lgc, t51, a3, ed, nar1, Int32.zero_add, xu_xu] at fin ⊢
        exact fin
      · by_cases nz : mm ρ r = 0
        · rw [nz] at a3 fin
          simp (disch := omega) only [forall_eq, true_and, and_true, and_self, not_true_eq_false, not_false_eq_true, false_imp_iff, true_imp_iff, imp_self, implies_true, ne_eq, reduceIte, cl, cl0, cl1, cl2, vpn, vp0, le8, le16, le40, le640, le1400, le6400, lt8, lt16, le15, le2, nI_leI, nI_ltI, nI_eq, nI_1, nI_add, n_le0, n_lt0, n_0le, n_eq0, n_eq1, n_eq2, n_m1, n_m1r, Nat.reduceEqDiff, Nat.reduceAdd, Int32.add_zero, nI_pred, div16, mul15, mul40, mul16, mul640, mulr16, xu_s, xu_c, xu_k, xu_cc, rows_xu, xf_s, xf_c, rows_xf, xul_c, rows_xul, xul_L, lgc, t51, a3, ed, nar1, Int32.zero_add, xu_xu] at fin ⊢
          exact fin
        · simp (disch := omega) only [forall_eq, true_and, and_true, and_self, not_true_eq_false, not_false_eq_true, false_imp_iff, true_imp_iff, imp_self, implies_true, ne_eq, reduceIte, cl, cl0, cl1, cl2, vpn, vp0, le8, le16, le40, le640, le1400, le6400, lt8, lt16, le15, le2, nI_leI, nI_ltI, nI_eq, nI_1, nI_add, n_le0, n_lt0, n_0le, n_eq0, n_eq1, n_eq2, n_m1, n_m1r, Nat.reduceEqDiff, Nat.reduceAdd, Int32.add_zero, nI_pred, div16, mul15, mul40, mul16, mul640, mulr16, xu_s, xu_c, xu_k, xu_cc, rows_xu, xf_s, xf_c, rows_xf, xul_c, rows_xul, xul_L, lgc, t51, a3, nz, t53, a4, b0, ed, nar1, Int32.zero_add, xu_xu]
          exact fin
  · exfalso
    rcases hk with ⟨b1, b2, _⟩ | ⟨b0, p, b1, b2, _⟩
    · have := hno.1; omega
    · exact hfree p b1 b2 hno
