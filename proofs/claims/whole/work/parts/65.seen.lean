theorem lpI (P : Nat → Nat → Prop) (C : Nat → Prop) (N : Nat) (h : ∀ n i, i < N → C i → (C (i + 1) → P n (i + 1)) → P (n + 1) i) (hN : ∀ n, C N → P (n + 1) N) (h0 : C 0) : ∃ n, P n 0 :=
  lpR (S := Nat) P (fun i s => s = i ∧ C i) N (fun n i s hi hs hk => by
    obtain ⟨rfl, hc⟩ := hs
    exact h n s hi hc (fun hc' => hk _ ⟨rfl, hc'⟩)) (fun n s hs => by
    obtain ⟨rfl, hc⟩ := hs
    exact hN n hc) ⟨rfl, h0⟩
theorem e_has {σ : xS} {n : Nat} (hn : σ 9 1 = nI n) (h6 : n ≤ 640) (x : Int32) (Q : Int32 → xS → Prop) (hy : (∃ k, k < n ∧ σ 25 k = x) → Q 1 σ) (hno : (∀ k, k < n → σ 25 k ≠ x) → Q 0 σ) : p_Lin_has_9 x σ Q := by
  show ∃ f, p_Lin_has_9_L2 Q f x (nI 0) σ
  refine lpI (fun f i => p_Lin_has_9_L2 Q f x (nI i) σ) (fun i => ∀ k, k < i → σ 25 k ≠ x) n (fun f i hi hc hk => ?_) (fun f hc => ?_) (fun k hk => absurd hk (Nat.not_lt_zero _))
  · show b_Lin_has_9_L2 (p_Lin_has_9_L2 Q f) Q x (nI i) σ
    unfold b_Lin_has_9_L2
    have : ¬ n ≤ i := by omega
    simp (disch := omega) only [forall_eq, true_and, and_true, and_self, not_true_eq_false, not_false_eq_true, false_imp_iff, true_imp_iff, imp_self, implies_true, ne_eq, reduceIte, cl, cl0, cl1, cl2, vpn, vp0, le8, le16, le40, le640, le1400, le6400, lt8, lt16, le15, le2, nI_leI, nI_ltI, nI_eq, nI_1, nI_add, n_le0, n_lt0, n_0le, n_eq0, n_eq1, n_eq2, n_m1, n_m1r, Nat.reduceEqDiff, Nat.reduceAdd, Int32.add_zero, nI_pred, div16, mul15, mul40, mul16, mul640, mulr16, xu_s, xu_c, xu_k, xu_cc, rows_xu, xf_s, xf_c, rows_xf, xul_c, rows_xul, xul_L, lgc, hn, this]
    refine ⟨fun e => hk (fun k hki => ?_), fun e => hy ⟨i, hi, e⟩⟩
    by_cases e' : k = i
    · rw [e']; exact e
    · exact hc k (by omega)
  · show b_Lin_has_9_L2 (p_Lin_has_9_L2 Q f) Q x (nI n) σ
    unfold b_Lin_has_9_L2
    simp (disch := omega) only [forall_eq, true_and, and_true, and_self, not_true_eq_false, not_false_eq_true, false_imp_iff, true_imp_iff, imp_self, implies_true, ne_eq, reduceIte, cl, cl0, cl1, cl2, vpn, vp0, le8, le16, le40, le640, le1400, le6400, lt8, lt16, le15, le2, nI_leI, nI_ltI, nI_eq, nI_1, nI_add, n_le0, n_lt0, n_0le, n_eq0, n_eq1, n_eq2, n_m1, n_m1r, Nat.reduceEqDiff, Nat.reduceAdd, Int32.add_zero, nI_pred, div16, mul15, mul40, mul16, mul640, mulr16, xu_s, xu_c, xu_k, xu_cc, rows_xu, xf_s, xf_c, rows_xf, xul_c, rows_xul, xul_L, lgc, hn, Nat.le_refl]
    exact hno hc
theorem wat_iff {t : Nat} {σ : xS} {u : Nat} (hI : Inv t σ) (hu : iA (σ 40) u) : ∃ n, σ 9 1 = nI n ∧ n ≤ 640 ∧ ((∃ k, k < n ∧ σ 25 k = σ 44 u) → 0 < (σ 45 u).toNatClampNeg) ∧ ((∀ k, k < n → σ 25 k ≠ σ 44 u) → (σ 45 u).toNatClampNeg = 0) := by
  obtain ⟨⟨h1, h2, h3, h4, h5, h6, h7, h8, h9⟩, c1, c2, c3, c4, c5, c6, c7⟩ := hI
  obtain ⟨a1, a2, w, a3, a4, a5⟩ := c5
  refine ⟨_, a1, a2, ?_, ?_⟩
  · rintro ⟨k, hk, e⟩
    obtain ⟨b1, b2, b3⟩ := a3 k hk
    rw [b3] at e
    have e1 := (h1 _ b1).2.2.2.2.2.2.2
    have e2 := (h1 _ hu).2.2.2.2.2.2.2
    rw [e, e2] at e1
    have := (nI_eq (by have := hu.1; omega) (by have := b1.1; omega)).mp e1
    rw [this]; exact b2
  · intro hno
    rcases Nat.eq_zero_or_pos ((σ 45 u).toNatClampNeg) with h | h
    · exact h
    · obtain ⟨k, hk, e⟩ := a5 u hu h
      exact absurd (by rw [(a3 k hk).2.2, e]) (hno k hk)
theorem no_head {t : Nat} {σ : xS} {p : Nat} (hI : Inv t σ) (hp : p < 640) (h : σ 49 p = -1) : ¬ σ 28 p = 3 := by
  obtain ⟨⟨h1, h2, h3, h4, h5, h6, h7, h8, h9⟩, c1, c2, c3, c4, c5, c6, c7⟩ := hI
  intro e3
  by_cases hc : ∃ o, iA (σ 40) o ∧ (σ 44 o).toNatClampNeg ≤ p ∧ p ≤ (σ 44 o).toNatClampNeg + (σ 42 o).toNatClampNeg
  · obtain ⟨o, ho, ha, hb⟩ := hc
    by_cases e : p = (σ 44 o).toNatClampNeg
    · have := (h1 o ho).2.2.2.2.2.2.2
      rw [← e, h] at this
      exact (n_m1r (by have := ho.1; omega)).mp this
    · have hi : p - (σ 44 o).toNatClampNeg - 1 < (σ 42 o).toNatClampNeg := by omega
      have := c1.2.1 o _ ho hi
      dsimp only at this
      rw [show (σ 44 o).toNatClampNeg + 1 + (p - (σ 44 o).toNatClampNeg - 1) = p by omega] at this
      rw [this.1] at e3
      rcases h3 o _ ho hi with ⟨h, _⟩ | h | ⟨h, _⟩ <;> (rw [e3] at h; exact absurd h (by decide))
  · have := c1.2.2 p hp (fun o ho => by
      by_cases h' : p < (σ 44 o).toNatClampNeg
      · exact Or.inl h'
      · right
        by_cases h'' : (σ 44 o).toNatClampNeg + (σ 42 o).toNatClampNeg < p
        · exact h''
        · exact absurd ⟨o, ho, by omega, by omega⟩ hc)
    rw [this.1] at e3
    exact absurd e3 (by decide)
theorem k_18 (xs : Nat → Int32) (L : Nat) (x4 : Int32) (t : Nat) (σ : xS) (ht : t < 512) (hI : Inv t σ) (hL : lawOk L x4) : o_18 xs L x4 σ (Inv (t + 1)) := by
  have hI' := Inv_nop t σ ht hI
  unfold o_18 p_Rp_at p_Mod_at p_Mod_at_J16 p_Mod_at_J35 p_Mod_at_J40 p_Mod_at_J41 p_Hea_isObject p_Hea_tagOf p_Val_sortOf_19
  generalize xs (x4 + 1).toNatClampNeg = x
  rcases pk_ix x (n := 640) (by decide) with h | h | ⟨p, hp, rfl⟩
  · simp (disch := omega) only [forall_eq, true_and, and_true, and_self, not_true_eq_false, not_false_eq_true, false_imp_iff, true_imp_iff, imp_self, implies_true, ne_eq, reduceIte, cl, cl0, cl1, cl2, vpn, vp0, le8, le16, le40, le640, le1400, le6400, lt8, lt16, le15, le2, nI_leI, nI_ltI, nI_eq, nI_1, nI_add, n_le0, n_lt0, n_0le, n_eq0, n_eq1, n_eq2, n_m1, n_m1r, Nat.reduceEqDiff, Nat.reduceAdd, Int32.add_zero, nI_pred, div16, mul15, mul40, mul16, mul640, mulr16, xu_s, xu_c, xu_k, xu_cc, rows_xu, xf_s, xf_c, rows_xf, xul_c, rows_xul, xul_L, lgc, hL.1, h]
    exact Inv_thr _ _ _ hI'
  · have h0 : ¬ x < 0 := fun e => absurd (Int32.lt_of_le_of_lt h e) (by decide)
    have h6 : ¬ x < 640 := Int32.not_lt.mpr h
    have h6' : (640 : Int32) ≤ x := h
    simp (disch := omega) only [forall_eq, true_and, and_true, and_self, not_true_eq_false, not_false_eq_true, false_imp_iff, true_imp_iff, imp_self, implies_true, ne_eq, reduceIte, cl, cl0, cl1, cl2, vpn, vp0, le8, le16, le40, le640, le1400, le6400, lt8, lt16, le15, le2, nI_leI, nI_ltI, nI_eq, nI_1, nI_add, n_le0, n_lt0, n_0le, n_eq0, n_eq1, n_eq2, n_m1, n_m1r, Nat.reduceEqDiff, Nat.reduceAdd, Int32.add_zero, nI_pred, div16, mul15, mul40, mul16, mul640, mulr16, xu_s, xu_c, xu_k, xu_cc, rows_xu, xf_s, xf_c, rows_xf, xul_c, rows_xul, xul_L, lgc, hL.1, h0, h6, h6']
    exact Inv_thr _ _ _ hI'
  · have l1 : ¬ 640 ≤ p := by omega
    have l2 : nI p < 640 := nI_lt (b := 640) hp (by decide)
    obtain ⟨⟨h1, h2, h3, h4, h5, h6, h7, h8, h9⟩, c1, c2, c3, c4, c5, c6, c7⟩ := id hI'
    rcases h2 p hp with e | ⟨o, ho, e, ep⟩
    · have := no_head hI' hp e
      simp (disch := omega) only [forall_eq, true_and, and_true, and_self, not_true_eq_false, not_false_eq_true, false_imp_iff, true_imp_iff, imp_self, implies_true, ne_eq, reduceIte, cl, cl0, cl1, cl2, vpn, vp0, le8, le16, le40, le640, le1400, le6400, lt8, lt16, le15, le2, nI_leI, nI_ltI, nI_eq, nI_1, nI_add, n_le0, n_lt0, n_0le, n_eq0, n_eq1, n_eq2, n_m1, n_m1r, Nat.reduceEqDiff, Nat.reduceAdd, Int32.add_zero, nI_pred, div16, mul15, mul40, mul16, mul640, mulr16, xu_s, xu_c, xu_k, xu_cc, rows_xu, xf_s, xf_c, rows_xf, xul_c, rows_xul, xul_L, lgc, hL.1, l1, l2, this, e]
      exact Inv_thr _ _ _ hI'
    · obtain ⟨k, tg, m, g, p', z1, z2, z3, z4, z5, z6, o1, o2, o3, o4, o5, o6, o7, o8, o9, o10, o11, o12, o13, o14, o15⟩ := obj_at hI' ho
      have ep : p' = p := by rw [o5] at ep; simp (disch := omega) only [forall_eq, true_and, and_true, and_self, not_true_eq_false, not_false_eq_true, false_imp_iff, true_imp_iff, imp_self, implies_true, ne_eq, reduceIte, cl, cl0, cl1, cl2, vpn, vp0, le8, le16, le40, le640, le1400, le6400, lt8, lt16, le15, le2, nI_leI, nI_ltI, nI_eq, nI_1, nI_add, n_le0, n_lt0, n_0le, n_eq0, n_eq1, n_eq2, n_m1, n_m1r, Nat.reduceEqDiff, Nat.reduceAdd, Int32.add_zero, nI_pred, div16, mul15, mul40, mul16, mul640, mulr16, xu_s, xu_c, xu_k, xu_cc, rows_xu, xf_s, xf_c, rows_xf, xul_c, rows_xul, xul_L, lgc] at ep; exact ep
      rw [ep] at o7 o9
      simp (disch := omega) only [forall_eq, true_and, and_true, and_self, not_true_eq_false, not_false_eq_true, false_imp_iff, true_imp_iff, imp_self, implies_true, ne_eq, reduceIte, cl, cl0, cl1, cl2, vpn, vp0, le8, le16, le40, le640, le1400, le6400, lt8, lt16, le15, le2, nI_leI, nI_ltI, nI_eq, nI_1, nI_add, n_le0, n_lt0, n_0le, n_eq0, n_eq1, n_eq2, n_m1, n_m1r, Nat.reduceEqDiff, Nat.reduceAdd, Int32.add_zero, nI_pred, div16, mul15, mul40, mul16, mul640, mulr16, xu_s, xu_c, xu_k, xu_cc, rows_xu, xf_s, xf_c, rows_xf, xul_c, rows_xul, xul_L, lgc, hL.1, l1, l2, o7, o9, n10, e, o2]
      exact Inv_thr _ _ _ hI'
theorem reg_cases (x : Int32) {r : Nat} (hr : r < 2147483648) : (x < 0 ∨ ¬ x < 0 ∧ nI r ≤ x) ∨ ∃ j, j < r ∧ x = nI j := by
  rcases pk_ix x (n := r) hr with h | h | h
  · exact Or.inl (Or.inl h)
  · by_cases h0 : x < 0
    · exact Or.inl (Or.inl h0)
    · exact Or.inl (Or.inr ⟨h0, h⟩)
  · exact Or.inr h
theorem k_17 (xs : Nat → Int32) (L : Nat) (x4 : Int32) (t : Nat) (σ : xS) (ht : t < 512) (hI : Inv t σ) (hL : lawOk L x4) : o_17 xs L x4 σ (Inv (t + 1)) := by
  have hI' := Inv_nop t σ ht hI
  obtain ⟨⟨h1, h2, h3, h4, h5, h6, h7, h8, h9⟩, c1, c2, c3, c4, c5, c6, c7⟩ := id hI'
  obtain ⟨r, hr, hr8⟩ : ∃ r, σ 31 13 = nI r ∧ r ≤ 8 := ⟨_, h6.1, h6.2.1⟩
  have hr7 : σ 7 4 = nI r := by rw [c3.1, hr]
  unfold o_17 p_Rp_page p_Mod_page p_Mod_isRegion p_Reg_has p_Mod_page_J35 p_Reg_rowLength p_Reg_pageInRow
  generalize xs (x4 + 1).toNatClampNeg = x
  generalize xs (x4 + 2).toNatClampNeg = y
  rcases reg_cases x (r := r) (by omega) with (h | ⟨h, h'⟩) | ⟨j, hj, rfl⟩
  · simp (disch := omega) only [forall_eq, true_and, and_true, and_self, not_true_eq_false, not_false_eq_true, false_imp_iff, true_imp_iff, imp_self, implies_true, ne_eq, reduceIte, cl, cl0, cl1, cl2, vpn, vp0, le8, le16, le40, le640, le1400, le6400, lt8, lt16, le15, le2, nI_leI, nI_ltI, nI_eq, nI_1, nI_add, n_le0, n_lt0, n_0le, n_eq0, n_eq1, n_eq2, n_m1, n_m1r, Nat.reduceEqDiff, Nat.reduceAdd, Int32.add_zero, nI_pred, div16, mul15, mul40, mul16, mul640, mulr16, xu_s, xu_c, xu_k, xu_cc, rows_xu, xf_s, xf_c, rows_xf, xul_c, rows_xul, xul_L, lgc, hL.1, hL.2.1, h]
    exact Inv_thr _ _ _ hI'
  · simp (disch := omega) only [forall_eq, true_and, and_true, and_self, not_true_eq_false, not_false_eq_true, false_imp_iff, true_imp_iff, imp_self, implies_true, ne_eq, reduceIte, cl, cl0, cl1, cl2, vpn, vp0, le8, le16, le40, le640, le1400, le6400, lt8, lt16, le15, le2, nI_leI, nI_ltI, nI_eq, nI_1, nI_add, n_le0, n_lt0, n_0le, n_eq0, n_eq1, n_eq2, n_m1, n_m1r, Nat.reduceEqDiff, Nat.reduceAdd, Int32.add_zero, nI_pred, div16, mul15, mul40, mul16, mul640, mulr16, xu_s, xu_c, xu_k, xu_cc, rows_xu, xf_s, xf_c, rows_xf, xul_c, rows_xul, xul_L, lgc, hL.1, hL.2.1, h, h', hr, hr7]
    exact Inv_thr _ _ _ hI'
  · have hj' : ¬ r ≤ j := by omega
    rw [hr] at h6 c3
    have hjr : j < (nI r).toNatClampNeg := by simp (disch := omega) only [forall_eq, true_and, and_true, and_self, not_true_eq_false, not_false_eq_true, false_imp_iff, true_imp_iff, imp_self, implies_true, ne_eq, reduceIte, cl, cl0, cl1, cl2, vpn, vp0, le8, le16, le40, le640, le1400, le6400, lt8, lt16, le15, le2, nI_leI, nI_ltI, nI_eq, nI_1, nI_add, n_le0, n_lt0, n_0le, n_eq0, n_eq1, n_eq2, n_m1, n_m1r, Nat.reduceEqDiff, Nat.reduceAdd, Int32.add_zero, nI_pred, div16, mul15, mul40, mul16, mul640, mulr16, xu_s, xu_c, xu_k, xu_cc, rows_xu, xf_s, xf_c, rows_xf, xul_c, rows_xul, xul_L, lgc]; exact hj
    obtain ⟨⟨g1, g2⟩, _, _, g3, _⟩ := h6.2.2 j hjr
    obtain ⟨d1, _, d2⟩ := c3.2 j hjr
    obtain ⟨m, hm, hm4⟩ : ∃ m, σ 51 j = nI m ∧ m ≤ 40 := ⟨_, g1, g2⟩
    rw [hm] at d1 d2 g3
    have em : (nI m).toNatClampNeg = m := cl (by omega)
    rw [em] at d2 g3
    rcases ix_cases y with hy | ⟨n, hn, rfl⟩
    · simp (disch := omega) only [forall_eq, true_and, and_true, and_self, not_true_eq_false, not_false_eq_true, false_imp_iff, true_imp_iff, imp_self, implies_true, ne_eq, reduceIte, cl, cl0, cl1, cl2, vpn, vp0, le8, le16, le40, le640, le1400, le6400, lt8, lt16, le15, le2, nI_leI, nI_ltI, nI_eq, nI_1, nI_add, n_le0, n_lt0, n_0le, n_eq0, n_eq1, n_eq2, n_m1, n_m1r, Nat.reduceEqDiff, Nat.reduceAdd, Int32.add_zero, nI_pred, div16, mul15, mul40, mul16, mul640, mulr16, xu_s, xu_c, xu_k, xu_cc, rows_xu, xf_s, xf_c, rows_xf, xul_c, rows_xul, xul_L, lgc, hL.1, hL.2.1, hr, hr7, hj', n10, hy]
      exact Inv_thr _ _ _ hI'
    · by_cases hnm : n < m
      · have hnm' : ¬ m ≤ n := by omega
        have d2' := d2 n hnm
        rw [rows_in σ (by omega)] at d2'
        simp (disch := omega) only [forall_eq, true_and, and_true, and_self, not_true_eq_false, not_false_eq_true, false_imp_iff, true_imp_iff, imp_self, implies_true, ne_eq, reduceIte, cl, cl0, cl1, cl2, vpn, vp0, le8, le16, le40, le640, le1400, le6400, lt8, lt16, le15, le2, nI_leI, nI_ltI, nI_eq, nI_1, nI_add, n_le0, n_lt0, n_0le, n_eq0, n_eq1, n_eq2, n_m1, n_m1r, Nat.reduceEqDiff, Nat.reduceAdd, Int32.add_zero, nI_pred, div16, mul15, mul40, mul16, mul640, mulr16, xu_s, xu_c, xu_k, xu_cc, rows_xu, xf_s, xf_c, rows_xf, xul_c, rows_xul, xul_L, lgc, hL.1, hL.2.1, hr, hr7, hj', n10, hm, d1, hnm, hnm', d2']
        exact Inv_thr _ _ _ hI'
      · have hnm' : m ≤ n := by omega
        simp (disch := omega) only [forall_eq, true_and, and_true, and_self, not_true_eq_false, not_false_eq_true, false_imp_iff, true_imp_iff, imp_self, implies_true, ne_eq, reduceIte, cl, cl0, cl1, cl2, vpn, vp0, le8, le16, le40, le640, le1400, le6400, lt8, lt16, le15, le2, nI_leI, nI_ltI, nI_eq, nI_1, nI_add, n_le0, n_lt0, n_0le, n_eq0, n_eq1, n_eq2, n_m1, n_m1r, Nat.reduceEqDiff, Nat.reduceAdd, Int32.add_zero, nI_pred, div16, mul15, mul40, mul16, mul640, mulr16, xu_s, xu_c, xu_k, xu_cc, rows_xu, xf_s, xf_c, rows_xf, xul_c, rows_xul, xul_L, lgc, hL.1, hL.2.1, hr, hr7, hj', n10, hm, d1, hnm, hnm']
        exact Inv_thr _ _ _ hI'
