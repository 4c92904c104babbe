theorem obj_at {t : Nat} {σ : xS} {u : Nat} (hI : Inv t σ) (hu : iA (σ 40) u) : ∃ k tg m g p : Nat, k < 3 ∧ tg < 1000 ∧ m < 16 ∧ g < 8 ∧ p < 640 ∧ u < 640 ∧ σ 40 u = nI k ∧ σ 41 u = nI tg ∧ σ 42 u = nI m ∧ σ 43 u = nI g ∧ σ 44 u = nI p ∧ σ 49 p = nI u ∧ σ 28 p = 3 ∧
    σ 29 p >>> (14 &&& 31) = nI k ∧ (σ 29 p >>> (4 &&& 31)) &&& 1023 = nI tg ∧ σ 29 p &&& 15 = nI m ∧ σ 20 (p / 16) = nI g ∧ p % 16 + m < 16 ∧ (k = 2 → 0 < m) ∧
    (∀ i, i < m → σ 28 (p + 1 + i) = σ 46 (15 * u + i) ∧ σ 29 (p + 1 + i) = tr (σ 44) (σ 46 (15 * u + i)) (σ 47 (15 * u + i))) ∧ (∀ i, i < m → vOk (σ 40) (σ 43) g (σ 46 (15 * u + i)) (σ 47 (15 * u + i))) := by
  obtain ⟨⟨h1, h2, h3, h4, h5, h6, h7, h8, h9⟩, c1, c2, c3, c4, c5, c6, c7⟩ := hI
  obtain ⟨⟨a1, b1⟩, ⟨a2, b2⟩, ⟨a3, b3⟩, a4, ⟨a5, b5⟩, ⟨a6, b6⟩, a7, a8⟩ := h1 u hu
  obtain ⟨l1, l2, l3⟩ := h8.1 u hu
  obtain ⟨d1, d2⟩ := c1.1 u hu
  have hR : (σ 31 13).toNatClampNeg ≤ 8 := h6.2.1
  refine ⟨_, _, _, _, _, b1, b2, b3, Nat.lt_of_lt_of_le b5 hR, b6, hu.1, a1, a2, a3, a5, a6, a8, d1, ?_, ?_, ?_, l1, l2, fun e => a4 (by rw [a1, e]; rfl), fun i hi => c1.2.1 u i hu hi, fun i hi => h3 u i hu hi⟩
  · rw [d2, hd_kind a1 b1 b2 b3]; exact a1
  · rw [d2, hd_tag b1 a2 b2 b3]; exact a2
  · rw [d2, hd_many b1 b2 a3 b3]; exact a3
theorem vOk_mono {K G : Nat → Int32} {r q : Nat} {s v : Int32} (h : vOk K G r s v) (hr : r ≤ q) : vOk K G q s v := by
  rcases h with h | h | ⟨h, u, a, b, c⟩
  · exact Or.inl h
  · exact Or.inr (Or.inl h)
  · exact Or.inr (Or.inr ⟨h, u, a, b, by omega⟩)
theorem root_at {t : Nat} {σ : xS} {j : Nat} (hI : Inv t σ) (hj : j < 16) (e2 : σ 54 j = 2) : ∃ u, iA (σ 40) u ∧ σ 55 j = nI u ∧ σ 17 j = 2 ∧ σ 18 j = σ 44 u := by
  obtain ⟨⟨h1, h2, h3, h4, h5, h6, h7, h8, h9⟩, c1, c2, c3, c4, c5, c6, c7⟩ := hI
  rcases h4 j hj with ⟨h, _⟩ | h | ⟨_, u, hu, hv, _⟩
  · rw [e2] at h; exact absurd h n20
  · rw [e2] at h; exact absurd h n21
  · refine ⟨u, hu, hv, by rw [(c2 j hj).1, e2], ?_⟩
    rw [(c2 j hj).2, e2, hv, tr_2, cl (by have := hu.1; omega)]
theorem root_no {t : Nat} {σ : xS} {j : Nat} (hI : Inv t σ) (hj : j < 16) (e2 : ¬ σ 54 j = 2) : ¬ σ 17 j = 2 ∧ σ 17 j = σ 54 j ∧ σ 18 j = σ 55 j := by
  obtain ⟨⟨h1, h2, h3, h4, h5, h6, h7, h8, h9⟩, c1, c2, c3, c4, c5, c6, c7⟩ := hI
  refine ⟨by rw [(c2 j hj).1]; exact e2, (c2 j hj).1, ?_⟩
  rw [(c2 j hj).2, tr_n e2]
theorem ix_cases (i : Int32) : i < 0 ∨ ∃ n, n < 2147483648 ∧ i = nI n := by
  by_cases h : i < 0
  · exact Or.inl h
  · exact Or.inr (nI_of h)
theorem e_cfY {i : Nat} (h : i < 16) {σ : xS} (e : σ 17 i = 2) (Q : xS → Prop) : p_Rp_checkReference (nI i) σ Q ↔ Q σ := by
  unfold p_Rp_checkReference p_Val_isReference_5
  simp (disch := omega) only [forall_eq, true_and, and_true, and_self, not_true_eq_false, not_false_eq_true, false_imp_iff, true_imp_iff, imp_self, implies_true, ne_eq, reduceIte, cl, cl0, cl1, cl2, vpn, vp0, le8, le16, le40, le640, le1400, le6400, lt8, lt16, le15, le2, nI_leI, nI_ltI, nI_eq, nI_1, nI_add, n_le0, n_lt0, n_0le, n_eq0, n_eq1, n_eq2, n_m1, n_m1r, Nat.reduceEqDiff, Nat.reduceAdd, Int32.add_zero, nI_pred, div16, mul15, mul40, mul16, mul640, mulr16, xu_s, xu_c, xu_k, xu_cc, rows_xu, xf_s, xf_c, rows_xf, xul_c, rows_xul, xul_L, lgc, e, n10]
theorem e_cfN {i : Nat} (h : i < 16) {σ : xS} (e : ¬ σ 17 i = 2) (Q : xS → Prop) : p_Rp_checkReference (nI i) σ Q ↔ False := by
  unfold p_Rp_checkReference p_Val_isReference_5
  simp (disch := omega) only [forall_eq, true_and, and_true, and_self, not_true_eq_false, not_false_eq_true, false_imp_iff, true_imp_iff, imp_self, implies_true, ne_eq, reduceIte, cl, cl0, cl1, cl2, vpn, vp0, le8, le16, le40, le640, le1400, le6400, lt8, lt16, le15, le2, nI_leI, nI_ltI, nI_eq, nI_1, nI_add, n_le0, n_lt0, n_0le, n_eq0, n_eq1, n_eq2, n_m1, n_m1r, Nat.reduceEqDiff, Nat.reduceAdd, Int32.add_zero, nI_pred, div16, mul15, mul40, mul16, mul640, mulr16, xu_s, xu_c, xu_k, xu_cc, rows_xu, xf_s, xf_c, rows_xf, xul_c, rows_xul, xul_L, lgc, e, n10]
theorem e_qfY {i : Nat} (h : i < 16) {σ : xS} (e : σ 17 i = 2) (E : String) : q_Rp_checkReference (nI i) σ E ↔ False := by
  unfold q_Rp_checkReference p_Val_isReference_5
  simp (disch := omega) only [forall_eq, true_and, and_true, and_self, not_true_eq_false, not_false_eq_true, false_imp_iff, true_imp_iff, imp_self, implies_true, ne_eq, reduceIte, cl, cl0, cl1, cl2, vpn, vp0, le8, le16, le40, le640, le1400, le6400, lt8, lt16, le15, le2, nI_leI, nI_ltI, nI_eq, nI_1, nI_add, n_le0, n_lt0, n_0le, n_eq0, n_eq1, n_eq2, n_m1, n_m1r, Nat.reduceEqDiff, Nat.reduceAdd, Int32.add_zero, nI_pred, div16, mul15, mul40, mul16, mul640, mulr16, xu_s, xu_c, xu_k, xu_cc, rows_xu, xf_s, xf_c, rows_xf, xul_c, rows_xul, xul_L, lgc, e, n10]
theorem e_qfN {i : Nat} (h : i < 16) {σ : xS} (e : ¬ σ 17 i = 2) (E : String) : q_Rp_checkReference (nI i) σ E ↔ E = "java/lang/IllegalStateException" := by
  unfold q_Rp_checkReference p_Val_isReference_5
  simp (disch := omega) only [forall_eq, true_and, and_true, and_self, not_true_eq_false, not_false_eq_true, false_imp_iff, true_imp_iff, imp_self, implies_true, ne_eq, reduceIte, cl, cl0, cl1, cl2, vpn, vp0, le8, le16, le40, le640, le1400, le6400, lt8, lt16, le15, le2, nI_leI, nI_ltI, nI_eq, nI_1, nI_add, n_le0, n_lt0, n_0le, n_eq0, n_eq1, n_eq2, n_m1, n_m1r, Nat.reduceEqDiff, Nat.reduceAdd, Int32.add_zero, nI_pred, div16, mul15, mul40, mul16, mul640, mulr16, xu_s, xu_c, xu_k, xu_cc, rows_xu, xf_s, xf_c, rows_xf, xul_c, rows_xul, xul_L, lgc, e, n10]
theorem s_is : ¬ ("java/lang/IndexOutOfBoundsException" = "java/lang/IllegalStateException") := by decide
theorem s_si : ¬ ("java/lang/IllegalStateException" = "java/lang/IndexOutOfBoundsException") := by decide
theorem s_ia : ¬ ("java/lang/IndexOutOfBoundsException" = "java/lang/IllegalArgumentException") := by decide
theorem s_ai : ¬ ("java/lang/IllegalArgumentException" = "java/lang/IndexOutOfBoundsException") := by decide
theorem k_7 (xs : Nat → Int32) (L : Nat) (x4 : Int32) (t : Nat) (σ : xS) (ht : t < 512) (hI : Inv t σ) (hL : lawOk L x4) : o_7 xs L x4 σ (Inv (t + 1)) := by
  have hI' := Inv_nop t σ ht hI
  unfold o_7 p_Law_get p_Rp_get q_Rp_get p_Mod_get p_Mod_thrown p_Mod_get_J18 p_Mod_get_J19 p_Mod_get_J41 p_Mod_get_J42 p_Val_contentOf_5 p_Hea_hasField p_Hea_fieldsOf p_Val_take_5_19 p_Val_assign_5
  generalize xs (x4 + 1).toNatClampNeg = x
  generalize xs (x4 + 2).toNatClampNeg = y
  generalize xs (x4 + 3).toNatClampNeg = i
  rcases root_cases x with h | ⟨j, hj, rfl⟩
  · have h : badRoot x := h
    simp (disch := omega) only [forall_eq, true_and, and_true, and_self, not_true_eq_false, not_false_eq_true, false_imp_iff, true_imp_iff, imp_self, implies_true, ne_eq, reduceIte, cl, cl0, cl1, cl2, vpn, vp0, le8, le16, le40, le640, le1400, le6400, lt8, lt16, le15, le2, nI_leI, nI_ltI, nI_eq, nI_1, nI_add, n_le0, n_lt0, n_0le, n_eq0, n_eq1, n_eq2, n_m1, n_m1r, Nat.reduceEqDiff, Nat.reduceAdd, Int32.add_zero, nI_pred, div16, mul15, mul40, mul16, mul640, mulr16, xu_s, xu_c, xu_k, xu_cc, rows_xu, xf_s, xf_c, rows_xf, xul_c, rows_xul, xul_L, lgc, hL.1, hL.2.1, hL.2.2.1, e_isRootN h, e_goes1, e_crN h, e_qrN h, or_false, false_or, or_true, true_or, n10, n01, s_is, s_si, false_and]
    exact Inv_thr _ _ _ hI'
  rcases root_cases y with h | ⟨f, hf, rfl⟩
  · have h : badRoot y := h
    simp (disch := omega) only [forall_eq, true_and, and_true, and_self, not_true_eq_false, not_false_eq_true, false_imp_iff, true_imp_iff, imp_self, implies_true, ne_eq, reduceIte, cl, cl0, cl1, cl2, vpn, vp0, le8, le16, le40, le640, le1400, le6400, lt8, lt16, le15, le2, nI_leI, nI_ltI, nI_eq, nI_1, nI_add, n_le0, n_lt0, n_0le, n_eq0, n_eq1, n_eq2, n_m1, n_m1r, Nat.reduceEqDiff, Nat.reduceAdd, Int32.add_zero, nI_pred, div16, mul15, mul40, mul16, mul640, mulr16, xu_s, xu_c, xu_k, xu_cc, rows_xu, xf_s, xf_c, rows_xf, xul_c, rows_xul, xul_L, lgc, hL.1, hL.2.1, hL.2.2.1, e_isRoot hj, e_cr hj, e_qr hj, e_isRootN h, e_goes1, e_crN h, e_qrN h, or_false, false_or, n10, n01, s_is, s_si, false_and]
    exact Inv_thr _ _ _ hI'
  by_cases h2 : σ 54 f = 2
  · obtain ⟨u, hu, hv, e17, e18⟩ := root_at hI' hf h2
    obtain ⟨k, tg, m, g, p, z1, z2, z3, z4, z5, z6, o1, o2, o3, o4, o5, o6, o7, o8, o9, o10, o11, o12, o13, o14, o15⟩ := obj_at hI' hu
    rw [o5] at e18
    rcases ix_cases i with hi | ⟨n, hn, rfl⟩
    · simp (disch := omega) only [forall_eq, true_and, and_true, and_self, not_true_eq_false, not_false_eq_true, false_imp_iff, true_imp_iff, imp_self, implies_true, ne_eq, reduceIte, cl, cl0, cl1, cl2, vpn, vp0, le8, le16, le40, le640, le1400, le6400, lt8, lt16, le15, le2, nI_leI, nI_ltI, nI_eq, nI_1, nI_add, n_le0, n_lt0, n_0le, n_eq0, n_eq1, n_eq2, n_m1, n_m1r, Nat.reduceEqDiff, Nat.reduceAdd, Int32.add_zero, nI_pred, div16, mul15, mul40, mul16, mul640, mulr16, xu_s, xu_c, xu_k, xu_cc, rows_xu, xf_s, xf_c, rows_xf, xul_c, rows_xul, xul_L, lgc, hL.1, hL.2.1, hL.2.2.1, e_isRoot hj, e_cr hj, e_qr hj, e_isRoot hf, e_cr hf, e_qr hf, p_Mod_refers, p_Mod_refers_J16, h2, e_cfY hf e17, e_qfY hf e17, e_goes, or_false, false_or, n10, n01, false_and, e18, hv, o10, o3, hi]
      exact Inv_thr _ _ _ (Inv_out _ _ _ _ hI')
    by_cases hm : n < m
    · have hm' : ¬ m ≤ n := by omega
      simp (disch := omega) only [forall_eq, true_and, and_true, and_self, not_true_eq_false, not_false_eq_true, false_imp_iff, true_imp_iff, imp_self, implies_true, ne_eq, reduceIte, cl, cl0, cl1, cl2, vpn, vp0, le8, le16, le40, le640, le1400, le6400, lt8, lt16, le15, le2, nI_leI, nI_ltI, nI_eq, nI_1, nI_add, n_le0, n_lt0, n_0le, n_eq0, n_eq1, n_eq2, n_m1, n_m1r, Nat.reduceEqDiff, Nat.reduceAdd, Int32.add_zero, nI_pred, div16, mul15, mul40, mul16, mul640, mulr16, xu_s, xu_c, xu_k, xu_cc, rows_xu, xf_s, xf_c, rows_xf, xul_c, rows_xul, xul_L, lgc, hL.1, hL.2.1, hL.2.2.1, e_isRoot hj, e_cr hj, e_qr hj, e_isRoot hf, e_cr hf, e_qr hf, p_Mod_refers, p_Mod_refers_J16, h2, e_cfY hf e17, e_qfY hf e17, e_goes, or_false, false_or, n10, n01, false_and, e18, hv, o10, o3, hm, hm']
      have := Inv_root (t + 1) (xu (xul σ 30 0 1) 31 0 0) j hj (σ 46 (15 * u + n)) (σ 47 (15 * u + n)) (vOk_mono (o15 n hm) (by omega)) (Inv_thr _ _ _ (Inv_out _ _ _ _ hI'))
      unfold Inv Ref Cls at this ⊢
      simp (disch := omega) only [forall_eq, true_and, and_true, and_self, not_true_eq_false, not_false_eq_true, false_imp_iff, true_imp_iff, imp_self, implies_true, ne_eq, reduceIte, cl, cl0, cl1, cl2, vpn, vp0, le8, le16, le40, le640, le1400, le6400, lt8, lt16, le15, le2, nI_leI, nI_ltI, nI_eq, nI_1, nI_add, n_le0, n_lt0, n_0le, n_eq0, n_eq1, n_eq2, n_m1, n_m1r, Nat.reduceEqDiff, Nat.reduceAdd, Int32.add_zero, nI_pred, div16, mul15, mul40, mul16, mul640, mulr16, xu_s, xu_c, xu_k, xu_cc, rows_xu, xf_s, xf_c, rows_xf, xul_c, rows_xul, xul_L, lgc, (o14 n hm).1, (o14 n hm).2] at this ⊢
      exact this
    · have hm' : m ≤ n := by omega
      simp (disch := omega) only [forall_eq, true_and, and_true, and_self, not_true_eq_false, not_false_eq_true, false_imp_iff, true_imp_iff, imp_self, implies_true, ne_eq, reduceIte, cl, cl0, cl1, cl2, vpn, vp0, le8, le16, le40, le640, le1400, le6400, lt8, lt16, le15, le2, nI_leI, nI_ltI, nI_eq, nI_1, nI_add, n_le0, n_lt0, n_0le, n_eq0, n_eq1, n_eq2, n_m1, n_m1r, Nat.reduceEqDiff, Nat.reduceAdd, Int32.add_zero, nI_pred, div16, mul15, mul40, mul16, mul640, mulr16, xu_s, xu_c, xu_k, xu_cc, rows_xu, xf_s, xf_c, rows_xf, xul_c, rows_xul, xul_L, lgc, hL.1, hL.2.1, hL.2.2.1, e_isRoot hj, e_cr hj, e_qr hj, e_isRoot hf, e_cr hf, e_qr hf, p_Mod_refers, p_Mod_refers_J16, h2, e_cfY hf e17, e_qfY hf e17, e_goes, or_false, false_or, n10, n01, false_and, e18, hv, o10, o3, hm, hm']
      exact Inv_thr _ _ _ (Inv_out _ _ _ _ hI')
  · obtain ⟨e17, _, _⟩ := root_no hI' hf h2
    simp (disch := omega) only [forall_eq, true_and, and_true, and_self, not_true_eq_false, not_false_eq_true, false_imp_iff, true_imp_iff, imp_self, implies_true, ne_eq, reduceIte, cl, cl0, cl1, cl2, vpn, vp0, le8, le16, le40, le640, le1400, le6400, lt8, lt16, le15, le2, nI_leI, nI_ltI, nI_eq, nI_1, nI_add, n_le0, n_lt0, n_0le, n_eq0, n_eq1, n_eq2, n_m1, n_m1r, Nat.reduceEqDiff, Nat.reduceAdd, Int32.add_zero, nI_pred, div16, mul15, mul40, mul16, mul640, mulr16, xu_s, xu_c, xu_k, xu_cc, rows_xu, xf_s, xf_c, rows_xf, xul_c, rows_xul, xul_L, lgc, hL.1, hL.2.1, hL.2.2.1, e_isRoot hj, e_cr hj, e_qr hj, e_isRoot hf, e_cr hf, e_qr hf, p_Mod_refers, p_Mod_refers_J16, h2, e_cfN hf e17, e_qfN hf e17, e_goes2, or_false, false_or, n10, n01, n20, s_is, s_si, false_and]
    exact Inv_thr _ _ _ hI'
