theorem xu_xf (σ : xS) (c : Nat) (f : Nat → Int32) (k : Nat) (v : Int32) : xu (va_up σ c f) c k v = va_up σ c (upd f k v) := by
  unfold xu
  rw [xf_s, bx_uu]
theorem xf_0 (σ : xS) (c : Nat) : va_up σ c (σ c) = σ := by
  funext d
  unfold va_up
  by_cases h : d = c
  · rw [if_pos h, h]
  · rw [if_neg h]
def shf (f : Nat → Int32) (i : Nat) : Nat → Int32 := fun k => if k < i then f (k + 1) else f k
theorem shf_l (f : Nat → Int32) {i k : Nat} (h : k < i) : shf f i k = f (k + 1) := if_pos h
theorem shf_r (f : Nat → Int32) {i k : Nat} (h : i ≤ k) : shf f i k = f k := if_neg (by omega)
theorem upd_shift (f : Nat → Int32) (i : Nat) : upd (shf f i) i (f (i + 1)) = shf f (i + 1) := by
  funext k
  unfold upd
  by_cases h : k = i
  · rw [if_pos h, shf_l _ (by omega), h]
  · rw [if_neg h]
    by_cases h' : k < i
    · rw [shf_l _ h', shf_l _ (by omega)]
    · rw [shf_r _ (by omega), shf_r _ (by omega)]
theorem shift_0 (f : Nat → Int32) : shf f 0 = f := by
  funext k; exact shf_r f (Nat.zero_le k)
theorem e_dropFirst {σ : xS} {n : Nat} (hn : σ 8 1 = nI (n + 1)) (h6 : n + 1 ≤ 640) (Q : xS → Prop) (h : Q (xu (va_up σ 24 (shf (σ 24) n)) 8 1 (nI n))) : p_Lin_dropFirst_8 σ Q := by
  have h0 : va_up σ 24 (shf (σ 24) 0) = σ := by rw [shift_0, xf_0]
  show ∃ f, p_Lin_dropFirst_8_L2 Q f (nI (0 + 1)) σ
  have key := lpF (fun f i => p_Lin_dropFirst_8_L2 Q f (nI (i + 1)) (va_up σ 24 (shf (σ 24) i))) n (by
    intro f i hi hk
    show b_Lin_dropFirst_8_L2 (p_Lin_dropFirst_8_L2 Q f) Q (nI (i + 1)) _
    unfold b_Lin_dropFirst_8_L2
    have l1 : ¬ n + 1 ≤ i + 1 := by omega
    simp (disch := omega) only [forall_eq, true_and, and_true, and_self, not_true_eq_false, not_false_eq_true, false_imp_iff, true_imp_iff, imp_self, implies_true, ne_eq, reduceIte, cl, cl0, cl1, cl2, vpn, vp0, le8, le16, le40, le640, le1400, le6400, lt8, lt16, le15, le2, nI_leI, nI_ltI, nI_eq, nI_1, nI_add, n_le0, n_lt0, n_0le, n_eq0, n_eq1, n_eq2, n_m1, n_m1r, Nat.reduceEqDiff, Nat.reduceAdd, Int32.add_zero, nI_pred, div16, mul15, mul40, mul16, mul640, mulr16, xu_s, xu_c, xu_k, xu_cc, rows_xu, xf_s, xf_c, rows_xf, xul_c, rows_xul, xul_L, lgc, hn, l1, shf_r, xu_xf, upd_shift]
    exact hk) (by
    intro f
    show b_Lin_dropFirst_8_L2 (p_Lin_dropFirst_8_L2 Q f) Q (nI (n + 1)) _
    unfold b_Lin_dropFirst_8_L2
    simp (disch := omega) only [forall_eq, true_and, and_true, and_self, not_true_eq_false, not_false_eq_true, false_imp_iff, true_imp_iff, imp_self, implies_true, ne_eq, reduceIte, cl, cl0, cl1, cl2, vpn, vp0, le8, le16, le40, le640, le1400, le6400, lt8, lt16, le15, le2, nI_leI, nI_ltI, nI_eq, nI_1, nI_add, n_le0, n_lt0, n_0le, n_eq0, n_eq1, n_eq2, n_m1, n_m1r, Nat.reduceEqDiff, Nat.reduceAdd, Int32.add_zero, nI_pred, div16, mul15, mul40, mul16, mul640, mulr16, xu_s, xu_c, xu_k, xu_cc, rows_xu, xf_s, xf_c, rows_xf, xul_c, rows_xul, xul_L, lgc, hn, Nat.le_refl]
    exact h)
  rw [h0] at key
  exact key
theorem e_dueLoop {τ : xS} {n : Nat} (hq : τ 31 19 = nI n) (hn : n < 640) (x : Int32) (Q : Int32 → xS → Prop) (h : Q x (va_up τ 56 (shf (τ 56) n))) : ∃ f, p_Mod_due_L54 Q f x 0 τ := by
  have h0 : va_up τ 56 (shf (τ 56) 0) = τ := by rw [shift_0, xf_0]
  have key := lpF (fun f i => p_Mod_due_L54 Q f x (nI i) (va_up τ 56 (shf (τ 56) i))) n (by
    intro f i hi hk
    show b_Mod_due_L54 (p_Mod_due_L54 Q f) Q x (nI i) _
    unfold b_Mod_due_L54
    have l1 : ¬ n ≤ i := by omega
    simp (disch := omega) only [forall_eq, true_and, and_true, and_self, not_true_eq_false, not_false_eq_true, false_imp_iff, true_imp_iff, imp_self, implies_true, ne_eq, reduceIte, cl, cl0, cl1, cl2, vpn, vp0, le8, le16, le40, le640, le1400, le6400, lt8, lt16, le15, le2, nI_leI, nI_ltI, nI_eq, nI_1, nI_add, n_le0, n_lt0, n_0le, n_eq0, n_eq1, n_eq2, n_m1, n_m1r, Nat.reduceEqDiff, Nat.reduceAdd, Int32.add_zero, nI_pred, div16, mul15, mul40, mul16, mul640, mulr16, xu_s, xu_c, xu_k, xu_cc, rows_xu, xf_s, xf_c, rows_xf, xul_c, rows_xul, xul_L, lgc, hq, l1, shf_r, xu_xf, upd_shift]
    exact hk) (by
    intro f
    show b_Mod_due_L54 (p_Mod_due_L54 Q f) Q x (nI n) _
    unfold b_Mod_due_L54
    simp (disch := omega) only [forall_eq, true_and, and_true, and_self, not_true_eq_false, not_false_eq_true, false_imp_iff, true_imp_iff, imp_self, implies_true, ne_eq, reduceIte, cl, cl0, cl1, cl2, vpn, vp0, le8, le16, le40, le640, le1400, le6400, lt8, lt16, le15, le2, nI_leI, nI_ltI, nI_eq, nI_1, nI_add, n_le0, n_lt0, n_0le, n_eq0, n_eq1, n_eq2, n_m1, n_m1r, Nat.reduceEqDiff, Nat.reduceAdd, Int32.add_zero, nI_pred, div16, mul15, mul40, mul16, mul640, mulr16, xu_s, xu_c, xu_k, xu_cc, rows_xu, xf_s, xf_c, rows_xf, xul_c, rows_xul, xul_L, lgc, hq, Nat.le_refl]
    exact h)
  rw [h0] at key
  exact key
theorem Inv_que (t : Nat) (σ : xS) (f g : Nat → Int32) (n : Nat) (hn : n ≤ 640) (h : Inv t σ) (h1 : ∀ k, k < n → iA (σ 40) ((g k).toNatClampNeg) ∧ g k = nI ((g k).toNatClampNeg) ∧ f k = σ 44 ((g k).toNatClampNeg)) (h2 : ∀ j k, j < k → k < n → (g j).toNatClampNeg ≠ (g k).toNatClampNeg) :
    Inv t (xu (va_up (xu (va_up σ 24 f) 8 1 (nI n)) 56 g) 31 19 (nI n)) := by
  have en : (nI n).toNatClampNeg = n := cl (by omega)
  have k1 := h1
  have k2 := h2
  unfold Inv Ref Cls at h ⊢
  obtain ⟨⟨h1, h2, h3, h4, h5, h6, h7, h8, h9⟩, c1, c2, c3, c4, c5, c6, c7⟩ := h
  simp (disch := omega) only [forall_eq, true_and, and_true, and_self, not_true_eq_false, not_false_eq_true, false_imp_iff, true_imp_iff, imp_self, implies_true, ne_eq, reduceIte, cl, cl0, cl1, cl2, vpn, vp0, le8, le16, le40, le640, le1400, le6400, lt8, lt16, le15, le2, nI_leI, nI_ltI, nI_eq, nI_1, nI_add, n_le0, n_lt0, n_0le, n_eq0, n_eq1, n_eq2, n_m1, n_m1r, Nat.reduceEqDiff, Nat.reduceAdd, Int32.add_zero, nI_pred, div16, mul15, mul40, mul16, mul640, mulr16, xu_s, xu_c, xu_k, xu_cc, rows_xu, xf_s, xf_c, rows_xf, xul_c, rows_xul, xul_L, lgc]
  refine ⟨⟨h1, h2, h3, h4, ?_, h6, h7, h8, h9⟩, c1, c2, c3, ?_, c5, c6, c7⟩
  · refine ⟨by rw [en], by omega, fun k hk => ?_, fun j k hj hk => k2 j k hj (by omega)⟩
    have := k1 k (by omega)
    exact ⟨this.1, this.2.1⟩
  · exact ⟨rfl, fun k hk => (k1 k (by omega)).2.2⟩
theorem k_12 (xs : Nat → Int32) (L : Nat) (x4 : Int32) (t : Nat) (σ : xS) (ht : t < 512) (hI : Inv t σ) (hL : lawOk L x4) : o_12 xs L x4 σ (Inv (t + 1)) := by
  have hI' := Inv_nop t σ ht hI
  unfold o_12 p_Law_due p_Rp_due q_Rp_due p_Mod_due p_Mod_thrown p_Lin_length_8 p_Lin_itemAt_8 p_Val_setReference_5 p_Val_assign_5
  generalize xs (x4 + 1).toNatClampNeg = x
  rcases root_cases x with h | ⟨j, hj, rfl⟩
  · have h : badRoot x := h
    simp (disch := omega) only [forall_eq, true_and, and_true, and_self, not_true_eq_false, not_false_eq_true, false_imp_iff, true_imp_iff, imp_self, implies_true, ne_eq, reduceIte, cl, cl0, cl1, cl2, vpn, vp0, le8, le16, le40, le640, le1400, le6400, lt8, lt16, le15, le2, nI_leI, nI_ltI, nI_eq, nI_1, nI_add, n_le0, n_lt0, n_0le, n_eq0, n_eq1, n_eq2, n_m1, n_m1r, Nat.reduceEqDiff, Nat.reduceAdd, Int32.add_zero, nI_pred, div16, mul15, mul40, mul16, mul640, mulr16, xu_s, xu_c, xu_k, xu_cc, rows_xu, xf_s, xf_c, rows_xf, xul_c, rows_xul, xul_L, lgc, hL.1, hL.2.1, hL.2.2.1, or_false, false_or, n10, n01, n20, false_and, e_isRootN h, e_goes1, e_crN h, e_qrN h]
    exact Inv_thr _ _ _ hI'
  obtain ⟨⟨h1, h2, h3, h4, h5, h6, h7, h8, h9⟩, c1, c2, c3, c4, c5, c6, c7⟩ := id hI'
  obtain ⟨n, hq, hn⟩ : ∃ n, σ 31 19 = nI n ∧ n ≤ 640 := ⟨_, h5.1, h5.2.1⟩
  have hq8 : σ 8 1 = nI n := by rw [c4.1, hq]
  rcases Nat.eq_zero_or_pos n with h0 | h0
  · rw [h0] at hq hq8
    simp (disch := omega) only [forall_eq, true_and, and_true, and_self, not_true_eq_false, not_false_eq_true, false_imp_iff, true_imp_iff, imp_self, implies_true, ne_eq, reduceIte, cl, cl0, cl1, cl2, vpn, vp0, le8, le16, le40, le640, le1400, le6400, lt8, lt16, le15, le2, nI_leI, nI_ltI, nI_eq, nI_1, nI_add, n_le0, n_lt0, n_0le, n_eq0, n_eq1, n_eq2, n_m1, n_m1r, Nat.reduceEqDiff, Nat.reduceAdd, Int32.add_zero, nI_pred, div16, mul15, mul40, mul16, mul640, mulr16, xu_s, xu_c, xu_k, xu_cc, rows_xu, xf_s, xf_c, rows_xf, xul_c, rows_xul, xul_L, lgc, hL.1, hL.2.1, hL.2.2.1, or_false, false_or, n10, n01, n20, false_and, e_isRoot hj, e_goes, e_cr hj, e_qr hj, hq, hq8]
    exact Inv_thr _ _ _ (Inv_out _ _ _ _ hI')
  · obtain ⟨m, rfl⟩ : ∃ m, n = m + 1 := ⟨n - 1, by omega⟩
    have nz : ¬ m + 1 = 0 := by omega
    rw [hq] at h5 c4
    have em : (nI (m + 1)).toNatClampNeg = m + 1 := cl (by omega)
    rw [iQue, em] at h5
    rw [cQue, em] at c4
    obtain ⟨q1, q2, q3, q4⟩ := h5
    obtain ⟨qA, qe⟩ := q3 0 (by omega)
    obtain ⟨u, hu⟩ : ∃ u, (σ 56 0).toNatClampNeg = u := ⟨_, rfl⟩
    rw [hu] at qA qe
    have c0 := c4.2 0 (by omega)
    have hu6 : u < 640 := qA.1
    rw [hu] at c0
    simp (disch := omega) only [forall_eq, true_and, and_true, and_self, not_true_eq_false, not_false_eq_true, false_imp_iff, true_imp_iff, imp_self, implies_true, ne_eq, reduceIte, cl, cl0, cl1, cl2, vpn, vp0, le8, le16, le40, le640, le1400, le6400, lt8, lt16, le15, le2, nI_leI, nI_ltI, nI_eq, nI_1, nI_add, n_le0, n_lt0, n_0le, n_eq0, n_eq1, n_eq2, n_m1, n_m1r, Nat.reduceEqDiff, Nat.reduceAdd, Int32.add_zero, nI_pred, div16, mul15, mul40, mul16, mul640, mulr16, xu_s, xu_c, xu_k, xu_cc, rows_xu, xf_s, xf_c, rows_xf, xul_c, rows_xul, xul_L, lgc, hL.1, hL.2.1, hL.2.2.1, or_false, false_or, n10, n01, n20, false_and, e_isRoot hj, e_goes, e_cr hj, e_qr hj, hq, hq8, nz, c0]
    refine e_dropFirst (n := m) (by simp (disch := omega) only [forall_eq, true_and, and_true, and_self, not_true_eq_false, not_false_eq_true, false_imp_iff, true_imp_iff, imp_self, implies_true, ne_eq, reduceIte, cl, cl0, cl1, cl2, vpn, vp0, le8, le16, le40, le640, le1400, le6400, lt8, lt16, le15, le2, nI_leI, nI_ltI, nI_eq, nI_1, nI_add, n_le0, n_lt0, n_0le, n_eq0, n_eq1, n_eq2, n_m1, n_m1r, Nat.reduceEqDiff, Nat.reduceAdd, Int32.add_zero, nI_pred, div16, mul15, mul40, mul16, mul640, mulr16, xu_s, xu_c, xu_k, xu_cc, rows_xu, xf_s, xf_c, rows_xf, xul_c, rows_xul, xul_L, lgc, hq8]) hn _ ?_
    simp (disch := omega) only [forall_eq, true_and, and_true, and_self, not_true_eq_false, not_false_eq_true, false_imp_iff, true_imp_iff, imp_self, implies_true, ne_eq, reduceIte, cl, cl0, cl1, cl2, vpn, vp0, le8, le16, le40, le640, le1400, le6400, lt8, lt16, le15, le2, nI_leI, nI_ltI, nI_eq, nI_1, nI_add, n_le0, n_lt0, n_0le, n_eq0, n_eq1, n_eq2, n_m1, n_m1r, Nat.reduceEqDiff, Nat.reduceAdd, Int32.add_zero, nI_pred, div16, mul15, mul40, mul16, mul640, mulr16, xu_s, xu_c, xu_k, xu_cc, rows_xu, xf_s, xf_c, rows_xf, xul_c, rows_xul, xul_L, lgc, hL.1, hL.2.1, hL.2.2.1, or_false, false_or, n10, n01, n20, false_and, e_isRoot hj, e_goes, e_cr hj, e_qr hj, hq, hq8, nz, c0, qe]
    refine e_dueLoop (n := m) (by simp (disch := omega) only [forall_eq, true_and, and_true, and_self, not_true_eq_false, not_false_eq_true, false_imp_iff, true_imp_iff, imp_self, implies_true, ne_eq, reduceIte, cl, cl0, cl1, cl2, vpn, vp0, le8, le16, le40, le640, le1400, le6400, lt8, lt16, le15, le2, nI_leI, nI_ltI, nI_eq, nI_1, nI_add, n_le0, n_lt0, n_0le, n_eq0, n_eq1, n_eq2, n_m1, n_m1r, Nat.reduceEqDiff, Nat.reduceAdd, Int32.add_zero, nI_pred, div16, mul15, mul40, mul16, mul640, mulr16, xu_s, xu_c, xu_k, xu_cc, rows_xu, xf_s, xf_c, rows_xf, xul_c, rows_xul, xul_L, lgc]) (by omega) _ _ ?_
    simp (disch := omega) only [forall_eq, true_and, and_true, and_self, not_true_eq_false, not_false_eq_true, false_imp_iff, true_imp_iff, imp_self, implies_true, ne_eq, reduceIte, cl, cl0, cl1, cl2, vpn, vp0, le8, le16, le40, le640, le1400, le6400, lt8, lt16, le15, le2, nI_leI, nI_ltI, nI_eq, nI_1, nI_add, n_le0, n_lt0, n_0le, n_eq0, n_eq1, n_eq2, n_m1, n_m1r, Nat.reduceEqDiff, Nat.reduceAdd, Int32.add_zero, nI_pred, div16, mul15, mul40, mul16, mul640, mulr16, xu_s, xu_c, xu_k, xu_cc, rows_xu, xf_s, xf_c, rows_xf, xul_c, rows_xul, xul_L, lgc, hL.1, hL.2.1, hL.2.2.1, or_false, false_or, n10, n01, n20, false_and]
    have hr := Inv_root (t + 1) (xu (xul σ 30 0 (Int32.toInt64 (nI (m + 1)))) 31 0 0) j hj 2 (nI u) (Or.inr (Or.inr ⟨rfl, u, qA, rfl, by
      have := (h1 u qA).2.2.2.2.1.2
      have := h6.2.1
      simp (disch := omega) only [forall_eq, true_and, and_true, and_self, not_true_eq_false, not_false_eq_true, false_imp_iff, true_imp_iff, imp_self, implies_true, ne_eq, reduceIte, cl, cl0, cl1, cl2, vpn, vp0, le8, le16, le40, le640, le1400, le6400, lt8, lt16, le15, le2, nI_leI, nI_ltI, nI_eq, nI_1, nI_add, n_le0, n_lt0, n_0le, n_eq0, n_eq1, n_eq2, n_m1, n_m1r, Nat.reduceEqDiff, Nat.reduceAdd, Int32.add_zero, nI_pred, div16, mul15, mul40, mul16, mul640, mulr16, xu_s, xu_c, xu_k, xu_cc, rows_xu, xf_s, xf_c, rows_xf, xul_c, rows_xul, xul_L, lgc]; omega⟩)) (Inv_thr _ _ _ (Inv_out _ _ _ _ hI'))
    have := Inv_que (t + 1) _ (shf (σ 24) m) (shf (σ 56) m) m (by omega) hr (by
      intro k hk
      simp (disch := omega) only [forall_eq, true_and, and_true, and_self, not_true_eq_false, not_false_eq_true, false_imp_iff, true_imp_iff, imp_self, implies_true, ne_eq, reduceIte, cl, cl0, cl1, cl2, vpn, vp0, le8, le16, le40, le640, le1400, le6400, lt8, lt16, le15, le2, nI_leI, nI_ltI, nI_eq, nI_1, nI_add, n_le0, n_lt0, n_0le, n_eq0, n_eq1, n_eq2, n_m1, n_m1r, Nat.reduceEqDiff, Nat.reduceAdd, Int32.add_zero, nI_pred, div16, mul15, mul40, mul16, mul640, mulr16, xu_s, xu_c, xu_k, xu_cc, rows_xu, xf_s, xf_c, rows_xf, xul_c, rows_xul, xul_L, lgc, hk, shf_l]
      exact ⟨(q3 (k + 1) (by omega)).1, (q3 (k + 1) (by omega)).2, c4.2 (k + 1) (by omega)⟩) (by
      intro a b ha hb
      have ha' : a < m := by omega
      simp (disch := omega) only [forall_eq, true_and, and_true, and_self, not_true_eq_false, not_false_eq_true, false_imp_iff, true_imp_iff, imp_self, implies_true, ne_eq, reduceIte, cl, cl0, cl1, cl2, vpn, vp0, le8, le16, le40, le640, le1400, le6400, lt8, lt16, le15, le2, nI_leI, nI_ltI, nI_eq, nI_1, nI_add, n_le0, n_lt0, n_0le, n_eq0, n_eq1, n_eq2, n_m1, n_m1r, Nat.reduceEqDiff, Nat.reduceAdd, Int32.add_zero, nI_pred, div16, mul15, mul40, mul16, mul640, mulr16, xu_s, xu_c, xu_k, xu_cc, rows_xu, xf_s, xf_c, rows_xf, xul_c, rows_xul, xul_L, lgc, hb, ha', shf_l]
      exact q4 (a + 1) (b + 1) (by omega) (by omega))
    unfold Inv Ref Cls at this ⊢
    simp (disch := omega) only [forall_eq, true_and, and_true, and_self, not_true_eq_false, not_false_eq_true, false_imp_iff, true_imp_iff, imp_self, implies_true, ne_eq, reduceIte, cl, cl0, cl1, cl2, vpn, vp0, le8, le16, le40, le640, le1400, le6400, lt8, lt16, le15, le2, nI_leI, nI_ltI, nI_eq, nI_1, nI_add, n_le0, n_lt0, n_0le, n_eq0, n_eq1, n_eq2, n_m1, n_m1r, Nat.reduceEqDiff, Nat.reduceAdd, Int32.add_zero, nI_pred, div16, mul15, mul40, mul16, mul640, mulr16, xu_s, xu_c, xu_k, xu_cc, rows_xu, xf_s, xf_c, rows_xf, xul_c, rows_xul, xul_L, lgc, tr_2] at this ⊢
    exact this
theorem k_14 (xs : Nat → Int32) (L : Nat) (x4 : Int32) (t : Nat) (σ : xS) (ht : t < 512) (hI : Inv t σ) (hL : lawOk L x4) : o_14 xs L x4 σ (Inv (t + 1)) := by
  have hI' := Inv_nop t σ ht hI
  unfold o_14 p_Law_root p_Rp_root q_Rp_root p_Mod_root p_Mod_thrown p_Val_isReference_5 p_Val_contentOf_5 p_Val_sortOf_5 p_Rp_ofObject p_Hea_kindOf p_Hea_tagOf p_Hea_fieldsOf p_Reg_ofPlace
  generalize xs (x4 + 1).toNatClampNeg = x
  generalize xs (x4 + 2).toNatClampNeg = y
  rcases root_cases x with h | ⟨j, hj, rfl⟩
  · have h : badRoot x := h
    simp (disch := omega) only [forall_eq, true_and, and_true, and_self, not_true_eq_false, not_false_eq_true, false_imp_iff, true_imp_iff, imp_self, implies_true, ne_eq, reduceIte, cl, cl0, cl1, cl2, vpn, vp0, le8, le16, le40, le640, le1400, le6400, lt8, lt16, le15, le2, nI_leI, nI_ltI, nI_eq, nI_1, nI_add, n_le0, n_lt0, n_0le, n_eq0, n_eq1, n_eq2, n_m1, n_m1r, Nat.reduceEqDiff, Nat.reduceAdd, Int32.add_zero, nI_pred, div16, mul15, mul40, mul16, mul640, mulr16, xu_s, xu_c, xu_k, xu_cc, rows_xu, xf_s, xf_c, rows_xf, xul_c, rows_xul, xul_L, lgc, hL.1, hL.2.1, hL.2.2.1, or_false, false_or, n10, n01, n20, false_and, e_isRootN h, e_goes1, e_crN h, e_qrN h]
    exact Inv_thr _ _ _ hI'
  by_cases h2 : σ 54 j = 2
  · obtain ⟨u, hu, hv, e17, e18⟩ := root_at hI' hj h2
    obtain ⟨k, tg, m, g, p, z1, z2, z3, z4, z5, z6, o1, o2, o3, o4, o5, o6, o7, o8, o9, o10, o11, o12, o13, o14, o15⟩ := obj_at hI' hu
    rw [o5] at e18
    by_cases y6 : y = 6
    · subst y6
      obtain ⟨n, hn, hn6, w1, w2⟩ := wat_iff hI' hu
      obtain ⟨w, hw⟩ : ∃ w, σ 45 u = nI w ∧ w ≤ t + 1 := by
        obtain ⟨⟨h1, h2, h3, h4, h5, h6, h7, h8, h9⟩, c1, c2, c3, c4, c5, c6, c7⟩ := hI'
        have := (h1 u hu).2.2.2.2.2.2.1
        exact ⟨_, this.1, by omega⟩
      rw [hw.1, o5] at w1 w2
      have ew : (nI w).toNatClampNeg = w := cl (by omega)
      rw [ew] at w1 w2
      simp +decide (disch := omega) only [forall_eq, true_and, and_true, and_self, not_true_eq_false, not_false_eq_true, false_imp_iff, true_imp_iff, imp_self, implies_true, ne_eq, reduceIte, cl, cl0, cl1, cl2, vpn, vp0, le8, le16, le40, le640, le1400, le6400, lt8, lt16, le15, le2, nI_leI, nI_ltI, nI_eq, nI_1, nI_add, n_le0, n_lt0, n_0le, n_eq0, n_eq1, n_eq2, n_m1, n_m1r, Nat.reduceEqDiff, Nat.reduceAdd, Int32.add_zero, nI_pred, div16, mul15, mul40, mul16, mul640, mulr16, xu_s, xu_c, xu_k, xu_cc, rows_xu, xf_s, xf_c, rows_xf, xul_c, rows_xul, xul_L, lgc, hL.1, hL.2.1, hL.2.2.1, or_false, false_or, n10, n01, n20, false_and, e_isRoot hj, e_goes, e_cr hj, e_qr hj, h2, e17, e18, hv]
      refine e_has hn hn6 _ _ (fun hy => ?_) (fun hno => ?_)
      · have : ¬ w = 0 := by have := w1 hy; omega
        simp +decide (disch := omega) only [forall_eq, true_and, and_true, and_self, not_true_eq_false, not_false_eq_true, false_imp_iff, true_imp_iff, imp_self, implies_true, ne_eq, reduceIte, cl, cl0, cl1, cl2, vpn, vp0, le8, le16, le40, le640, le1400, le6400, lt8, lt16, le15, le2, nI_leI, nI_ltI, nI_eq, nI_1, nI_add, n_le0, n_lt0, n_0le, n_eq0, n_eq1, n_eq2, n_m1, n_m1r, Nat.reduceEqDiff, Nat.reduceAdd, Int32.add_zero, nI_pred, div16, mul15, mul40, mul16, mul640, mulr16, xu_s, xu_c, xu_k, xu_cc, rows_xu, xf_s, xf_c, rows_xf, xul_c, rows_xul, xul_L, lgc, hL.1, hL.2.1, hL.2.2.1, or_false, false_or, n10, n01, n20, false_and, e_isRoot hj, e_goes, e_cr hj, e_qr hj, h2, e17, e18, hv, hw.1, this]
        exact Inv_thr _ _ _ (Inv_out _ _ _ _ hI')
      · have := w2 hno
        simp +decide (disch := omega) only [forall_eq, true_and, and_true, and_self, not_true_eq_false, not_false_eq_true, false_imp_iff, true_imp_iff, imp_self, implies_true, ne_eq, reduceIte, cl, cl0, cl1, cl2, vpn, vp0, le8, le16, le40, le640, le1400, le6400, lt8, lt16, le15, le2, nI_leI, nI_ltI, nI_eq, nI_1, nI_add, n_le0, n_lt0, n_0le, n_eq0, n_eq1, n_eq2, n_m1, n_m1r, Nat.reduceEqDiff, Nat.reduceAdd, Int32.add_zero, nI_pred, div16, mul15, mul40, mul16, mul640, mulr16, xu_s, xu_c, xu_k, xu_cc, rows_xu, xf_s, xf_c, rows_xf, xul_c, rows_xul, xul_L, lgc, hL.1, hL.2.1, hL.2.2.1, or_false, false_or, n10, n01, n20, false_and, e_isRoot hj, e_goes, e_cr hj, e_qr hj, h2, e17, e18, hv, hw.1, this]
        exact Inv_thr _ _ _ (Inv_out _ _ _ _ hI')
    · by_cases y0 : y = 0
      · subst y0
        simp +decide (disch := omega) only [forall_eq, true_and, and_true, and_self, not_true_eq_false, not_false_eq_true, false_imp_iff, true_imp_iff, imp_self, implies_true, ne_eq, reduceIte, cl, cl0, cl1, cl2, vpn, vp0, le8, le16, le40, le640, le1400, le6400, lt8, lt16, le15, le2, nI_leI, nI_ltI, nI_eq, nI_1, nI_add, n_le0, n_lt0, n_0le, n_eq0, n_eq1, n_eq2, n_m1, n_m1r, Nat.reduceEqDiff, Nat.reduceAdd, Int32.add_zero, nI_pred, div16, mul15, mul40, mul16, mul640, mulr16, xu_s, xu_c, xu_k, xu_cc, rows_xu, xf_s, xf_c, rows_xf, xul_c, rows_xul, xul_L, lgc, hL.1, hL.2.1, hL.2.2.1, or_false, false_or, n10, n01, n20, false_and, e_isRoot hj, e_goes, e_cr hj, e_qr hj, h2, e17, e18, hv]
        exact Inv_thr _ _ _ (Inv_out _ _ _ _ hI')
      by_cases y1 : y = 1
      · subst y1
        simp +decide (disch := omega) only [forall_eq, true_and, and_true, and_self, not_true_eq_false, not_false_eq_true, false_imp_iff, true_imp_iff, imp_self, implies_true, ne_eq, reduceIte, cl, cl0, cl1, cl2, vpn, vp0, le8, le16, le40, le640, le1400, le6400, lt8, lt16, le15, le2, nI_leI, nI_ltI, nI_eq, nI_1, nI_add, n_le0, n_lt0, n_0le, n_eq0, n_eq1, n_eq2, n_m1, n_m1r, Nat.reduceEqDiff, Nat.reduceAdd, Int32.add_zero, nI_pred, div16, mul15, mul40, mul16, mul640, mulr16, xu_s, xu_c, xu_k, xu_cc, rows_xu, xf_s, xf_c, rows_xf, xul_c, rows_xul, xul_L, lgc, hL.1, hL.2.1, hL.2.2.1, or_false, false_or, n10, n01, n20, false_and, e_isRoot hj, e_goes, e_cr hj, e_qr hj, h2, e17, e18, hv, o5]
        exact Inv_thr _ _ _ (Inv_out _ _ _ _ hI')
      by_cases y2 : y = 2
      · subst y2
        simp +decide (disch := omega) only [forall_eq, true_and, and_true, and_self, not_true_eq_false, not_false_eq_true, false_imp_iff, true_imp_iff, imp_self, implies_true, ne_eq, reduceIte, cl, cl0, cl1, cl2, vpn, vp0, le8, le16, le40, le640, le1400, le6400, lt8, lt16, le15, le2, nI_leI, nI_ltI, nI_eq, nI_1, nI_add, n_le0, n_lt0, n_0le, n_eq0, n_eq1, n_eq2, n_m1, n_m1r, Nat.reduceEqDiff, Nat.reduceAdd, Int32.add_zero, nI_pred, div16, mul15, mul40, mul16, mul640, mulr16, xu_s, xu_c, xu_k, xu_cc, rows_xu, xf_s, xf_c, rows_xf, xul_c, rows_xul, xul_L, lgc, hL.1, hL.2.1, hL.2.2.1, or_false, false_or, n10, n01, n20, false_and, e_isRoot hj, e_goes, e_cr hj, e_qr hj, h2, e17, e18, hv, o1, o8]
        exact Inv_thr _ _ _ (Inv_out _ _ _ _ hI')
      by_cases y3 : y = 3
      · subst y3
        simp +decide (disch := omega) only [forall_eq, true_and, and_true, and_self, not_true_eq_false, not_false_eq_true, false_imp_iff, true_imp_iff, imp_self, implies_true, ne_eq, reduceIte, cl, cl0, cl1, cl2, vpn, vp0, le8, le16, le40, le640, le1400, le6400, lt8, lt16, le15, le2, nI_leI, nI_ltI, nI_eq, nI_1, nI_add, n_le0, n_lt0, n_0le, n_eq0, n_eq1, n_eq2, n_m1, n_m1r, Nat.reduceEqDiff, Nat.reduceAdd, Int32.add_zero, nI_pred, div16, mul15, mul40, mul16, mul640, mulr16, xu_s, xu_c, xu_k, xu_cc, rows_xu, xf_s, xf_c, rows_xf, xul_c, rows_xul, xul_L, lgc, hL.1, hL.2.1, hL.2.2.1, or_false, false_or, n10, n01, n20, false_and, e_isRoot hj, e_goes, e_cr hj, e_qr hj, h2, e17, e18, hv, o2, o9]
        exact Inv_thr _ _ _ (Inv_out _ _ _ _ hI')
      by_cases y4 : y = 4
      · subst y4
        simp +decide (disch := omega) only [forall_eq, true_and, and_true, and_self, not_true_eq_false, not_false_eq_true, false_imp_iff, true_imp_iff, imp_self, implies_true, ne_eq, reduceIte, cl, cl0, cl1, cl2, vpn, vp0, le8, le16, le40, le640, le1400, le6400, lt8, lt16, le15, le2, nI_leI, nI_ltI, nI_eq, nI_1, nI_add, n_le0, n_lt0, n_0le, n_eq0, n_eq1, n_eq2, n_m1, n_m1r, Nat.reduceEqDiff, Nat.reduceAdd, Int32.add_zero, nI_pred, div16, mul15, mul40, mul16, mul640, mulr16, xu_s, xu_c, xu_k, xu_cc, rows_xu, xf_s, xf_c, rows_xf, xul_c, rows_xul, xul_L, lgc, hL.1, hL.2.1, hL.2.2.1, or_false, false_or, n10, n01, n20, false_and, e_isRoot hj, e_goes, e_cr hj, e_qr hj, h2, e17, e18, hv, o3, o10]
        exact Inv_thr _ _ _ (Inv_out _ _ _ _ hI')
      by_cases y5 : y = 5
      · subst y5
        simp +decide (disch := omega) only [forall_eq, true_and, and_true, and_self, not_true_eq_false, not_false_eq_true, false_imp_iff, true_imp_iff, imp_self, implies_true, ne_eq, reduceIte, cl, cl0, cl1, cl2, vpn, vp0, le8, le16, le40, le640, le1400, le6400, lt8, lt16, le15, le2, nI_leI, nI_ltI, nI_eq, nI_1, nI_add, n_le0, n_lt0, n_0le, n_eq0, n_eq1, n_eq2, n_m1, n_m1r, Nat.reduceEqDiff, Nat.reduceAdd, Int32.add_zero, nI_pred, div16, mul15, mul40, mul16, mul640, mulr16, xu_s, xu_c, xu_k, xu_cc, rows_xu, xf_s, xf_c, rows_xf, xul_c, rows_xul, xul_L, lgc, hL.1, hL.2.1, hL.2.2.1, or_false, false_or, n10, n01, n20, false_and, e_isRoot hj, e_goes, e_cr hj, e_qr hj, h2, e17, e18, hv, o4, o11]
        exact Inv_thr _ _ _ (Inv_out _ _ _ _ hI')
      simp +decide (disch := omega) only [forall_eq, true_and, and_true, and_self, not_true_eq_false, not_false_eq_true, false_imp_iff, true_imp_iff, imp_self, implies_true, ne_eq, reduceIte, cl, cl0, cl1, cl2, vpn, vp0, le8, le16, le40, le640, le1400, le6400, lt8, lt16, le15, le2, nI_leI, nI_ltI, nI_eq, nI_1, nI_add, n_le0, n_lt0, n_0le, n_eq0, n_eq1, n_eq2, n_m1, n_m1r, Nat.reduceEqDiff, Nat.reduceAdd, Int32.add_zero, nI_pred, div16, mul15, mul40, mul16, mul640, mulr16, xu_s, xu_c, xu_k, xu_cc, rows_xu, xf_s, xf_c, rows_xf, xul_c, rows_xul, xul_L, lgc, hL.1, hL.2.1, hL.2.2.1, or_false, false_or, n10, n01, n20, false_and, e_isRoot hj, e_goes, e_cr hj, e_qr hj, h2, e17, e18, hv, y0, y1, y2, y3, y4, y5, y6]
      exact Inv_thr _ _ _ (Inv_out _ _ _ _ hI')
  · obtain ⟨e17, e17b, e18⟩ := root_no hI' hj h2
    by_cases y0 : y = 0
    · subst y0
      simp +decide (disch := omega) only [forall_eq, true_and, and_true, and_self, not_true_eq_false, not_false_eq_true, false_imp_iff, true_imp_iff, imp_self, implies_true, ne_eq, reduceIte, cl, cl0, cl1, cl2, vpn, vp0, le8, le16, le40, le640, le1400, le6400, lt8, lt16, le15, le2, nI_leI, nI_ltI, nI_eq, nI_1, nI_add, n_le0, n_lt0, n_0le, n_eq0, n_eq1, n_eq2, n_m1, n_m1r, Nat.reduceEqDiff, Nat.reduceAdd, Int32.add_zero, nI_pred, div16, mul15, mul40, mul16, mul640, mulr16, xu_s, xu_c, xu_k, xu_cc, rows_xu, xf_s, xf_c, rows_xf, xul_c, rows_xul, xul_L, lgc, hL.1, hL.2.1, hL.2.2.1, or_false, false_or, n10, n01, n20, false_and, e_isRoot hj, e_goes, e_cr hj, e_qr hj, h2, e17b, e18]
      exact Inv_thr _ _ _ (Inv_out _ _ _ _ hI')
    by_cases y1 : y = 1
    · subst y1
      simp +decide (disch := omega) only [forall_eq, true_and, and_true, and_self, not_true_eq_false, not_false_eq_true, false_imp_iff, true_imp_iff, imp_self, implies_true, ne_eq, reduceIte, cl, cl0, cl1, cl2, vpn, vp0, le8, le16, le40, le640, le1400, le6400, lt8, lt16, le15, le2, nI_leI, nI_ltI, nI_eq, nI_1, nI_add, n_le0, n_lt0, n_0le, n_eq0, n_eq1, n_eq2, n_m1, n_m1r, Nat.reduceEqDiff, Nat.reduceAdd, Int32.add_zero, nI_pred, div16, mul15, mul40, mul16, mul640, mulr16, xu_s, xu_c, xu_k, xu_cc, rows_xu, xf_s, xf_c, rows_xf, xul_c, rows_xul, xul_L, lgc, hL.1, hL.2.1, hL.2.2.1, or_false, false_or, n10, n01, n20, false_and, e_isRoot hj, e_goes, e_cr hj, e_qr hj, h2, e17b, e18]
      exact Inv_thr _ _ _ (Inv_out _ _ _ _ hI')
    simp +decide (disch := omega) only [forall_eq, true_and, and_true, and_self, not_true_eq_false, not_false_eq_true, false_imp_iff, true_imp_iff, imp_self, implies_true, ne_eq, reduceIte, cl, cl0, cl1, cl2, vpn, vp0, le8, le16, le40, le640, le1400, le6400, lt8, lt16, le15, le2, nI_leI, nI_ltI, nI_eq, nI_1, nI_add, n_le0, n_lt0, n_0le, n_eq0, n_eq1, n_eq2, n_m1, n_m1r, Nat.reduceEqDiff, Nat.reduceAdd, Int32.add_zero, nI_pred, div16, mul15, mul40, mul16, mul640, mulr16, xu_s, xu_c, xu_k, xu_cc, rows_xu, xf_s, xf_c, rows_xf, xul_c, rows_xul, xul_L, lgc, hL.1, hL.2.1, hL.2.2.1, or_false, false_or, n10, n01, n20, false_and, e_isRoot hj, e_goes, e_cr hj, e_qr hj, h2, e17b, e18, y0, y1]
    exact Inv_thr _ _ _ (Inv_out _ _ _ _ hI')
theorem k_15 (xs : Nat → Int32) (L : Nat) (x4 : Int32) (t : Nat) (σ : xS) (ht : t < 512) (hI : Inv t σ) (hL : lawOk L x4) : o_15 xs L x4 σ (Inv (t + 1)) := by
  have hI' := Inv_nop t σ ht hI
  unfold o_15 p_Law_field p_Rp_field q_Rp_field p_Mod_field p_Mod_thrown p_Val_isReference_5 p_Val_contentOf_5 p_Hea_hasField p_Hea_fieldsOf p_Rp_ofField p_Val_sortOf_19 p_Val_contentOf_19 p_Val_isReference_19 p_Hea_tagOf p_Mod_field_J57
  generalize xs (x4 + 1).toNatClampNeg = x
  generalize xs (x4 + 2).toNatClampNeg = i
  generalize xs (x4 + 3).toNatClampNeg = y
  rcases root_cases x with h | ⟨j, hj, rfl⟩
  · have h : badRoot x := h
    simp (disch := omega) only [forall_eq, true_and, and_true, and_self, not_true_eq_false, not_false_eq_true, false_imp_iff, true_imp_iff, imp_self, implies_true, ne_eq, reduceIte, cl, cl0, cl1, cl2, vpn, vp0, le8, le16, le40, le640, le1400, le6400, lt8, lt16, le15, le2, nI_leI, nI_ltI, nI_eq, nI_1, nI_add, n_le0, n_lt0, n_0le, n_eq0, n_eq1, n_eq2, n_m1, n_m1r, Nat.reduceEqDiff, Nat.reduceAdd, Int32.add_zero, nI_pred, div16, mul15, mul40, mul16, mul640, mulr16, xu_s, xu_c, xu_k, xu_cc, rows_xu, xf_s, xf_c, rows_xf, xul_c, rows_xul, xul_L, lgc, hL.1, hL.2.1, hL.2.2.1, or_false, false_or, n10, n01, n20, false_and, e_isRootN h, e_goes1, e_crN h, e_qrN h]
    exact Inv_thr _ _ _ hI'
  by_cases h2 : σ 54 j = 2
  · obtain ⟨u, hu, hv, e17, e18⟩ := root_at hI' hj h2
    obtain ⟨k, tg, m, g, p, z1, z2, z3, z4, z5, z6, o1, o2, o3, o4, o5, o6, o7, o8, o9, o10, o11, o12, o13, o14, o15⟩ := obj_at hI' hu
    rw [o5] at e18
    rcases ix_cases i with hi | ⟨n, hn, rfl⟩
    · simp (disch := omega) only [forall_eq, true_and, and_true, and_self, not_true_eq_false, not_false_eq_true, false_imp_iff, true_imp_iff, imp_self, implies_true, ne_eq, reduceIte, cl, cl0, cl1, cl2, vpn, vp0, le8, le16, le40, le640, le1400, le6400, lt8, lt16, le15, le2, nI_leI, nI_ltI, nI_eq, nI_1, nI_add, n_le0, n_lt0, n_0le, n_eq0, n_eq1, n_eq2, n_m1, n_m1r, Nat.reduceEqDiff, Nat.reduceAdd, Int32.add_zero, nI_pred, div16, mul15, mul40, mul16, mul640, mulr16, xu_s, xu_c, xu_k, xu_cc, rows_xu, xf_s, xf_c, rows_xf, xul_c, rows_xul, xul_L, lgc, hL.1, hL.2.1, hL.2.2.1, or_false, false_or, n10, n01, n20, false_and, e_isRoot hj, e_goes, e_cr hj, e_qr hj, h2, e17, e18, hv, hi]
      exact Inv_thr _ _ _ (Inv_out _ _ _ _ hI')
    by_cases hm : n < m
    · have hm' : ¬ m ≤ n := by omega
      have f1 := (o14 n hm).1
      have f2 := (o14 n hm).2
      by_cases s2 : σ 46 (15 * u + n) = 2
      · rcases o15 n hm with ⟨hh, _⟩ | hh | ⟨_, w, hw, hwv, _⟩
        · rw [s2] at hh; exact absurd hh n20
        · rw [s2] at hh; exact absurd hh n21
        obtain ⟨k', tg', m', g', p', z1', z2', z3', z4', z5', z6', o1', o2', o3', o4', o5', o6', o7', o8', o9', o10', o11', o12', o13', o14', o15'⟩ := obj_at hI' hw
        rw [s2, hwv, tr_2, cl (by omega), o5'] at f2
        rw [s2] at f1
        by_cases y0 : y = 0
        · subst y0
          simp +decide (disch := omega) only [forall_eq, true_and, and_true, and_self, not_true_eq_false, not_false_eq_true, false_imp_iff, true_imp_iff, imp_self, implies_true, ne_eq, reduceIte, cl, cl0, cl1, cl2, vpn, vp0, le8, le16, le40, le640, le1400, le6400, lt8, lt16, le15, le2, nI_leI, nI_ltI, nI_eq, nI_1, nI_add, n_le0, n_lt0, n_0le, n_eq0, n_eq1, n_eq2, n_m1, n_m1r, Nat.reduceEqDiff, Nat.reduceAdd, Int32.add_zero, nI_pred, div16, mul15, mul40, mul16, mul640, mulr16, xu_s, xu_c, xu_k, xu_cc, rows_xu, xf_s, xf_c, rows_xf, xul_c, rows_xul, xul_L, lgc, hL.1, hL.2.1, hL.2.2.1, or_false, false_or, n10, n01, n20, false_and, e_isRoot hj, e_goes, e_cr hj, e_qr hj, h2, e17, e18, hv, o10, o3, hm, hm', f1, f2, s2, hwv, o5']
          exact Inv_thr _ _ _ (Inv_out _ _ _ _ hI')
        by_cases y1 : y = 1
        · subst y1
          simp +decide (disch := omega) only [forall_eq, true_and, and_true, and_self, not_true_eq_false, not_false_eq_true, false_imp_iff, true_imp_iff, imp_self, implies_true, ne_eq, reduceIte, cl, cl0, cl1, cl2, vpn, vp0, le8, le16, le40, le640, le1400, le6400, lt8, lt16, le15, le2, nI_leI, nI_ltI, nI_eq, nI_1, nI_add, n_le0, n_lt0, n_0le, n_eq0, n_eq1, n_eq2, n_m1, n_m1r, Nat.reduceEqDiff, Nat.reduceAdd, Int32.add_zero, nI_pred, div16, mul15, mul40, mul16, mul640, mulr16, xu_s, xu_c, xu_k, xu_cc, rows_xu, xf_s, xf_c, rows_xf, xul_c, rows_xul, xul_L, lgc, hL.1, hL.2.1, hL.2.2.1, or_false, false_or, n10, n01, n20, false_and, e_isRoot hj, e_goes, e_cr hj, e_qr hj, h2, e17, e18, hv, o10, o3, hm, hm', f1, f2, s2, hwv, o5']
          exact Inv_thr _ _ _ (Inv_out _ _ _ _ hI')
        by_cases y2 : y = 2
        · subst y2
          simp +decide (disch := omega) only [forall_eq, true_and, and_true, and_self, not_true_eq_false, not_false_eq_true, false_imp_iff, true_imp_iff, imp_self, implies_true, ne_eq, reduceIte, cl, cl0, cl1, cl2, vpn, vp0, le8, le16, le40, le640, le1400, le6400, lt8, lt16, le15, le2, nI_leI, nI_ltI, nI_eq, nI_1, nI_add, n_le0, n_lt0, n_0le, n_eq0, n_eq1, n_eq2, n_m1, n_m1r, Nat.reduceEqDiff, Nat.reduceAdd, Int32.add_zero, nI_pred, div16, mul15, mul40, mul16, mul640, mulr16, xu_s, xu_c, xu_k, xu_cc, rows_xu, xf_s, xf_c, rows_xf, xul_c, rows_xul, xul_L, lgc, hL.1, hL.2.1, hL.2.2.1, or_false, false_or, n10, n01, n20, false_and, e_isRoot hj, e_goes, e_cr hj, e_qr hj, h2, e17, e18, hv, o10, o3, hm, hm', f1, f2, s2, hwv, o5', o2', o9']
          exact Inv_thr _ _ _ (Inv_out _ _ _ _ hI')
        simp +decide (disch := omega) only [forall_eq, true_and, and_true, and_self, not_true_eq_false, not_false_eq_true, false_imp_iff, true_imp_iff, imp_self, implies_true, ne_eq, reduceIte, cl, cl0, cl1, cl2, vpn, vp0, le8, le16, le40, le640, le1400, le6400, lt8, lt16, le15, le2, nI_leI, nI_ltI, nI_eq, nI_1, nI_add, n_le0, n_lt0, n_0le, n_eq0, n_eq1, n_eq2, n_m1, n_m1r, Nat.reduceEqDiff, Nat.reduceAdd, Int32.add_zero, nI_pred, div16, mul15, mul40, mul16, mul640, mulr16, xu_s, xu_c, xu_k, xu_cc, rows_xu, xf_s, xf_c, rows_xf, xul_c, rows_xul, xul_L, lgc, hL.1, hL.2.1, hL.2.2.1, or_false, false_or, n10, n01, n20, false_and, e_isRoot hj, e_goes, e_cr hj, e_qr hj, h2, e17, e18, hv, o10, o3, hm, hm', f1, f2, s2, hwv, o5', y0, y1, y2]
        exact Inv_thr _ _ _ (Inv_out _ _ _ _ hI')
      · rw [tr_n s2] at f2
        by_cases y0 : y = 0
        · subst y0
          simp +decide (disch := omega) only [forall_eq, true_and, and_true, and_self, not_true_eq_false, not_false_eq_true, false_imp_iff, true_imp_iff, imp_self, implies_true, ne_eq, reduceIte, cl, cl0, cl1, cl2, vpn, vp0, le8, le16, le40, le640, le1400, le6400, lt8, lt16, le15, le2, nI_leI, nI_ltI, nI_eq, nI_1, nI_add, n_le0, n_lt0, n_0le, n_eq0, n_eq1, n_eq2, n_m1, n_m1r, Nat.reduceEqDiff, Nat.reduceAdd, Int32.add_zero, nI_pred, div16, mul15, mul40, mul16, mul640, mulr16, xu_s, xu_c, xu_k, xu_cc, rows_xu, xf_s, xf_c, rows_xf, xul_c, rows_xul, xul_L, lgc, hL.1, hL.2.1, hL.2.2.1, or_false, false_or, n10, n01, n20, false_and, e_isRoot hj, e_goes, e_cr hj, e_qr hj, h2, e17, e18, hv, o10, o3, hm, hm', f1, f2, s2]
          exact Inv_thr _ _ _ (Inv_out _ _ _ _ hI')
        by_cases y1 : y = 1
        · subst y1
          simp +decide (disch := omega) only [forall_eq, true_and, and_true, and_self, not_true_eq_false, not_false_eq_true, false_imp_iff, true_imp_iff, imp_self, implies_true, ne_eq, reduceIte, cl, cl0, cl1, cl2, vpn, vp0, le8, le16, le40, le640, le1400, le6400, lt8, lt16, le15, le2, nI_leI, nI_ltI, nI_eq, nI_1, nI_add, n_le0, n_lt0, n_0le, n_eq0, n_eq1, n_eq2, n_m1, n_m1r, Nat.reduceEqDiff, Nat.reduceAdd, Int32.add_zero, nI_pred, div16, mul15, mul40, mul16, mul640, mulr16, xu_s, xu_c, xu_k, xu_cc, rows_xu, xf_s, xf_c, rows_xf, xul_c, rows_xul, xul_L, lgc, hL.1, hL.2.1, hL.2.2.1, or_false, false_or, n10, n01, n20, false_and, e_isRoot hj, e_goes, e_cr hj, e_qr hj, h2, e17, e18, hv, o10, o3, hm, hm', f1, f2, s2]
          exact Inv_thr _ _ _ (Inv_out _ _ _ _ hI')
        by_cases y2 : y = 2
        · subst y2
          simp +decide (disch := omega) only [forall_eq, true_and, and_true, and_self, not_true_eq_false, not_false_eq_true, false_imp_iff, true_imp_iff, imp_self, implies_true, ne_eq, reduceIte, cl, cl0, cl1, cl2, vpn, vp0, le8, le16, le40, le640, le1400, le6400, lt8, lt16, le15, le2, nI_leI, nI_ltI, nI_eq, nI_1, nI_add, n_le0, n_lt0, n_0le, n_eq0, n_eq1, n_eq2, n_m1, n_m1r, Nat.reduceEqDiff, Nat.reduceAdd, Int32.add_zero, nI_pred, div16, mul15, mul40, mul16, mul640, mulr16, xu_s, xu_c, xu_k, xu_cc, rows_xu, xf_s, xf_c, rows_xf, xul_c, rows_xul, xul_L, lgc, hL.1, hL.2.1, hL.2.2.1, or_false, false_or, n10, n01, n20, false_and, e_isRoot hj, e_goes, e_cr hj, e_qr hj, h2, e17, e18, hv, o10, o3, hm, hm', f1, f2, s2]
          exact Inv_thr _ _ _ (Inv_out _ _ _ _ hI')
        simp +decide (disch := omega) only [forall_eq, true_and, and_true, and_self, not_true_eq_false, not_false_eq_true, false_imp_iff, true_imp_iff, imp_self, implies_true, ne_eq, reduceIte, cl, cl0, cl1, cl2, vpn, vp0, le8, le16, le40, le640, le1400, le6400, lt8, lt16, le15, le2, nI_leI, nI_ltI, nI_eq, nI_1, nI_add, n_le0, n_lt0, n_0le, n_eq0, n_eq1, n_eq2, n_m1, n_m1r, Nat.reduceEqDiff, Nat.reduceAdd, Int32.add_zero, nI_pred, div16, mul15, mul40, mul16, mul640, mulr16, xu_s, xu_c, xu_k, xu_cc, rows_xu, xf_s, xf_c, rows_xf, xul_c, rows_xul, xul_L, lgc, hL.1, hL.2.1, hL.2.2.1, or_false, false_or, n10, n01, n20, false_and, e_isRoot hj, e_goes, e_cr hj, e_qr hj, h2, e17, e18, hv, o10, o3, hm, hm', f1, f2, s2, y0, y1, y2]
        exact Inv_thr _ _ _ (Inv_out _ _ _ _ hI')
    · have hm' : m ≤ n := by omega
      simp (disch := omega) only [forall_eq, true_and, and_true, and_self, not_true_eq_false, not_false_eq_true, false_imp_iff, true_imp_iff, imp_self, implies_true, ne_eq, reduceIte, cl, cl0, cl1, cl2, vpn, vp0, le8, le16, le40, le640, le1400, le6400, lt8, lt16, le15, le2, nI_leI, nI_ltI, nI_eq, nI_1, nI_add, n_le0, n_lt0, n_0le, n_eq0, n_eq1, n_eq2, n_m1, n_m1r, Nat.reduceEqDiff, Nat.reduceAdd, Int32.add_zero, nI_pred, div16, mul15, mul40, mul16, mul640, mulr16, xu_s, xu_c, xu_k, xu_cc, rows_xu, xf_s, xf_c, rows_xf, xul_c, rows_xul, xul_L, lgc, hL.1, hL.2.1, hL.2.2.1, or_false, false_or, n10, n01, n20, false_and, e_isRoot hj, e_goes, e_cr hj, e_qr hj, h2, e17, e18, hv, o10, o3, hm, hm']
      exact Inv_thr _ _ _ (Inv_out _ _ _ _ hI')
  · obtain ⟨e17, e17b, e18⟩ := root_no hI' hj h2
    simp +decide (disch := omega) only [forall_eq, true_and, and_true, and_self, not_true_eq_false, not_false_eq_true, false_imp_iff, true_imp_iff, imp_self, implies_true, ne_eq, reduceIte, cl, cl0, cl1, cl2, vpn, vp0, le8, le16, le40, le640, le1400, le6400, lt8, lt16, le15, le2, nI_leI, nI_ltI, nI_eq, nI_1, nI_add, n_le0, n_lt0, n_0le, n_eq0, n_eq1, n_eq2, n_m1, n_m1r, Nat.reduceEqDiff, Nat.reduceAdd, Int32.add_zero, nI_pred, div16, mul15, mul40, mul16, mul640, mulr16, xu_s, xu_c, xu_k, xu_cc, rows_xu, xf_s, xf_c, rows_xf, xul_c, rows_xul, xul_L, lgc, hL.1, hL.2.1, hL.2.2.1, or_false, false_or, n10, n01, n20, false_and, e_isRoot hj, e_goes, e_cr hj, e_qr hj, h2, e17b, e18]
    exact Inv_thr _ _ _ (Inv_out _ _ _ _ hI')
