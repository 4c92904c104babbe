theorem k_11 (xs : Nat → Int32) (L : Nat) (x4 : Int32) (t : Nat) (σ : xS) (ht : t < 512) (hI : Inv t σ) (hL : lawOk L x4) : o_11 xs L x4 σ (Inv (t + 1)) := by
  have hI' := Inv_nop t σ ht hI
  unfold o_11 p_Law_watch p_Rp_watch q_Rp_watch p_Mod_watch p_Mod_thrown p_Mod_watch_J23 p_Mod_watch_J24 p_Val_contentOf_5 p_Lin_append_9
  generalize xs (x4 + 1).toNatClampNeg = x
  rcases root_cases x with h | ⟨j, hj, rfl⟩
  · have h : badRoot x := h
    simp (disch := omega) only [forall_eq, true_and, and_true, and_self, not_true_eq_false, not_false_eq_true, false_imp_iff, true_imp_iff, imp_self, implies_true, ne_eq, reduceIte, cl, cl0, cl1, cl2, vpn, vp0, le8, le16, le40, le640, le1400, le6400, lt8, lt16, le15, le2, nI_leI, nI_ltI, nI_eq, nI_1, nI_add, n_le0, n_lt0, n_0le, n_eq0, n_eq1, n_eq2, n_m1, n_m1r, Nat.reduceEqDiff, Nat.reduceAdd, Int32.add_zero, nI_pred, div16, mul15, mul40, mul16, mul640, mulr16, xu_s, xu_c, xu_k, xu_cc, rows_xu, xf_s, xf_c, rows_xf, xul_c, rows_xul, xul_L, lgc, hL.1, hL.2.1, hL.2.2.1, or_false, false_or, n10, n01, n20, false_and, e_isRootN h, e_goes1, e_crN h, e_qrN h, s_is, s_si]
    exact Inv_thr _ _ _ hI'
  by_cases r2 : σ 54 j = 2
  · obtain ⟨u, hu, hv, e17, e18⟩ := root_at hI' hj r2
    obtain ⟨k, tg, m, g, p, z1, z2, z3, z4, z5, z6, o1, o2, o3, o4, o5, o6, o7, o8, o9, o10, o11, o12, o13, o14, o15⟩ := obj_at hI' hu
    obtain ⟨n, hn, hn6, w1, w2⟩ := wat_iff hI' hu
    have hw0 : ∃ w, σ 45 u = nI w ∧ w ≤ t + 1 := by
      obtain ⟨⟨h1, h2, h3, h4, h5, h6, h7, h8, h9⟩, c1, c2, c3, c4, c5, c6, c7⟩ := hI'
      have := (h1 u hu).2.2.2.2.2.2.1
      exact ⟨_, this.1, by omega⟩
    obtain ⟨w, hw, hwt⟩ := hw0
    rw [hw] at w1 w2
    have ew : (nI w).toNatClampNeg = w := cl (by omega)
    rw [ew] at w1 w2
    simp (disch := omega) only [forall_eq, true_and, and_true, and_self, not_true_eq_false, not_false_eq_true, false_imp_iff, true_imp_iff, imp_self, implies_true, ne_eq, reduceIte, cl, cl0, cl1, cl2, vpn, vp0, le8, le16, le40, le640, le1400, le6400, lt8, lt16, le15, le2, nI_leI, nI_ltI, nI_eq, nI_1, nI_add, n_le0, n_lt0, n_0le, n_eq0, n_eq1, n_eq2, n_m1, n_m1r, Nat.reduceEqDiff, Nat.reduceAdd, Int32.add_zero, nI_pred, div16, mul15, mul40, mul16, mul640, mulr16, xu_s, xu_c, xu_k, xu_cc, rows_xu, xf_s, xf_c, rows_xf, xul_c, rows_xul, xul_L, lgc, hL.1, hL.2.1, hL.2.2.1, or_false, false_or, n10, n01, n20, false_and, e_isRoot hj, e_goes, e_cr hj, e_qr hj, r2, e17, e18, hv, e_cfY hj e17, e_qfY hj e17]
    refine e_has hn hn6 _ _ (fun hy => ?_) (fun hno => ?_)
    · have : ¬ w = 0 := by have := w1 hy; omega
      simp (disch := omega) only [forall_eq, true_and, and_true, and_self, not_true_eq_false, not_false_eq_true, false_imp_iff, true_imp_iff, imp_self, implies_true, ne_eq, reduceIte, cl, cl0, cl1, cl2, vpn, vp0, le8, le16, le40, le640, le1400, le6400, lt8, lt16, le15, le2, nI_leI, nI_ltI, nI_eq, nI_1, nI_add, n_le0, n_lt0, n_0le, n_eq0, n_eq1, n_eq2, n_m1, n_m1r, Nat.reduceEqDiff, Nat.reduceAdd, Int32.add_zero, nI_pred, div16, mul15, mul40, mul16, mul640, mulr16, xu_s, xu_c, xu_k, xu_cc, rows_xu, xf_s, xf_c, rows_xf, xul_c, rows_xul, xul_L, lgc, hL.1, hL.2.1, hL.2.2.1, or_false, false_or, n10, n01, n20, false_and, e_isRoot hj, p_Mod_refers, p_Mod_refers_J16, e_goes, r2, e17, e18, hv, hw, this]
      exact Inv_thr _ _ _ (Inv_out _ _ _ _ hI')
    · have w0 := w2 hno
      obtain ⟨⟨h1, h2, h3, h4, h5, h6, h7, h8, h9⟩, c1, c2, c3, c4, c5, c6, c7⟩ := id hI'
      obtain ⟨W, hW, hWt⟩ : ∃ W, σ 31 10 = nI W ∧ W ≤ t := by
        have := hI.1.2.2.2.2.2.2.2.2
        exact ⟨_, this.1, this.2⟩
      rw [hW] at h1
      have eW : (nI W).toNatClampNeg = W := cl (by omega)
      have eW1 : (nI (W + 1)).toNatClampNeg = W + 1 := cl (by omega)
      rw [hn] at c5
      have en : (nI n).toNatClampNeg = n := cl (by omega)
      rw [cWat, en] at c5
      obtain ⟨a1, a2, l, a3, a4, a5⟩ := c5
      have hn' : n + 1 ≤ 640 := by
        refine pigeon 640 (n + 1) (fun k => if k < n then l k else u) (fun i hi => ?_) (fun i k hik hk => ?_)
        · by_cases h : i < n
          · rw [if_pos h]; exact (a3 i h).1.1
          · rw [if_neg h]; exact z6
        · have hi : i < n := by omega
          rw [if_pos hi]
          by_cases h : k < n
          · rw [if_pos h]
            intro e
            have := a4 i k hik h
            rw [e] at this
            omega
          · rw [if_neg h]
            intro e
            have := (a3 i hi).2.1
            rw [e, hw, ew] at this
            omega
      have l6 : ¬ 640 ≤ n := by omega
      simp (disch := omega) only [forall_eq, true_and, and_true, and_self, not_true_eq_false, not_false_eq_true, false_imp_iff, true_imp_iff, imp_self, implies_true, ne_eq, reduceIte, cl, cl0, cl1, cl2, vpn, vp0, le8, le16, le40, le640, le1400, le6400, lt8, lt16, le15, le2, nI_leI, nI_ltI, nI_eq, nI_1, nI_add, n_le0, n_lt0, n_0le, n_eq0, n_eq1, n_eq2, n_m1, n_m1r, Nat.reduceEqDiff, Nat.reduceAdd, Int32.add_zero, nI_pred, div16, mul15, mul40, mul16, mul640, mulr16, xu_s, xu_c, xu_k, xu_cc, rows_xu, xf_s, xf_c, rows_xf, xul_c, rows_xul, xul_L, lgc, hL.1, hL.2.1, hL.2.2.1, or_false, false_or, n10, n01, n20, false_and, e_isRoot hj, p_Mod_refers, p_Mod_refers_J16, e_goes, r2, e17, e18, hv, hw, w0, hn, l6, hW]
      unfold Inv Ref Cls
      simp (disch := omega) only [forall_eq, true_and, and_true, and_self, not_true_eq_false, not_false_eq_true, false_imp_iff, true_imp_iff, imp_self, implies_true, ne_eq, reduceIte, cl, cl0, cl1, cl2, vpn, vp0, le8, le16, le40, le640, le1400, le6400, lt8, lt16, le15, le2, nI_leI, nI_ltI, nI_eq, nI_1, nI_add, n_le0, n_lt0, n_0le, n_eq0, n_eq1, n_eq2, n_m1, n_m1r, Nat.reduceEqDiff, Nat.reduceAdd, Int32.add_zero, nI_pred, div16, mul15, mul40, mul16, mul640, mulr16, xu_s, xu_c, xu_k, xu_cc, rows_xu, xf_s, xf_c, rows_xf, xul_c, rows_xul, xul_L, lgc]
      refine ⟨⟨?_, h2, h3, h4, h5, h6, h7, h8, by omega⟩, c1, c2, c3, c4, ?_, c6, c7⟩
      · intro o ho
        obtain ⟨b1, b2, b3, b4, b5, b6, ⟨b7, b8⟩, b9⟩ := h1 o ho
        refine ⟨b1, b2, b3, b4, b5, b6, ?_, b9⟩
        by_cases e : o = u
        · rw [e, upd_s, eW1]; exact ⟨rfl, by omega⟩
        · rw [upd_n _ _ e]; exact ⟨b7, by omega⟩
      · refine ⟨by rw [cl (by omega)], by rw [cl (by omega)]; omega, fun k => if k < n then l k else u, fun k hk => ?_, fun i k hik hk => ?_, fun o ho h0 => ?_⟩
        · rw [cl (by omega)] at hk
          dsimp only
          by_cases h : k < n
          · obtain ⟨b1, b2, b3⟩ := a3 k h
            have : l k ≠ u := fun e => by rw [e, hw, ew] at b2; omega
            rw [if_pos h, upd_n _ _ this, upd_n (σ 25) _ (show k ≠ n by omega)]
            exact ⟨b1, b2, b3⟩
          · rw [if_neg h, upd_s, eW1, show k = n by omega, upd_s]
            exact ⟨hu, by omega, rfl⟩
        · rw [cl (by omega)] at hk
          dsimp only
          have hi : i < n := by omega
          have : l i ≠ u := fun e => by have := (a3 i hi).2.1; rw [e, hw, ew] at this; omega
          rw [if_pos hi, upd_n _ _ this]
          by_cases h : k < n
          · have : l k ≠ u := fun e => by have := (a3 k h).2.1; rw [e, hw, ew] at this; omega
            rw [if_pos h, upd_n _ _ this]
            exact a4 i k hik h
          · rw [if_neg h, upd_s, eW1]
            have := (h1 _ (a3 i hi).1).2.2.2.2.2.2.1.2
            omega
        · rw [cl (by omega)]
          by_cases e : o = u
          · exact ⟨n, by omega, by dsimp only; rw [if_neg (Nat.lt_irrefl n), e]⟩
          · rw [upd_n _ _ e] at h0
            obtain ⟨k, hk, ek⟩ := a5 o ho h0
            exact ⟨k, by omega, by dsimp only; rw [if_pos hk, ek]⟩
  · obtain ⟨e17, _, _⟩ := root_no hI' hj r2
    simp (disch := omega) only [forall_eq, true_and, and_true, and_self, not_true_eq_false, not_false_eq_true, false_imp_iff, true_imp_iff, imp_self, implies_true, ne_eq, reduceIte, cl, cl0, cl1, cl2, vpn, vp0, le8, le16, le40, le640, le1400, le6400, lt8, lt16, le15, le2, nI_leI, nI_ltI, nI_eq, nI_1, nI_add, n_le0, n_lt0, n_0le, n_eq0, n_eq1, n_eq2, n_m1, n_m1r, Nat.reduceEqDiff, Nat.reduceAdd, Int32.add_zero, nI_pred, div16, mul15, mul40, mul16, mul640, mulr16, xu_s, xu_c, xu_k, xu_cc, rows_xu, xf_s, xf_c, rows_xf, xul_c, rows_xul, xul_L, lgc, hL.1, hL.2.1, hL.2.2.1, or_false, false_or, n10, n01, n20, false_and, e_isRoot hj, e_cr hj, e_qr hj, p_Mod_refers, p_Mod_refers_J16, r2, e_cfN hj e17, e_qfN hj e17, e_goes2, s_is, s_si]
    exact Inv_thr _ _ _ hI'
