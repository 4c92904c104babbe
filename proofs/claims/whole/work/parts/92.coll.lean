theorem k_2 (xs : Nat → Int32) (L : Nat) (x4 : Int32) (t : Nat) (σ : xS) (ht : t < 512) (hI : Inv t σ) (hL : lawOk L x4) : o_2 xs L x4 σ (Inv (t + 1)) := by
  have hI' := Inv_nop t σ ht hI
  have hI2 : Inv2 (t + 1) σ σ := Inv2_s.mpr hI'
  obtain ⟨⟨h1, h2, h3, h4, h5, h6, h7, h8, h9⟩, c1, c2, c3, c4, c5, c6, c7⟩ := id hI'
  obtain ⟨R, hR, hR8⟩ : ∃ r, σ 31 13 = nI r ∧ r ≤ 8 := ⟨_, h6.1, h6.2.1⟩
  have hR7 : σ 7 4 = nI R := by rw [c3.1, hR]
  have eR : rN σ = R := by unfold rN; rw [hR, cl (by omega)]
  unfold o_2 p_Law_collect p_Mod_collect p_Mod_thrown
  refine ⟨hL.1, ?_⟩
  generalize xs (x4 + 1).toNatClampNeg = x
  rcases reg_cases x (r := R) (by omega) with h | ⟨j, hj, rfl⟩
  · have h : badReg x R := h
    right
    refine ⟨Or.inl ((e_qrgN h hR7 _).mpr rfl), hL.1, ?_⟩
    rw [e_mrgN h hR, e_goes1]
    simp (disch := omega) only [forall_eq, true_and, and_true, and_self, not_true_eq_false, not_false_eq_true, false_imp_iff, true_imp_iff, imp_self, implies_true, ne_eq, reduceIte, cl, cl0, cl1, cl2, vpn, vp0, le8, le16, le40, le640, le1400, le6400, lt8, lt16, le15, le2, nI_leI, nI_ltI, nI_eq, nI_1, nI_add, n_le0, n_lt0, n_0le, n_eq0, n_eq1, n_eq2, n_m1, n_m1r, Nat.reduceEqDiff, Nat.reduceAdd, Int32.add_zero, nI_pred, div16, mul15, mul40, mul16, mul640, mulr16, xu_s, xu_c, xu_k, xu_cc, rows_xu, xf_s, xf_c, rows_xf, xul_c, rows_xul, xul_L, lgc, n10]
    exact Inv_thr _ _ _ hI'
  · left
    unfold p_Rp_collect
    rw [e_crg hR8 hj hR7]
    obtain ⟨w, wn, hW⟩ := DW_ex hI2
    refine colC (by omega) hI2 (by omega) hW _ (fun σ1 hI1 hF1 => ?_)
    have hD := DW_DD (r := j) (by omega) hI2 hW
    refine ⟨(vp0 (by decide) (by decide)).mpr trivial, hL.1, ?_⟩
    have e13 : xul σ1 30 ((0 : Int32).toNatClampNeg) (nI (g7 σ j (ddW σ j w wn) (nnW σ j w wn))).toInt64 31 13 = nI R := by
      simp (disch := omega) only [forall_eq, true_and, and_true, and_self, not_true_eq_false, not_false_eq_true, false_imp_iff, true_imp_iff, imp_self, implies_true, ne_eq, reduceIte, cl, cl0, cl1, cl2, vpn, vp0, le8, le16, le40, le640, le1400, le6400, lt8, lt16, le15, le2, nI_leI, nI_ltI, nI_eq, nI_1, nI_add, n_le0, n_lt0, n_0le, n_eq0, n_eq1, n_eq2, n_m1, n_m1r, Nat.reduceEqDiff, Nat.reduceAdd, Int32.add_zero, nI_pred, div16, mul15, mul40, mul16, mul640, mulr16, xu_s, xu_c, xu_k, xu_cc, rows_xu, xf_s, xf_c, rows_xf, xul_c, rows_xul, xul_L, lgc]
      rw [hF1 31 (by omega)]; exact hR
    rw [e_mrg hR8 hj e13, e_goes]
    simp (disch := omega) only [forall_eq, true_and, and_true, and_self, not_true_eq_false, not_false_eq_true, false_imp_iff, true_imp_iff, imp_self, implies_true, ne_eq, reduceIte, cl, cl0, cl1, cl2, vpn, vp0, le8, le16, le40, le640, le1400, le6400, lt8, lt16, le15, le2, nI_leI, nI_ltI, nI_eq, nI_1, nI_add, n_le0, n_lt0, n_0le, n_eq0, n_eq1, n_eq2, n_m1, n_m1r, Nat.reduceEqDiff, Nat.reduceAdd, Int32.add_zero, nI_pred, div16, mul15, mul40, mul16, mul640, mulr16, xu_s, xu_c, xu_k, xu_cc, rows_xu, xf_s, xf_c, rows_xf, xul_c, rows_xul, xul_L, lgc, n10]
    refine colM (by omega) hI2 hD (by omega) ⟨fun d h1 h2 h3 => ?_, fun k h1 h2 => ?_⟩ _ (fun τ hE hC => ?_)
    · simp (disch := omega) only [forall_eq, true_and, and_true, and_self, not_true_eq_false, not_false_eq_true, false_imp_iff, true_imp_iff, imp_self, implies_true, ne_eq, reduceIte, cl, cl0, cl1, cl2, vpn, vp0, le8, le16, le40, le640, le1400, le6400, lt8, lt16, le15, le2, nI_leI, nI_ltI, nI_eq, nI_1, nI_add, n_le0, n_lt0, n_0le, n_eq0, n_eq1, n_eq2, n_m1, n_m1r, Nat.reduceEqDiff, Nat.reduceAdd, Int32.add_zero, nI_pred, div16, mul15, mul40, mul16, mul640, mulr16, xu_s, xu_c, xu_k, xu_cc, rows_xu, xf_s, xf_c, rows_xf, xul_c, rows_xul, xul_L, lgc]; exact hF1 d (by omega)
    · simp (disch := omega) only [forall_eq, true_and, and_true, and_self, not_true_eq_false, not_false_eq_true, false_imp_iff, true_imp_iff, imp_self, implies_true, ne_eq, reduceIte, cl, cl0, cl1, cl2, vpn, vp0, le8, le16, le40, le640, le1400, le6400, lt8, lt16, le15, le2, nI_leI, nI_ltI, nI_eq, nI_1, nI_add, n_le0, n_lt0, n_0le, n_eq0, n_eq1, n_eq2, n_m1, n_m1r, Nat.reduceEqDiff, Nat.reduceAdd, Int32.add_zero, nI_pred, div16, mul15, mul40, mul16, mul640, mulr16, xu_s, xu_c, xu_k, xu_cc, rows_xu, xf_s, xf_c, rows_xf, xul_c, rows_xul, xul_L, lgc]
      rw [hF1 31 (by omega)]
    · have hc : ∀ d, (d < 30 ∨ (32 ≤ d ∧ d < 40)) → τ d = σ1 d := fun d hd => by
        rw [hC.1 d (by omega)]
        simp (disch := omega) only [forall_eq, true_and, and_true, and_self, not_true_eq_false, not_false_eq_true, false_imp_iff, true_imp_iff, imp_self, implies_true, ne_eq, reduceIte, cl, cl0, cl1, cl2, vpn, vp0, le8, le16, le40, le640, le1400, le6400, lt8, lt16, le15, le2, nI_leI, nI_ltI, nI_eq, nI_1, nI_add, n_le0, n_lt0, n_0le, n_eq0, n_eq1, n_eq2, n_m1, n_m1r, Nat.reduceEqDiff, Nat.reduceAdd, Int32.add_zero, nI_pred, div16, mul15, mul40, mul16, mul640, mulr16, xu_s, xu_c, xu_k, xu_cc, rows_xu, xf_s, xf_c, rows_xf, xul_c, rows_xul, xul_L, lgc]
      have hfin := Inv2_s.mp (Inv2_RE (Inv2_CF hI1 hc) hE)
      have e30 := hC.1 30 (by omega)
      have e0 := hC.2
      simp (disch := omega) only [forall_eq, true_and, and_true, and_self, not_true_eq_false, not_false_eq_true, false_imp_iff, true_imp_iff, imp_self, implies_true, ne_eq, reduceIte, cl, cl0, cl1, cl2, vpn, vp0, le8, le16, le40, le640, le1400, le6400, lt8, lt16, le15, le2, nI_leI, nI_ltI, nI_eq, nI_1, nI_add, n_le0, n_lt0, n_0le, n_eq0, n_eq1, n_eq2, n_m1, n_m1r, Nat.reduceEqDiff, Nat.reduceAdd, Int32.add_zero, nI_pred, div16, mul15, mul40, mul16, mul640, mulr16, xu_s, xu_c, xu_k, xu_cc, rows_xu, xf_s, xf_c, rows_xf, xul_c, rows_xul, xul_L, lgc] at e0
      simp (disch := omega) only [forall_eq, true_and, and_true, and_self, not_true_eq_false, not_false_eq_true, false_imp_iff, true_imp_iff, imp_self, implies_true, ne_eq, reduceIte, cl, cl0, cl1, cl2, vpn, vp0, le8, le16, le40, le640, le1400, le6400, lt8, lt16, le15, le2, nI_leI, nI_ltI, nI_eq, nI_1, nI_add, n_le0, n_lt0, n_0le, n_eq0, n_eq1, n_eq2, n_m1, n_m1r, Nat.reduceEqDiff, Nat.reduceAdd, Int32.add_zero, nI_pred, div16, mul15, mul40, mul16, mul640, mulr16, xu_s, xu_c, xu_k, xu_cc, rows_xu, xf_s, xf_c, rows_xf, xul_c, rows_xul, xul_L, lgc, e0, e30]
      exact hfin
