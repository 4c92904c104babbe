theorem fs_ne3 {t : Nat} {σ : xS} (hI : Inv t σ) : ∀ o i, iA (σ 40) o → i < (σ 42 o).toNatClampNeg → σ 46 (15 * o + i) ≠ 3 := by
  obtain ⟨⟨h1, h2, h3, h4, h5, h6, h7, h8, h9⟩, c1, c2, c3, c4, c5, c6, c7⟩ := hI
  intro o i ho hi e3
  rcases h3 o _ ho hi with ⟨h, _⟩ | h | ⟨h, _⟩ <;> (rw [e3] at h; exact absurd h (by decide))
theorem k_1 (xs : Nat → Int32) (L : Nat) (x4 : Int32) (t : Nat) (σ : xS) (ht : t < 512) (hI : Inv t σ) (hL : lawOk L x4) : o_1 xs L x4 σ (Inv (t + 1)) := by
  have hI' := Inv_nop t σ ht hI
  obtain ⟨⟨h1, h2, h3, h4, h5, h6, h7, h8, h9⟩, c1, c2, c3, c4, c5, c6, c7⟩ := id hI'
  obtain ⟨R, hR, hR8⟩ : ∃ r, σ 31 13 = nI r ∧ r ≤ 8 := ⟨_, h6.1, h6.2.1⟩
  have hR7 : σ 7 4 = nI R := by rw [c3.1, hR]
  have etR : (σ 31 13).toNatClampNeg = R := by rw [hR, cl (by omega)]
  unfold o_1 p_Rp_close p_Reg_amount p_Mod_close
  rcases Nat.eq_zero_or_pos R with h0 | h0
  · subst h0
    have : ¬ (0 : Int32) ≤ nI 0 - 1 := by decide
    simp (disch := omega) only [forall_eq, true_and, and_true, and_self, not_true_eq_false, not_false_eq_true, false_imp_iff, true_imp_iff, imp_self, implies_true, ne_eq, reduceIte, cl, cl0, cl1, cl2, vpn, vp0, le8, le16, le40, le640, le1400, le6400, lt8, lt16, le15, le2, nI_leI, nI_ltI, nI_eq, nI_1, nI_add, n_le0, n_lt0, n_0le, n_eq0, n_eq1, n_eq2, n_m1, n_m1r, Nat.reduceEqDiff, Nat.reduceAdd, Int32.add_zero, nI_pred, div16, mul15, mul40, mul16, mul640, mulr16, xu_s, xu_c, xu_k, xu_cc, rows_xu, xf_s, xf_c, rows_xf, xul_c, rows_xul, xul_L, lgc, hR7, hR, this]
    exact Inv_thr _ _ _ hI'
  obtain ⟨r, rfl⟩ : ∃ r, R = r + 1 := ⟨R - 1, by omega⟩
  have nz : ¬ r + 1 = 0 := by omega
  obtain ⟨m, ro, a1, a2, a3, a4, a5, a6⟩ := row_at hI' (r := r) (by omega)
  obtain ⟨n, hq, hn⟩ : ∃ n, σ 31 19 = nI n ∧ n ≤ 640 := ⟨_, h5.1, h5.2.1⟩
  have hq8 : σ 8 1 = nI n := by rw [c4.1, hq]
  have etn : (σ 31 19).toNatClampNeg = n := by rw [hq, cl (by omega)]
  obtain ⟨w1, w2, w, w3, w4, w5⟩ := c5
  obtain ⟨wn, hwn⟩ : ∃ wn, (σ 9 1).toNatClampNeg = wn := ⟨_, rfl⟩
  rw [hwn] at w1 w2 w3 w4 w5
  simp (disch := omega) only [forall_eq, true_and, and_true, and_self, not_true_eq_false, not_false_eq_true, false_imp_iff, true_imp_iff, imp_self, implies_true, ne_eq, reduceIte, cl, cl0, cl1, cl2, vpn, vp0, le8, le16, le40, le640, le1400, le6400, lt8, lt16, le15, le2, nI_leI, nI_ltI, nI_eq, nI_1, nI_add, n_le0, n_lt0, n_0le, n_eq0, n_eq1, n_eq2, n_m1, n_m1r, Nat.reduceEqDiff, Nat.reduceAdd, Int32.add_zero, nI_pred, div16, mul15, mul40, mul16, mul640, mulr16, xu_s, xu_c, xu_k, xu_cc, rows_xu, xf_s, xf_c, rows_xf, xul_c, rows_xul, xul_L, lgc, hR7]
  have hown : ∀ o, iA (σ 40) o → (σ 43 o = nI r ↔ σ 20 ((σ 44 o).toNatClampNeg / 16) = nI r) := fun o ho => by
    rw [(h8.1 o ho).1, ← ((h1 o ho).2.2.2.2.1.1)]
  have hgr : ∀ o, iA (σ 40) o → ∃ g, σ 43 o = nI g ∧ g ≤ r ∧ (σ 43 o).toNatClampNeg = g := fun o ho => ⟨_, (h1 o ho).2.2.2.2.1.1, by have := (h1 o ho).2.2.2.2.1.2; omega, rfl⟩
  have hpl : ∀ o, iA (σ 40) o → σ 44 o = nI ((σ 44 o).toNatClampNeg) ∧ (σ 44 o).toNatClampNeg < 640 := fun o ho => (h1 o ho).2.2.2.2.2.1
  refine e_rootsC (B := fun k => σ 54 k = 2 ∧ σ 43 ((σ 55 k).toNatClampNeg) = nI r) a4 (fun k hk => ⟨fun hb => ?_, fun hb => ?_⟩) _ ?_
  · obtain ⟨u, hu, e1, e2, e3⟩ := root_at hI' hk hb.1
    rw [e1, cl (by have := hu.1; omega)] at hb
    exact ⟨e2, _, by rw [e3]; exact (hpl u hu).1, (hpl u hu).2, (hown u hu).mp hb.2⟩
  · by_cases e : σ 54 k = 2
    · obtain ⟨u, hu, e1, e2, e3⟩ := root_at hI' hk e
      right
      obtain ⟨g, g1, g2, g3⟩ := hgr u hu
      refine ⟨e2, _, g, by rw [e3]; exact (hpl u hu).1, (hpl u hu).2, by rw [(h8.1 u hu).1, g3], ?_⟩
      have : g ≠ r := fun x => hb ⟨e, by rw [e1, cl (by have := hu.1; omega), g1, x]⟩
      omega
    · exact Or.inl (root_no hI' hk e).1
  refine e_drop8 (n := n) (q := fun k => (σ 44 ((σ 56 k).toNatClampNeg)).toNatClampNeg) (K := fun k => ¬ σ 43 ((σ 56 k).toNatClampNeg) = nI r) (by simp (disch := omega) only [forall_eq, true_and, and_true, and_self, not_true_eq_false, not_false_eq_true, false_imp_iff, true_imp_iff, imp_self, implies_true, ne_eq, reduceIte, cl, cl0, cl1, cl2, vpn, vp0, le8, le16, le40, le640, le1400, le6400, lt8, lt16, le15, le2, nI_leI, nI_ltI, nI_eq, nI_1, nI_add, n_le0, n_lt0, n_0le, n_eq0, n_eq1, n_eq2, n_m1, n_m1r, Nat.reduceEqDiff, Nat.reduceAdd, Int32.add_zero, nI_pred, div16, mul15, mul40, mul16, mul640, mulr16, xu_s, xu_c, xu_k, xu_cc, rows_xu, xf_s, xf_c, rows_xf, xul_c, rows_xul, xul_L, lgc, hq8]) hn (fun k hk => ?_) _ ?_
  · obtain ⟨q1, q2⟩ := h5.2.2.1 k (by omega)
    simp (disch := omega) only [forall_eq, true_and, and_true, and_self, not_true_eq_false, not_false_eq_true, false_imp_iff, true_imp_iff, imp_self, implies_true, ne_eq, reduceIte, cl, cl0, cl1, cl2, vpn, vp0, le8, le16, le40, le640, le1400, le6400, lt8, lt16, le15, le2, nI_leI, nI_ltI, nI_eq, nI_1, nI_add, n_le0, n_lt0, n_0le, n_eq0, n_eq1, n_eq2, n_m1, n_m1r, Nat.reduceEqDiff, Nat.reduceAdd, Int32.add_zero, nI_pred, div16, mul15, mul40, mul16, mul640, mulr16, xu_s, xu_c, xu_k, xu_cc, rows_xu, xf_s, xf_c, rows_xf, xul_c, rows_xul, xul_L, lgc]
    refine ⟨?_, (hpl _ q1).2, by rw [hown _ q1]⟩
    rw [c4.2 k (by omega)]; exact (hpl _ q1).1
  refine e_drop9 (n := wn) (q := fun k => (σ 44 (w k)).toNatClampNeg) (K := fun k => ¬ σ 43 (w k) = nI r) (by simp (disch := omega) only [forall_eq, true_and, and_true, and_self, not_true_eq_false, not_false_eq_true, false_imp_iff, true_imp_iff, imp_self, implies_true, ne_eq, reduceIte, cl, cl0, cl1, cl2, vpn, vp0, le8, le16, le40, le640, le1400, le6400, lt8, lt16, le15, le2, nI_leI, nI_ltI, nI_eq, nI_1, nI_add, n_le0, n_lt0, n_0le, n_eq0, n_eq1, n_eq2, n_m1, n_m1r, Nat.reduceEqDiff, Nat.reduceAdd, Int32.add_zero, nI_pred, div16, mul15, mul40, mul16, mul640, mulr16, xu_s, xu_c, xu_k, xu_cc, rows_xu, xf_s, xf_c, rows_xf, xul_c, rows_xul, xul_L, lgc, w1]) w2 (fun k hk => ?_) _ ?_
  · obtain ⟨q1, q2, q3⟩ := w3 k hk
    simp (disch := omega) only [forall_eq, true_and, and_true, and_self, not_true_eq_false, not_false_eq_true, false_imp_iff, true_imp_iff, imp_self, implies_true, ne_eq, reduceIte, cl, cl0, cl1, cl2, vpn, vp0, le8, le16, le40, le640, le1400, le6400, lt8, lt16, le15, le2, nI_leI, nI_ltI, nI_eq, nI_1, nI_add, n_le0, n_lt0, n_0le, n_eq0, n_eq1, n_eq2, n_m1, n_m1r, Nat.reduceEqDiff, Nat.reduceAdd, Int32.add_zero, nI_pred, div16, mul15, mul40, mul16, mul640, mulr16, xu_s, xu_c, xu_k, xu_cc, rows_xu, xf_s, xf_c, rows_xf, xul_c, rows_xul, xul_L, lgc]
    refine ⟨?_, (hpl _ q1).2, by rw [hown _ q1]⟩
    rw [q3]; exact (hpl _ q1).1
  refine e_eraseAll (A := iA (σ 40)) (D := fun o => σ 43 o = nI r) (by simp (disch := omega) only [forall_eq, true_and, and_true, and_self, not_true_eq_false, not_false_eq_true, false_imp_iff, true_imp_iff, imp_self, implies_true, ne_eq, reduceIte, cl, cl0, cl1, cl2, vpn, vp0, le8, le16, le40, le640, le1400, le6400, lt8, lt16, le15, le2, nI_leI, nI_ltI, nI_eq, nI_1, nI_add, n_le0, n_lt0, n_0le, n_eq0, n_eq1, n_eq2, n_m1, n_m1r, Nat.reduceEqDiff, Nat.reduceAdd, Int32.add_zero, nI_pred, div16, mul15, mul40, mul16, mul640, mulr16, xu_s, xu_c, xu_k, xu_cc, rows_xu, xf_s, xf_c, rows_xf, xul_c, rows_xul, xul_L, lgc]; exact c1) h8.2 (fs_ne3 hI') (fun o ho => ?_) _ (fun s c hsc => ?_)
  · have := (h8.1 o ho).2.1
    have := (hpl o ho).2
    obtain ⟨⟨b1, b2⟩, ⟨b3, b4⟩, ⟨b5, b6⟩, _⟩ := h1 o ho
    refine ⟨by omega, by omega, ?_, by simp (disch := omega) only [forall_eq, true_and, and_true, and_self, not_true_eq_false, not_false_eq_true, false_imp_iff, true_imp_iff, imp_self, implies_true, ne_eq, reduceIte, cl, cl0, cl1, cl2, vpn, vp0, le8, le16, le40, le640, le1400, le6400, lt8, lt16, le15, le2, nI_leI, nI_ltI, nI_eq, nI_1, nI_add, n_le0, n_lt0, n_0le, n_eq0, n_eq1, n_eq2, n_m1, n_m1r, Nat.reduceEqDiff, Nat.reduceAdd, Int32.add_zero, nI_pred, div16, mul15, mul40, mul16, mul640, mulr16, xu_s, xu_c, xu_k, xu_cc, rows_xu, xf_s, xf_c, rows_xf, xul_c, rows_xul, xul_L, lgc]; exact hown o ho⟩
    rw [← b5]; exact hd_many b2 b4 b5 b6
  unfold p_Reg_endNewest
  simp (disch := omega) only [forall_eq, true_and, and_true, and_self, not_true_eq_false, not_false_eq_true, false_imp_iff, true_imp_iff, imp_self, implies_true, ne_eq, reduceIte, cl, cl0, cl1, cl2, vpn, vp0, le8, le16, le40, le640, le1400, le6400, lt8, lt16, le15, le2, nI_leI, nI_ltI, nI_eq, nI_1, nI_add, n_le0, n_lt0, n_0le, n_eq0, n_eq1, n_eq2, n_m1, n_m1r, Nat.reduceEqDiff, Nat.reduceAdd, Int32.add_zero, nI_pred, div16, mul15, mul40, mul16, mul640, mulr16, xu_s, xu_c, xu_k, xu_cc, rows_xu, xf_s, xf_c, rows_xf, xul_c, rows_xul, xul_L, lgc, hR7, a2]
  refine e_freeBehind (k0 := 0) (ro := ro) a4 (Nat.zero_le _) a3 (fun k hk => ?_) _ ?_
  · simp (disch := omega) only [forall_eq, true_and, and_true, and_self, not_true_eq_false, not_false_eq_true, false_imp_iff, true_imp_iff, imp_self, implies_true, ne_eq, reduceIte, cl, cl0, cl1, cl2, vpn, vp0, le8, le16, le40, le640, le1400, le6400, lt8, lt16, le15, le2, nI_leI, nI_ltI, nI_eq, nI_1, nI_add, n_le0, n_lt0, n_0le, n_eq0, n_eq1, n_eq2, n_m1, n_m1r, Nat.reduceEqDiff, Nat.reduceAdd, Int32.add_zero, nI_pred, div16, mul15, mul40, mul16, mul640, mulr16, xu_s, xu_c, xu_k, xu_cc, rows_xu, xf_s, xf_c, rows_xf, xul_c, rows_xul, xul_L, lgc]
    exact ⟨(a5 k hk).1, (a5 k hk).2.1⟩
  simp (disch := omega) only [forall_eq, true_and, and_true, and_self, not_true_eq_false, not_false_eq_true, false_imp_iff, true_imp_iff, imp_self, implies_true, ne_eq, reduceIte, cl, cl0, cl1, cl2, vpn, vp0, le8, le16, le40, le640, le1400, le6400, lt8, lt16, le15, le2, nI_leI, nI_ltI, nI_eq, nI_1, nI_add, n_le0, n_lt0, n_0le, n_eq0, n_eq1, n_eq2, n_m1, n_m1r, Nat.reduceEqDiff, Nat.reduceAdd, Int32.add_zero, nI_pred, div16, mul15, mul40, mul16, mul640, mulr16, xu_s, xu_c, xu_k, xu_cc, rows_xu, xf_s, xf_c, rows_xf, xul_c, rows_xul, xul_L, lgc, hR, nz]
  refine e_rootsM (B := fun k => σ 54 k = 2 ∧ σ 43 ((σ 55 k).toNatClampNeg) = nI r) (fun k hk => ⟨fun hb => ?_, fun hb => ?_⟩) _ ?_
  · obtain ⟨u, hu, e1, e2, e3⟩ := root_at hI' hk hb.1
    rw [e1, cl (by have := hu.1; omega)] at hb
    simp (disch := omega) only [forall_eq, true_and, and_true, and_self, not_true_eq_false, not_false_eq_true, false_imp_iff, true_imp_iff, imp_self, implies_true, ne_eq, reduceIte, cl, cl0, cl1, cl2, vpn, vp0, le8, le16, le40, le640, le1400, le6400, lt8, lt16, le15, le2, nI_leI, nI_ltI, nI_eq, nI_1, nI_add, n_le0, n_lt0, n_0le, n_eq0, n_eq1, n_eq2, n_m1, n_m1r, Nat.reduceEqDiff, Nat.reduceAdd, Int32.add_zero, nI_pred, div16, mul15, mul40, mul16, mul640, mulr16, xu_s, xu_c, xu_k, xu_cc, rows_xu, xf_s, xf_c, rows_xf, xul_c, rows_xul, xul_L, lgc]
    exact ⟨hb.1, u, e1, hu.1, hb.2⟩
  · simp (disch := omega) only [forall_eq, true_and, and_true, and_self, not_true_eq_false, not_false_eq_true, false_imp_iff, true_imp_iff, imp_self, implies_true, ne_eq, reduceIte, cl, cl0, cl1, cl2, vpn, vp0, le8, le16, le40, le640, le1400, le6400, lt8, lt16, le15, le2, nI_leI, nI_ltI, nI_eq, nI_1, nI_add, n_le0, n_lt0, n_0le, n_eq0, n_eq1, n_eq2, n_m1, n_m1r, Nat.reduceEqDiff, Nat.reduceAdd, Int32.add_zero, nI_pred, div16, mul15, mul40, mul16, mul640, mulr16, xu_s, xu_c, xu_k, xu_cc, rows_xu, xf_s, xf_c, rows_xf, xul_c, rows_xul, xul_L, lgc]
    by_cases e : σ 54 k = 2
    · obtain ⟨u, hu, e1, e2, e3⟩ := root_at hI' hk e
      right
      exact ⟨e, u, e1, hu.1, fun x => hb ⟨e, by rw [e1, cl (by have := hu.1; omega), x]⟩⟩
    · exact Or.inl e
  refine e_mDrop (n := n) (q := fun k => (σ 56 k).toNatClampNeg) (by simp (disch := omega) only [forall_eq, true_and, and_true, and_self, not_true_eq_false, not_false_eq_true, false_imp_iff, true_imp_iff, imp_self, implies_true, ne_eq, reduceIte, cl, cl0, cl1, cl2, vpn, vp0, le8, le16, le40, le640, le1400, le6400, lt8, lt16, le15, le2, nI_leI, nI_ltI, nI_eq, nI_1, nI_add, n_le0, n_lt0, n_0le, n_eq0, n_eq1, n_eq2, n_m1, n_m1r, Nat.reduceEqDiff, Nat.reduceAdd, Int32.add_zero, nI_pred, div16, mul15, mul40, mul16, mul640, mulr16, xu_s, xu_c, xu_k, xu_cc, rows_xu, xf_s, xf_c, rows_xf, xul_c, rows_xul, xul_L, lgc, hq]) hn (fun k hk => ?_) _ ?_
  · simp (disch := omega) only [forall_eq, true_and, and_true, and_self, not_true_eq_false, not_false_eq_true, false_imp_iff, true_imp_iff, imp_self, implies_true, ne_eq, reduceIte, cl, cl0, cl1, cl2, vpn, vp0, le8, le16, le40, le640, le1400, le6400, lt8, lt16, le15, le2, nI_leI, nI_ltI, nI_eq, nI_1, nI_add, n_le0, n_lt0, n_0le, n_eq0, n_eq1, n_eq2, n_m1, n_m1r, Nat.reduceEqDiff, Nat.reduceAdd, Int32.add_zero, nI_pred, div16, mul15, mul40, mul16, mul640, mulr16, xu_s, xu_c, xu_k, xu_cc, rows_xu, xf_s, xf_c, rows_xf, xul_c, rows_xul, xul_L, lgc]
    obtain ⟨q1, q2⟩ := h5.2.2.1 k (by omega)
    exact ⟨q2, q1.1⟩
  refine e_mRem (pl := fun o => (σ 44 o).toNatClampNeg) (fun o ho => ?_) _ ?_
  · simp (disch := omega) only [forall_eq, true_and, and_true, and_self, not_true_eq_false, not_false_eq_true, false_imp_iff, true_imp_iff, imp_self, implies_true, ne_eq, reduceIte, cl, cl0, cl1, cl2, vpn, vp0, le8, le16, le40, le640, le1400, le6400, lt8, lt16, le15, le2, nI_leI, nI_ltI, nI_eq, nI_1, nI_add, n_le0, n_lt0, n_0le, n_eq0, n_eq1, n_eq2, n_m1, n_m1r, Nat.reduceEqDiff, Nat.reduceAdd, Int32.add_zero, nI_pred, div16, mul15, mul40, mul16, mul640, mulr16, xu_s, xu_c, xu_k, xu_cc, rows_xu, xf_s, xf_c, rows_xf, xul_c, rows_xul, xul_L, lgc] at ho ⊢
    exact hpl o ho
  refine e_mFree (m := m) (ro := ro) a4 (by simp (disch := omega) only [forall_eq, true_and, and_true, and_self, not_true_eq_false, not_false_eq_true, false_imp_iff, true_imp_iff, imp_self, implies_true, ne_eq, reduceIte, cl, cl0, cl1, cl2, vpn, vp0, le8, le16, le40, le640, le1400, le6400, lt8, lt16, le15, le2, nI_leI, nI_ltI, nI_eq, nI_1, nI_add, n_le0, n_lt0, n_0le, n_eq0, n_eq1, n_eq2, n_m1, n_m1r, Nat.reduceEqDiff, Nat.reduceAdd, Int32.add_zero, nI_pred, div16, mul15, mul40, mul16, mul640, mulr16, xu_s, xu_c, xu_k, xu_cc, rows_xu, xf_s, xf_c, rows_xf, xul_c, rows_xul, xul_L, lgc, a1]) a3 (fun k hk => ?_) _ ?_
  · simp (disch := omega) only [forall_eq, true_and, and_true, and_self, not_true_eq_false, not_false_eq_true, false_imp_iff, true_imp_iff, imp_self, implies_true, ne_eq, reduceIte, cl, cl0, cl1, cl2, vpn, vp0, le8, le16, le40, le640, le1400, le6400, lt8, lt16, le15, le2, nI_leI, nI_ltI, nI_eq, nI_1, nI_add, n_le0, n_lt0, n_0le, n_eq0, n_eq1, n_eq2, n_m1, n_m1r, Nat.reduceEqDiff, Nat.reduceAdd, Int32.add_zero, nI_pred, div16, mul15, mul40, mul16, mul640, mulr16, xu_s, xu_c, xu_k, xu_cc, rows_xu, xf_s, xf_c, rows_xf, xul_c, rows_xul, xul_L, lgc]
    exact ⟨(a5 k hk).2.2.1, (a5 k hk).2.1⟩
  simp (disch := omega) only [forall_eq, true_and, and_true, and_self, not_true_eq_false, not_false_eq_true, false_imp_iff, true_imp_iff, imp_self, implies_true, ne_eq, reduceIte, cl, cl0, cl1, cl2, vpn, vp0, le8, le16, le40, le640, le1400, le6400, lt8, lt16, le15, le2, nI_leI, nI_ltI, nI_eq, nI_1, nI_add, n_le0, n_lt0, n_0le, n_eq0, n_eq1, n_eq2, n_m1, n_m1r, Nat.reduceEqDiff, Nat.reduceAdd, Int32.add_zero, nI_pred, div16, mul15, mul40, mul16, mul640, mulr16, xu_s, xu_c, xu_k, xu_cc, rows_xu, xf_s, xf_c, rows_xf, xul_c, rows_xul, xul_L, lgc, hR]
  obtain ⟨K', eK⟩ : ∃ K', cw (fun o => ¬ σ 40 o = -1 ∧ σ 43 o = nI r) id (fun _ => -1) (σ 40) 640 = K' := ⟨_, rfl⟩
  obtain ⟨O', eO⟩ : ∃ O', cw (fun o => ¬ σ 40 o = -1 ∧ σ 43 o = nI r) (fun o => (σ 44 o).toNatClampNeg) (fun _ => -1) (σ 49) 640 = O' := ⟨_, rfl⟩
  obtain ⟨Ow', eW⟩ : ∃ O', cw (fun _ => True) (fun k => ro (0 + k)) (fun _ => -1) (σ 20) (m - 0) = O' := ⟨_, rfl⟩
  obtain ⟨Ta', eT⟩ : ∃ O', cw (fun _ => True) ro (fun _ => 0) (σ 50) m = O' := ⟨_, rfl⟩
  have hK : ∀ o, iA K' o ↔ iA (σ 40) o ∧ ¬ σ 43 o = nI r := fun o => by
    obtain ⟨x1, x2⟩ := cw_id (B := fun o => ¬ σ 40 o = -1 ∧ σ 43 o = nI r) (v := fun _ => -1) (f := σ 40) 640 o
    rw [eK] at x1 x2
    by_cases hb : o < 640 ∧ ¬ σ 40 o = -1 ∧ σ 43 o = nI r
    · exact ⟨fun h => absurd (x1 hb.1 hb.2) h.2, fun h => absurd hb.2.2 h.2⟩
    · have := x2 hb
      unfold iA
      rw [this]
      exact ⟨fun h => ⟨h, fun e => hb ⟨h.1, h.2, e⟩⟩, fun h => h.1⟩
  have hK2 : ∀ o, iA K' o → K' o = σ 40 o := fun o h => by
    obtain ⟨x1, x2⟩ := cw_id (B := fun o => ¬ σ 40 o = -1 ∧ σ 43 o = nI r) (v := fun _ => -1) (f := σ 40) 640 o
    rw [eK] at x1 x2
    exact x2 (fun hb => ((hK o).mp h).2 hb.2.2)
  have hlt : ∀ o, iA K' o → (σ 43 o).toNatClampNeg < r := fun o h => by
    obtain ⟨g, g1, g2, g3⟩ := hgr o ((hK o).mp h).1
    have := ((hK o).mp h).2
    rw [g1] at this
    have : g ≠ r := fun e => this (by rw [e])
    omega
  have hO1 : ∀ p, (∃ k, iA (σ 40) k ∧ σ 43 k = nI r ∧ (σ 44 k).toNatClampNeg = p) → O' p = -1 := fun p h => by
    obtain ⟨k, k1, k2, k3⟩ := h
    rw [← eO]; exact cw_c k1.1 ⟨k1.2, k2⟩ k3
  have hO2 : ∀ p, (∀ k, iA (σ 40) k → σ 43 k = nI r → (σ 44 k).toNatClampNeg ≠ p) → O' p = σ 49 p := fun p h => by
    rw [← eO]; exact cw_no 640 (fun k hk hb => h k ⟨hk, hb.1⟩ hb.2)
  have hW1 : ∀ k, k < m → Ow' (ro k) = -1 := fun k hk => by
    rw [← eW]; exact cw_c (k := k) (by omega) trivial (by rw [Nat.zero_add])
  have hW2 : ∀ p, (∀ k, k < m → ro k ≠ p) → Ow' p = σ 20 p := fun p h => by
    rw [← eW]; exact cw_no _ (fun k hk _ => by rw [Nat.zero_add]; exact h k (by omega))
  have hT1 : ∀ k, k < m → Ta' (ro k) = 0 := fun k hk => by
    rw [← eT]; exact cw_c (k := k) hk trivial rfl
  have hT2 : ∀ p, (∀ k, k < m → ro k ≠ p) → Ta' p = σ 50 p := fun p h => by
    rw [← eT]; exact cw_no _ (fun k hk _ => h k (by omega))
  have hro : ∀ g p, g ≠ r → g < 8 → σ 20 p = nI g → ∀ k, k < m → ro k ≠ p := fun g p hg hg8 e k hk e' => by
    have := (a5 k hk).2.2.2
    rw [e', e] at this
    exact hg ((nI_eq (by omega) (by omega)).mp this)
  have hv : ∀ q s v, vOk (σ 40) (σ 43) q s v → (∀ u, iA (σ 40) u → s = 2 → v = nI u → ¬ σ 43 u = nI r) → vOk K' (σ 43) q s v := fun q s v h hu => by
    rcases h with h | h | ⟨h, u, x, y, z⟩
    · exact Or.inl h
    · exact Or.inr (Or.inl h)
    · exact Or.inr (Or.inr ⟨h, u, (hK u).mpr ⟨x, hu u x h y⟩, y, z⟩)
  have ecn : (nI (cnt (fun k => ¬ σ 43 ((σ 56 k).toNatClampNeg) = nI r) n)).toNatClampNeg = cnt (fun k => ¬ σ 43 ((σ 56 k).toNatClampNeg) = nI r) n := cl (by have := cnt_le (fun k => ¬ σ 43 ((σ 56 k).toNatClampNeg) = nI r) n; omega)
  have ecw : (nI (cnt (fun k => ¬ σ 43 (w k) = nI r) wn)).toNatClampNeg = cnt (fun k => ¬ σ 43 (w k) = nI r) wn := cl (by have := cnt_le (fun k => ¬ σ 43 (w k) = nI r) wn; omega)
  have er : (nI r).toNatClampNeg = r := cl (by omega)
  rw [eK, eO, eW, eT]
  unfold Inv Ref Cls
  simp (disch := omega) only [forall_eq, true_and, and_true, and_self, not_true_eq_false, not_false_eq_true, false_imp_iff, true_imp_iff, imp_self, implies_true, ne_eq, reduceIte, cl, cl0, cl1, cl2, vpn, vp0, le8, le16, le40, le640, le1400, le6400, lt8, lt16, le15, le2, nI_leI, nI_ltI, nI_eq, nI_1, nI_add, n_le0, n_lt0, n_0le, n_eq0, n_eq1, n_eq2, n_m1, n_m1r, Nat.reduceEqDiff, Nat.reduceAdd, Int32.add_zero, nI_pred, div16, mul15, mul40, mul16, mul640, mulr16, xu_s, xu_c, xu_k, xu_cc, rows_xu, xf_s, xf_c, rows_xf, xul_c, rows_xul, xul_L, lgc]
  refine ⟨⟨?_, ?_, ?_, ?_, ?_, ?_, ?_, ?_, h9⟩, ?_, ?_, ?_, ?_, ?_, c6, c7⟩
  · intro o ho
    obtain ⟨b1, b2, b3, b4, b5, b6, b7, b8⟩ := h1 o ((hK o).mp ho).1
    rw [hK2 o ho, er]
    refine ⟨b1, b2, b3, b4, ⟨b5.1, hlt o ho⟩, b6, b7, ?_⟩
    rw [hO2 _ (fun k k1 k2 e => ((hK o).mp ho).2 (pl_inj hI' k1 ((hK o).mp ho).1 e ▸ k2))]
    exact b8
  · intro p hp
    by_cases hx : ∃ k, iA (σ 40) k ∧ σ 43 k = nI r ∧ (σ 44 k).toNatClampNeg = p
    · exact Or.inl (hO1 p hx)
    · rw [hO2 p (fun k k1 k2 e => hx ⟨k, k1, k2, e⟩)]
      rcases h2 p hp with h | ⟨o, o1, o2, o3⟩
      · exact Or.inl h
      · exact Or.inr ⟨o, (hK o).mpr ⟨o1, fun e => hx ⟨o, o1, e, o3⟩⟩, o2, o3⟩
  · intro o i ho hi
    have := h3 o i ((hK o).mp ho).1 hi
    refine hv _ _ _ this (fun u hu e2 e e' => ?_)
    rcases this with ⟨h, _⟩ | h | ⟨_, u', x, y, z⟩
    · rw [e2] at h; exact absurd h n20
    · rw [e2] at h; exact absurd h n21
    · rw [e] at y
      have := (nI_eq (by have := hu.1; omega) (by have := x.1; omega)).mp y
      subst this
      rw [e', er] at z
      have := hlt o ho
      omega
  · intro k hk
    obtain ⟨x1, x2⟩ := cw_id (B := fun k => σ 54 k = 2 ∧ σ 43 ((σ 55 k).toNatClampNeg) = nI r) (v := fun _ => 0) (f := σ 54) 16 k
    obtain ⟨y1, y2⟩ := cw_id (B := fun k => σ 54 k = 2 ∧ σ 43 ((σ 55 k).toNatClampNeg) = nI r) (v := fun _ => 0) (f := σ 55) 16 k
    by_cases hb : σ 54 k = 2 ∧ σ 43 ((σ 55 k).toNatClampNeg) = nI r
    · rw [x1 hk hb, y1 hk hb]; exact Or.inl ⟨rfl, rfl⟩
    · rw [x2 (fun h => hb h.2), y2 (fun h => hb h.2)]
      refine hv _ _ _ (h4 k hk) (fun u hu e2 e e' => hb ⟨e2, ?_⟩)
      rw [e, cl (by have := hu.1; omega)]; exact e'
  · unfold iQue
    rw [ecn]
    refine ⟨rfl, by have := cnt_le (fun k => ¬ σ 43 ((σ 56 k).toNatClampNeg) = nI r) n; omega, fun k hk => ?_, fun j k hj hk => ?_⟩
    · obtain ⟨s1, s2⟩ := sel_in n k hk
      obtain ⟨q1, q2⟩ := h5.2.2.1 _ (show sel (fun k => ¬ σ 43 ((σ 56 k).toNatClampNeg) = nI r) n k < (σ 31 19).toNatClampNeg by omega)
      exact ⟨(hK _).mpr ⟨q1, s2⟩, q2⟩
    · exact h5.2.2.2 _ _ (sel_mono n j k hj hk) (by have := (sel_in n k hk).1; omega)
  · unfold iReg
    rw [er]
    refine ⟨rfl, by omega, fun q hq' => ?_⟩
    obtain ⟨g1, g2, g3, g4, g5⟩ := h6.2.2 q (by omega)
    refine ⟨g1, g2, g3, fun k hk => ?_, g5⟩
    obtain ⟨f1, f2, f3⟩ := g4 k hk
    exact ⟨f1, f2, by rw [hW2 _ (hro q _ (by omega) (by omega) f3)]; exact f3⟩
  · intro p hp
    by_cases hx : ∃ k, k < m ∧ ro k = p
    · obtain ⟨k, k1, k2⟩ := hx
      exact Or.inl ⟨by rw [← k2]; exact hW1 k k1, by rw [← k2]; exact hT1 k k1⟩
    · have nx : ∀ k, k < m → ro k ≠ p := fun k k1 k2 => hx ⟨k, k1, k2⟩
      rw [hW2 p nx, hT2 p nx, er]
      rcases h7 p hp with h | ⟨b1, q, k, b2, b3, b4, b5⟩
      · exact Or.inl h
      · refine Or.inr ⟨b1, q, k, ?_, b3, b4, b5⟩
        have : q ≠ r := fun e => by
          subst e
          rw [a1, cl (by omega)] at b3
          rw [(a5 k b3).2.2.1, cl (by have := (a5 k b3).2.1; omega)] at b5
          exact nx k b3 b5
        omega
  · refine ⟨fun o ho => ?_, fun o q ho hq' => h8.2 o q ((hK o).mp ho).1 ((hK q).mp hq').1⟩
    obtain ⟨l1, l2, l3⟩ := h8.1 o ((hK o).mp ho).1
    have := hlt o ho
    exact ⟨by rw [hW2 _ (hro _ _ (by omega) (by omega) l1)]; exact l1, l2, l3⟩
  · exact HeapR_P (HeapR_A hsc (fun o => (hK o).symm)) (fun o ho => ⟨rfl, rfl, by show hdI (K' o) _ _ = _; rw [hK2 o ho], fun i _ => ⟨rfl, rfl⟩⟩)
  · intro k hk
    obtain ⟨x1, x2⟩ := cw_id (B := fun k => σ 54 k = 2 ∧ σ 43 ((σ 55 k).toNatClampNeg) = nI r) (v := fun _ => 0) (f := σ 54) 16 k
    obtain ⟨y1, y2⟩ := cw_id (B := fun k => σ 54 k = 2 ∧ σ 43 ((σ 55 k).toNatClampNeg) = nI r) (v := fun _ => 0) (f := σ 55) 16 k
    obtain ⟨u1, u2⟩ := cw_id (B := fun k => σ 54 k = 2 ∧ σ 43 ((σ 55 k).toNatClampNeg) = nI r) (v := fun _ => 0) (f := σ 17) 16 k
    obtain ⟨v1, v2⟩ := cw_id (B := fun k => σ 54 k = 2 ∧ σ 43 ((σ 55 k).toNatClampNeg) = nI r) (v := fun _ => 0) (f := σ 18) 16 k
    by_cases hb : σ 54 k = 2 ∧ σ 43 ((σ 55 k).toNatClampNeg) = nI r
    · rw [x1 hk hb, y1 hk hb, u1 hk hb, v1 hk hb, tr_n n02]; exact ⟨rfl, rfl⟩
    · rw [x2 (fun h => hb h.2), y2 (fun h => hb h.2), u2 (fun h => hb h.2), v2 (fun h => hb h.2)]
      exact c2 k hk
  · unfold cReg
    rw [er]
    exact ⟨rfl, fun q hq' => c3.2 q (by omega)⟩
  · unfold cQue
    rw [ecn]
    refine ⟨rfl, fun k hk => ?_⟩
    obtain ⟨s1, s2⟩ := sel_in n k hk
    exact c4.2 _ (by omega)
  · unfold cWat
    rw [ecw]
    refine ⟨rfl, by have := cnt_le (fun k => ¬ σ 43 (w k) = nI r) wn; omega, fun j => w (sel (fun k => ¬ σ 43 (w k) = nI r) wn j), fun k hk => ?_, fun j k hj hk => ?_, fun o ho hw => ?_⟩
    · obtain ⟨s1, s2⟩ := sel_in wn k hk
      obtain ⟨q1, q2, q3⟩ := w3 _ s1
      exact ⟨(hK _).mpr ⟨q1, s2⟩, q2, q3⟩
    · exact w4 _ _ (sel_mono wn j k hj hk) (sel_in wn k hk).1
    · obtain ⟨k, k1, k2⟩ := w5 o ((hK o).mp ho).1 hw
      obtain ⟨j, j1, j2⟩ := sel_sur (K := fun k => ¬ σ 43 (w k) = nI r) wn k k1 (by rw [k2]; exact ((hK o).mp ho).2)
      exact ⟨j, j1, by dsimp only; rw [j2]; exact k2⟩
