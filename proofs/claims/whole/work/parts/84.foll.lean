noncomputable def flw (s np c : Nat → Int32) (n : Nat) : Nat → Int32 := cw (fun k => s k = 2) id (fun k => np ((c k).toNatClampNeg)) c n
theorem flw_y {s np c : Nat → Int32} {n k : Nat} (hk : k < n) (h : s k = 2) : flw s np c n k = np ((c k).toNatClampNeg) := (cw_id (B := fun k => s k = 2) (v := fun k => np ((c k).toNatClampNeg)) (f := c) n k).1 hk h
theorem flw_n {s np c : Nat → Int32} {n k : Nat} (h : ¬ s k = 2) : flw s np c n k = c k := (cw_id (B := fun k => s k = 2) (v := fun k => np ((c k).toNatClampNeg)) (f := c) n k).2 (fun x => h x.2)
noncomputable def flq (np c : Nat → Int32) (n : Nat) : Nat → Int32 := cw (fun _ => True) id (fun k => np ((c k).toNatClampNeg)) c n
theorem flq_y {np c : Nat → Int32} {n k : Nat} (hk : k < n) : flq np c n k = np ((c k).toNatClampNeg) := (cw_id (B := fun _ => True) (v := fun k => np ((c k).toNatClampNeg)) (f := c) n k).1 hk trivial
theorem e_follow5 {τ : xS} (h5 : ∀ k, k < 16 → τ 17 k = 2 → ∃ v, v < 640 ∧ τ 18 k = nI v) (Q : xS → Prop) (h : Q (va_up τ 18 (flw (τ 17) (τ 10) (τ 18) 16))) : p_Val_follow_5_10 τ Q := by
  unfold p_Val_follow_5_10
  have key := lpF (fun f i => p_Val_follow_5_10_L2 Q f (nI i) (va_up τ 18 (flw (τ 17) (τ 10) (τ 18) i))) 16 (by
    intro f i hi hk
    show b_Val_follow_5_10_L2 (p_Val_follow_5_10_L2 Q f) Q (nI i) _
    unfold b_Val_follow_5_10_L2
    have l1 : ¬ 16 ≤ i := by omega
    have e0 : flw (τ 17) (τ 10) (τ 18) i i = τ 18 i := (cw_id (B := fun k => τ 17 k = 2) (v := fun k => τ 10 ((τ 18 k).toNatClampNeg)) (f := τ 18) i i).2 (by omega)
    by_cases e2 : τ 17 i = 2
    · obtain ⟨v, v1, v2⟩ := h5 i hi e2
      have y := cw_y (B := fun k => τ 17 k = 2) id (fun k => τ 10 ((τ 18 k).toNatClampNeg)) (τ 18) (k := i) e2
      unfold flw at hk e0 ⊢
      dsimp only [id] at y
      rw [← y, v2, cl (by omega)] at hk
      simp (disch := omega) only [forall_eq, true_and, and_true, and_self, not_true_eq_false, not_false_eq_true, false_imp_iff, true_imp_iff, imp_self, implies_true, ne_eq, reduceIte, cl, cl0, cl1, cl2, vpn, vp0, le8, le16, le40, le640, le1400, le6400, lt8, lt16, le15, le2, nI_leI, nI_ltI, nI_eq, nI_1, nI_add, n_le0, n_lt0, n_0le, n_eq0, n_eq1, n_eq2, n_m1, n_m1r, Nat.reduceEqDiff, Nat.reduceAdd, Int32.add_zero, nI_pred, div16, mul15, mul40, mul16, mul640, mulr16, xu_s, xu_c, xu_k, xu_cc, rows_xu, xf_s, xf_c, rows_xf, xul_c, rows_xul, xul_L, lgc, l1, e2, e0, v2, xu_xf]
      exact hk
    · unfold flw at hk e0 ⊢
      rw [cw_n (B := fun k => τ 17 k = 2) _ _ _ e2] at hk
      simp (disch := omega) only [forall_eq, true_and, and_true, and_self, not_true_eq_false, not_false_eq_true, false_imp_iff, true_imp_iff, imp_self, implies_true, ne_eq, reduceIte, cl, cl0, cl1, cl2, vpn, vp0, le8, le16, le40, le640, le1400, le6400, lt8, lt16, le15, le2, nI_leI, nI_ltI, nI_eq, nI_1, nI_add, n_le0, n_lt0, n_0le, n_eq0, n_eq1, n_eq2, n_m1, n_m1r, Nat.reduceEqDiff, Nat.reduceAdd, Int32.add_zero, nI_pred, div16, mul15, mul40, mul16, mul640, mulr16, xu_s, xu_c, xu_k, xu_cc, rows_xu, xf_s, xf_c, rows_xf, xul_c, rows_xul, xul_L, lgc, l1, e2]
      exact hk) (by
    intro f
    show b_Val_follow_5_10_L2 (p_Val_follow_5_10_L2 Q f) Q (nI 16) _
    unfold b_Val_follow_5_10_L2
    simp (disch := omega) only [forall_eq, true_and, and_true, and_self, not_true_eq_false, not_false_eq_true, false_imp_iff, true_imp_iff, imp_self, implies_true, ne_eq, reduceIte, cl, cl0, cl1, cl2, vpn, vp0, le8, le16, le40, le640, le1400, le6400, lt8, lt16, le15, le2, nI_leI, nI_ltI, nI_eq, nI_1, nI_add, n_le0, n_lt0, n_0le, n_eq0, n_eq1, n_eq2, n_m1, n_m1r, Nat.reduceEqDiff, Nat.reduceAdd, Int32.add_zero, nI_pred, div16, mul15, mul40, mul16, mul640, mulr16, xu_s, xu_c, xu_k, xu_cc, rows_xu, xf_s, xf_c, rows_xf, xul_c, rows_xul, xul_L, lgc, Nat.le_refl]
    exact h)
  unfold flw at key
  rw [cw_0, xf_0] at key
  exact key
theorem e_follow19 {τ : xS} (h5 : ∀ k, k < 640 → τ 28 k = 2 → ∃ v, v < 640 ∧ τ 29 k = nI v) (Q : xS → Prop) (h : Q (va_up τ 29 (flw (τ 28) (τ 10) (τ 29) 640))) : p_Val_follow_19_10 τ Q := by
  unfold p_Val_follow_19_10
  have key := lpF (fun f i => p_Val_follow_19_10_L2 Q f (nI i) (va_up τ 29 (flw (τ 28) (τ 10) (τ 29) i))) 640 (by
    intro f i hi hk
    show b_Val_follow_19_10_L2 (p_Val_follow_19_10_L2 Q f) Q (nI i) _
    unfold b_Val_follow_19_10_L2
    have l1 : ¬ 640 ≤ i := by omega
    have e0 : flw (τ 28) (τ 10) (τ 29) i i = τ 29 i := (cw_id (B := fun k => τ 28 k = 2) (v := fun k => τ 10 ((τ 29 k).toNatClampNeg)) (f := τ 29) i i).2 (by omega)
    by_cases e2 : τ 28 i = 2
    · obtain ⟨v, v1, v2⟩ := h5 i hi e2
      have y := cw_y (B := fun k => τ 28 k = 2) id (fun k => τ 10 ((τ 29 k).toNatClampNeg)) (τ 29) (k := i) e2
      unfold flw at hk e0 ⊢
      dsimp only [id] at y
      rw [← y, v2, cl (by omega)] at hk
      simp (disch := omega) only [forall_eq, true_and, and_true, and_self, not_true_eq_false, not_false_eq_true, false_imp_iff, true_imp_iff, imp_self, implies_true, ne_eq, reduceIte, cl, cl0, cl1, cl2, vpn, vp0, le8, le16, le40, le640, le1400, le6400, lt8, lt16, le15, le2, nI_leI, nI_ltI, nI_eq, nI_1, nI_add, n_le0, n_lt0, n_0le, n_eq0, n_eq1, n_eq2, n_m1, n_m1r, Nat.reduceEqDiff, Nat.reduceAdd, Int32.add_zero, nI_pred, div16, mul15, mul40, mul16, mul640, mulr16, xu_s, xu_c, xu_k, xu_cc, rows_xu, xf_s, xf_c, rows_xf, xul_c, rows_xul, xul_L, lgc, l1, e2, e0, v2, xu_xf]
      exact hk
    · unfold flw at hk e0 ⊢
      rw [cw_n (B := fun k => τ 28 k = 2) _ _ _ e2] at hk
      simp (disch := omega) only [forall_eq, true_and, and_true, and_self, not_true_eq_false, not_false_eq_true, false_imp_iff, true_imp_iff, imp_self, implies_true, ne_eq, reduceIte, cl, cl0, cl1, cl2, vpn, vp0, le8, le16, le40, le640, le1400, le6400, lt8, lt16, le15, le2, nI_leI, nI_ltI, nI_eq, nI_1, nI_add, n_le0, n_lt0, n_0le, n_eq0, n_eq1, n_eq2, n_m1, n_m1r, Nat.reduceEqDiff, Nat.reduceAdd, Int32.add_zero, nI_pred, div16, mul15, mul40, mul16, mul640, mulr16, xu_s, xu_c, xu_k, xu_cc, rows_xu, xf_s, xf_c, rows_xf, xul_c, rows_xul, xul_L, lgc, l1, e2]
      exact hk) (by
    intro f
    show b_Val_follow_19_10_L2 (p_Val_follow_19_10_L2 Q f) Q (nI 640) _
    unfold b_Val_follow_19_10_L2
    simp (disch := omega) only [forall_eq, true_and, and_true, and_self, not_true_eq_false, not_false_eq_true, false_imp_iff, true_imp_iff, imp_self, implies_true, ne_eq, reduceIte, cl, cl0, cl1, cl2, vpn, vp0, le8, le16, le40, le640, le1400, le6400, lt8, lt16, le15, le2, nI_leI, nI_ltI, nI_eq, nI_1, nI_add, n_le0, n_lt0, n_0le, n_eq0, n_eq1, n_eq2, n_m1, n_m1r, Nat.reduceEqDiff, Nat.reduceAdd, Int32.add_zero, nI_pred, div16, mul15, mul40, mul16, mul640, mulr16, xu_s, xu_c, xu_k, xu_cc, rows_xu, xf_s, xf_c, rows_xf, xul_c, rows_xul, xul_L, lgc, Nat.le_refl]
    exact h)
  unfold flw at key
  rw [cw_0, xf_0] at key
  exact key
theorem e_follow8 {τ : xS} {n : Nat} (hn : τ 8 1 = nI n) (h6 : n ≤ 640) (hq : ∀ k, k < n → ∃ v, v < 640 ∧ τ 24 k = nI v) (Q : xS → Prop) (h : Q (va_up τ 24 (flq (τ 10) (τ 24) n))) : p_Lin_follow_8_10 τ Q := by
  unfold p_Lin_follow_8_10
  have key := lpF (fun f i => p_Lin_follow_8_10_L2 Q f (nI i) (va_up τ 24 (flq (τ 10) (τ 24) i))) n (by
    intro f i hi hk
    show b_Lin_follow_8_10_L2 (p_Lin_follow_8_10_L2 Q f) Q (nI i) _
    unfold b_Lin_follow_8_10_L2
    have l1 : ¬ n ≤ i := by omega
    have e0 : flq (τ 10) (τ 24) i i = τ 24 i := (cw_id (B := fun _ => True) (v := fun k => τ 10 ((τ 24 k).toNatClampNeg)) (f := τ 24) i i).2 (by omega)
    obtain ⟨v, v1, v2⟩ := hq i hi
    have y := cw_y (B := fun _ => True) id (fun k => τ 10 ((τ 24 k).toNatClampNeg)) (τ 24) (k := i) trivial
    unfold flq at hk e0 ⊢
    dsimp only [id] at y
    rw [← y, v2, cl (by omega)] at hk
    simp (disch := omega) only [forall_eq, true_and, and_true, and_self, not_true_eq_false, not_false_eq_true, false_imp_iff, true_imp_iff, imp_self, implies_true, ne_eq, reduceIte, cl, cl0, cl1, cl2, vpn, vp0, le8, le16, le40, le640, le1400, le6400, lt8, lt16, le15, le2, nI_leI, nI_ltI, nI_eq, nI_1, nI_add, n_le0, n_lt0, n_0le, n_eq0, n_eq1, n_eq2, n_m1, n_m1r, Nat.reduceEqDiff, Nat.reduceAdd, Int32.add_zero, nI_pred, div16, mul15, mul40, mul16, mul640, mulr16, xu_s, xu_c, xu_k, xu_cc, rows_xu, xf_s, xf_c, rows_xf, xul_c, rows_xul, xul_L, lgc, hn, l1, e0, v2, xu_xf]
    exact hk) (by
    intro f
    show b_Lin_follow_8_10_L2 (p_Lin_follow_8_10_L2 Q f) Q (nI n) _
    unfold b_Lin_follow_8_10_L2
    simp (disch := omega) only [forall_eq, true_and, and_true, and_self, not_true_eq_false, not_false_eq_true, false_imp_iff, true_imp_iff, imp_self, implies_true, ne_eq, reduceIte, cl, cl0, cl1, cl2, vpn, vp0, le8, le16, le40, le640, le1400, le6400, lt8, lt16, le15, le2, nI_leI, nI_ltI, nI_eq, nI_1, nI_add, n_le0, n_lt0, n_0le, n_eq0, n_eq1, n_eq2, n_m1, n_m1r, Nat.reduceEqDiff, Nat.reduceAdd, Int32.add_zero, nI_pred, div16, mul15, mul40, mul16, mul640, mulr16, xu_s, xu_c, xu_k, xu_cc, rows_xu, xf_s, xf_c, rows_xf, xul_c, rows_xul, xul_L, lgc, hn, Nat.le_refl]
    exact h)
  unfold flq at key
  rw [cw_0, xf_0] at key
  exact key
theorem e_follow9 {τ : xS} {n : Nat} (hn : τ 9 1 = nI n) (h6 : n ≤ 640) (hq : ∀ k, k < n → ∃ v, v < 640 ∧ τ 25 k = nI v) (Q : xS → Prop) (h : Q (va_up τ 25 (flq (τ 10) (τ 25) n))) : p_Lin_follow_9_10 τ Q := by
  unfold p_Lin_follow_9_10
  have key := lpF (fun f i => p_Lin_follow_9_10_L2 Q f (nI i) (va_up τ 25 (flq (τ 10) (τ 25) i))) n (by
    intro f i hi hk
    show b_Lin_follow_9_10_L2 (p_Lin_follow_9_10_L2 Q f) Q (nI i) _
    unfold b_Lin_follow_9_10_L2
    have l1 : ¬ n ≤ i := by omega
    have e0 : flq (τ 10) (τ 25) i i = τ 25 i := (cw_id (B := fun _ => True) (v := fun k => τ 10 ((τ 25 k).toNatClampNeg)) (f := τ 25) i i).2 (by omega)
    obtain ⟨v, v1, v2⟩ := hq i hi
    have y := cw_y (B := fun _ => True) id (fun k => τ 10 ((τ 25 k).toNatClampNeg)) (τ 25) (k := i) trivial
    unfold flq at hk e0 ⊢
    dsimp only [id] at y
    rw [← y, v2, cl (by omega)] at hk
    simp (disch := omega) only [forall_eq, true_and, and_true, and_self, not_true_eq_false, not_false_eq_true, false_imp_iff, true_imp_iff, imp_self, implies_true, ne_eq, reduceIte, cl, cl0, cl1, cl2, vpn, vp0, le8, le16, le40, le640, le1400, le6400, lt8, lt16, le15, le2, nI_leI, nI_ltI, nI_eq, nI_1, nI_add, n_le0, n_lt0, n_0le, n_eq0, n_eq1, n_eq2, n_m1, n_m1r, Nat.reduceEqDiff, Nat.reduceAdd, Int32.add_zero, nI_pred, div16, mul15, mul40, mul16, mul640, mulr16, xu_s, xu_c, xu_k, xu_cc, rows_xu, xf_s, xf_c, rows_xf, xul_c, rows_xul, xul_L, lgc, hn, l1, e0, v2, xu_xf]
    exact hk) (by
    intro f
    show b_Lin_follow_9_10_L2 (p_Lin_follow_9_10_L2 Q f) Q (nI n) _
    unfold b_Lin_follow_9_10_L2
    simp (disch := omega) only [forall_eq, true_and, and_true, and_self, not_true_eq_false, not_false_eq_true, false_imp_iff, true_imp_iff, imp_self, implies_true, ne_eq, reduceIte, cl, cl0, cl1, cl2, vpn, vp0, le8, le16, le40, le640, le1400, le6400, lt8, lt16, le15, le2, nI_leI, nI_ltI, nI_eq, nI_1, nI_add, n_le0, n_lt0, n_0le, n_eq0, n_eq1, n_eq2, n_m1, n_m1r, Nat.reduceEqDiff, Nat.reduceAdd, Int32.add_zero, nI_pred, div16, mul15, mul40, mul16, mul640, mulr16, xu_s, xu_c, xu_k, xu_cc, rows_xu, xf_s, xf_c, rows_xf, xul_c, rows_xul, xul_L, lgc, hn, Nat.le_refl]
    exact h)
  unfold flq at key
  rw [cw_0, xf_0] at key
  exact key
theorem e_followAll {τ : xS} {n wn : Nat} (h5 : ∀ k, k < 16 → τ 17 k = 2 → ∃ v, v < 640 ∧ τ 18 k = nI v) (h19 : ∀ k, k < 640 → τ 28 k = 2 → ∃ v, v < 640 ∧ τ 29 k = nI v) (hn : τ 8 1 = nI n) (h6 : n ≤ 640) (hq : ∀ k, k < n → ∃ v, v < 640 ∧ τ 24 k = nI v) (hw : τ 9 1 = nI wn) (w6 : wn ≤ 640) (hwq : ∀ k, k < wn → ∃ v, v < 640 ∧ τ 25 k = nI v) (Q : xS → Prop)
    (h : Q (va_up (va_up (va_up (va_up τ 18 (flw (τ 17) (τ 10) (τ 18) 16)) 29 (flw (τ 28) (τ 10) (τ 29) 640)) 24 (flq (τ 10) (τ 24) n)) 25 (flq (τ 10) (τ 25) wn))) : p_Mem_followAllMoves τ Q := by
  unfold p_Mem_followAllMoves
  refine e_follow5 h5 _ ?_
  refine e_follow19 (by simp (disch := omega) only [forall_eq, true_and, and_true, and_self, not_true_eq_false, not_false_eq_true, false_imp_iff, true_imp_iff, imp_self, implies_true, ne_eq, reduceIte, cl, cl0, cl1, cl2, vpn, vp0, le8, le16, le40, le640, le1400, le6400, lt8, lt16, le15, le2, nI_leI, nI_ltI, nI_eq, nI_1, nI_add, n_le0, n_lt0, n_0le, n_eq0, n_eq1, n_eq2, n_m1, n_m1r, Nat.reduceEqDiff, Nat.reduceAdd, Int32.add_zero, nI_pred, div16, mul15, mul40, mul16, mul640, mulr16, xu_s, xu_c, xu_k, xu_cc, rows_xu, xf_s, xf_c, rows_xf, xul_c, rows_xul, xul_L, lgc]; exact h19) _ ?_
  simp (disch := omega) only [forall_eq, true_and, and_true, and_self, not_true_eq_false, not_false_eq_true, false_imp_iff, true_imp_iff, imp_self, implies_true, ne_eq, reduceIte, cl, cl0, cl1, cl2, vpn, vp0, le8, le16, le40, le640, le1400, le6400, lt8, lt16, le15, le2, nI_leI, nI_ltI, nI_eq, nI_1, nI_add, n_le0, n_lt0, n_0le, n_eq0, n_eq1, n_eq2, n_m1, n_m1r, Nat.reduceEqDiff, Nat.reduceAdd, Int32.add_zero, nI_pred, div16, mul15, mul40, mul16, mul640, mulr16, xu_s, xu_c, xu_k, xu_cc, rows_xu, xf_s, xf_c, rows_xf, xul_c, rows_xul, xul_L, lgc]
  refine e_follow8 (n := n) (by simp (disch := omega) only [forall_eq, true_and, and_true, and_self, not_true_eq_false, not_false_eq_true, false_imp_iff, true_imp_iff, imp_self, implies_true, ne_eq, reduceIte, cl, cl0, cl1, cl2, vpn, vp0, le8, le16, le40, le640, le1400, le6400, lt8, lt16, le15, le2, nI_leI, nI_ltI, nI_eq, nI_1, nI_add, n_le0, n_lt0, n_0le, n_eq0, n_eq1, n_eq2, n_m1, n_m1r, Nat.reduceEqDiff, Nat.reduceAdd, Int32.add_zero, nI_pred, div16, mul15, mul40, mul16, mul640, mulr16, xu_s, xu_c, xu_k, xu_cc, rows_xu, xf_s, xf_c, rows_xf, xul_c, rows_xul, xul_L, lgc]; exact hn) h6 (by simp (disch := omega) only [forall_eq, true_and, and_true, and_self, not_true_eq_false, not_false_eq_true, false_imp_iff, true_imp_iff, imp_self, implies_true, ne_eq, reduceIte, cl, cl0, cl1, cl2, vpn, vp0, le8, le16, le40, le640, le1400, le6400, lt8, lt16, le15, le2, nI_leI, nI_ltI, nI_eq, nI_1, nI_add, n_le0, n_lt0, n_0le, n_eq0, n_eq1, n_eq2, n_m1, n_m1r, Nat.reduceEqDiff, Nat.reduceAdd, Int32.add_zero, nI_pred, div16, mul15, mul40, mul16, mul640, mulr16, xu_s, xu_c, xu_k, xu_cc, rows_xu, xf_s, xf_c, rows_xf, xul_c, rows_xul, xul_L, lgc]; exact hq) _ ?_
  simp (disch := omega) only [forall_eq, true_and, and_true, and_self, not_true_eq_false, not_false_eq_true, false_imp_iff, true_imp_iff, imp_self, implies_true, ne_eq, reduceIte, cl, cl0, cl1, cl2, vpn, vp0, le8, le16, le40, le640, le1400, le6400, lt8, lt16, le15, le2, nI_leI, nI_ltI, nI_eq, nI_1, nI_add, n_le0, n_lt0, n_0le, n_eq0, n_eq1, n_eq2, n_m1, n_m1r, Nat.reduceEqDiff, Nat.reduceAdd, Int32.add_zero, nI_pred, div16, mul15, mul40, mul16, mul640, mulr16, xu_s, xu_c, xu_k, xu_cc, rows_xu, xf_s, xf_c, rows_xf, xul_c, rows_xul, xul_L, lgc]
  refine e_follow9 (n := wn) (by simp (disch := omega) only [forall_eq, true_and, and_true, and_self, not_true_eq_false, not_false_eq_true, false_imp_iff, true_imp_iff, imp_self, implies_true, ne_eq, reduceIte, cl, cl0, cl1, cl2, vpn, vp0, le8, le16, le40, le640, le1400, le6400, lt8, lt16, le15, le2, nI_leI, nI_ltI, nI_eq, nI_1, nI_add, n_le0, n_lt0, n_0le, n_eq0, n_eq1, n_eq2, n_m1, n_m1r, Nat.reduceEqDiff, Nat.reduceAdd, Int32.add_zero, nI_pred, div16, mul15, mul40, mul16, mul640, mulr16, xu_s, xu_c, xu_k, xu_cc, rows_xu, xf_s, xf_c, rows_xf, xul_c, rows_xul, xul_L, lgc]; exact hw) w6 (by simp (disch := omega) only [forall_eq, true_and, and_true, and_self, not_true_eq_false, not_false_eq_true, false_imp_iff, true_imp_iff, imp_self, implies_true, ne_eq, reduceIte, cl, cl0, cl1, cl2, vpn, vp0, le8, le16, le40, le640, le1400, le6400, lt8, lt16, le15, le2, nI_leI, nI_ltI, nI_eq, nI_1, nI_add, n_le0, n_lt0, n_0le, n_eq0, n_eq1, n_eq2, n_m1, n_m1r, Nat.reduceEqDiff, Nat.reduceAdd, Int32.add_zero, nI_pred, div16, mul15, mul40, mul16, mul640, mulr16, xu_s, xu_c, xu_k, xu_cc, rows_xu, xf_s, xf_c, rows_xf, xul_c, rows_xul, xul_L, lgc]; exact hwq) _ ?_
  simp (disch := omega) only [forall_eq, true_and, and_true, and_self, not_true_eq_false, not_false_eq_true, false_imp_iff, true_imp_iff, imp_self, implies_true, ne_eq, reduceIte, cl, cl0, cl1, cl2, vpn, vp0, le8, le16, le40, le640, le1400, le6400, lt8, lt16, le15, le2, nI_leI, nI_ltI, nI_eq, nI_1, nI_add, n_le0, n_lt0, n_0le, n_eq0, n_eq1, n_eq2, n_m1, n_m1r, Nat.reduceEqDiff, Nat.reduceAdd, Int32.add_zero, nI_pred, div16, mul15, mul40, mul16, mul640, mulr16, xu_s, xu_c, xu_k, xu_cc, rows_xu, xf_s, xf_c, rows_xf, xul_c, rows_xul, xul_L, lgc]
  exact h
theorem HeapR_fl {s c np : Nat → Int32} {A : Nat → Prop} {pl mn : Nat → Nat} {hd : Nat → Int32} {fs fc fc' : Nat → Nat → Int32} (h : HeapR s c A pl mn hd fs fc) (hb : ∀ o, A o → pl o + mn o < 640) (hf : ∀ o i, A o → i < mn o → (fs o i = 2 → fc' o i = np ((fc o i).toNatClampNeg)) ∧ (¬ fs o i = 2 → fc' o i = fc o i)) : HeapR s (flw s np c 640) A pl mn hd fs fc' := by
  refine ⟨fun o ho => ?_, fun o i ho hi => ?_, fun p hp hfr => ?_⟩
  · have := h.1 o ho
    rw [flw_n (by rw [this.1]; decide)]; exact this
  · have := h.2.1 o i ho hi
    by_cases e : fs o i = 2
    · rw [flw_y (by have := hb o ho; omega) (by rw [this.1]; exact e), (hf o i ho hi).1 e, this.2]; exact ⟨this.1, rfl⟩
    · rw [flw_n (by rw [this.1]; exact e), (hf o i ho hi).2 e]; exact this
  · have := h.2.2 p hp hfr
    rw [flw_n (by rw [this.1]; decide)]; exact this
theorem e_startMoves {σ : xS} (Q : xS → Prop) (h : ∀ np, (∀ p, p < 640 → np p = nI p) → Q (va_up σ 10 np)) : p_Mem_startMoves σ Q := by
  unfold p_Mem_startMoves
  have key := lpF (fun f i => p_Mem_startMoves_L2 Q f (nI i) (va_up σ 10 (cw (fun _ => True) id (fun k => nI k) (σ 10) i))) 640 (by
    intro f i hi hk
    show b_Mem_startMoves_L2 (p_Mem_startMoves_L2 Q f) Q (nI i) _
    unfold b_Mem_startMoves_L2
    have l1 : ¬ 640 ≤ i := by omega
    have y := cw_y (B := fun _ => True) id (fun k => nI k) (σ 10) (k := i) trivial
    dsimp only [id] at y
    rw [← y] at hk
    simp (disch := omega) only [forall_eq, true_and, and_true, and_self, not_true_eq_false, not_false_eq_true, false_imp_iff, true_imp_iff, imp_self, implies_true, ne_eq, reduceIte, cl, cl0, cl1, cl2, vpn, vp0, le8, le16, le40, le640, le1400, le6400, lt8, lt16, le15, le2, nI_leI, nI_ltI, nI_eq, nI_1, nI_add, n_le0, n_lt0, n_0le, n_eq0, n_eq1, n_eq2, n_m1, n_m1r, Nat.reduceEqDiff, Nat.reduceAdd, Int32.add_zero, nI_pred, div16, mul15, mul40, mul16, mul640, mulr16, xu_s, xu_c, xu_k, xu_cc, rows_xu, xf_s, xf_c, rows_xf, xul_c, rows_xul, xul_L, lgc, l1, xu_xf]
    exact hk) (by
    intro f
    show b_Mem_startMoves_L2 (p_Mem_startMoves_L2 Q f) Q (nI 640) _
    unfold b_Mem_startMoves_L2
    simp (disch := omega) only [forall_eq, true_and, and_true, and_self, not_true_eq_false, not_false_eq_true, false_imp_iff, true_imp_iff, imp_self, implies_true, ne_eq, reduceIte, cl, cl0, cl1, cl2, vpn, vp0, le8, le16, le40, le640, le1400, le6400, lt8, lt16, le15, le2, nI_leI, nI_ltI, nI_eq, nI_1, nI_add, n_le0, n_lt0, n_0le, n_eq0, n_eq1, n_eq2, n_m1, n_m1r, Nat.reduceEqDiff, Nat.reduceAdd, Int32.add_zero, nI_pred, div16, mul15, mul40, mul16, mul640, mulr16, xu_s, xu_c, xu_k, xu_cc, rows_xu, xf_s, xf_c, rows_xf, xul_c, rows_xul, xul_L, lgc, Nat.le_refl]
    exact h _ (fun p hp => (cw_id (B := fun _ => True) (v := fun k => nI k) (f := σ 10) 640 p).1 hp trivial))
  rw [cw_0, xf_0] at key
  exact key
theorem e_mRem2 {σ : xS} {r : Nat} {g pl : Nat → Nat} (hr : r < 8) (hP : ∀ o, iA (σ 40) o → σ 43 o = nI (g o) ∧ g o < 8 ∧ σ 44 o = nI (pl o) ∧ pl o < 640) (Q : Int32 → xS → Prop)
    (h : ∃ f, p_Mod_collectFrom_L217 Q f (nI (cnt (fun o => iA (σ 40) o ∧ r ≤ g o ∧ σ 48 o = 0) 640)) (nI r) (va_up (va_up σ 40 (cw (fun o => iA (σ 40) o ∧ r ≤ g o ∧ σ 48 o = 0) id (fun _ => -1) (σ 40) 640)) 49 (cw (fun o => iA (σ 40) o ∧ r ≤ g o ∧ σ 48 o = 0) pl (fun _ => -1) (σ 49) 640))) : ∃ f, p_Mod_collectFrom_L176 Q f (nI r) 0 0 σ := by
  refine lpF (fun f i => p_Mod_collectFrom_L176 Q f (nI r) (nI (cnt (fun o => iA (σ 40) o ∧ r ≤ g o ∧ σ 48 o = 0) i)) (nI i) (va_up (va_up σ 40 (cw (fun o => iA (σ 40) o ∧ r ≤ g o ∧ σ 48 o = 0) id (fun _ => -1) (σ 40) i)) 49 (cw (fun o => iA (σ 40) o ∧ r ≤ g o ∧ σ 48 o = 0) pl (fun _ => -1) (σ 49) i))) 640 (fun f i hi hk => ?_) (fun f => ?_) |> fun key => by rw [cw_0, cw_0, up2_0] at key; exact key
  · show b_Mod_collectFrom_L176 (p_Mod_collectFrom_L176 Q f) Q (nI r) _ (nI i) _
    unfold b_Mod_collectFrom_L176 p_Mod_isYoung p_Mod_remove
    have l1 : ¬ 640 ≤ i := by omega
    have e0 := (cw_id (B := fun o => iA (σ 40) o ∧ r ≤ g o ∧ σ 48 o = 0) (v := fun _ => -1) (f := σ 40) i i).2 (by omega)
    by_cases hb : iA (σ 40) i ∧ r ≤ g i ∧ σ 48 i = 0
    · obtain ⟨p1, p2, p3, p4⟩ := hP i hb.1
      have e3 := cw_y (B := fun o => iA (σ 40) o ∧ r ≤ g o ∧ σ 48 o = 0) id (fun _ => -1) (σ 40) (k := i) hb
      have e4 := cw_y (B := fun o => iA (σ 40) o ∧ r ≤ g o ∧ σ 48 o = 0) pl (fun _ => -1) (σ 49) (k := i) hb
      dsimp only [id] at e3 e4
      rw [← e3, ← e4, cnt_y (fun o => iA (σ 40) o ∧ r ≤ g o ∧ σ 48 o = 0) hb] at hk
      have l2 : ¬ g i < r := by omega
      simp (disch := omega) only [forall_eq, true_and, and_true, and_self, not_true_eq_false, not_false_eq_true, false_imp_iff, true_imp_iff, imp_self, implies_true, ne_eq, reduceIte, cl, cl0, cl1, cl2, vpn, vp0, le8, le16, le40, le640, le1400, le6400, lt8, lt16, le15, le2, nI_leI, nI_ltI, nI_eq, nI_1, nI_add, n_le0, n_lt0, n_0le, n_eq0, n_eq1, n_eq2, n_m1, n_m1r, Nat.reduceEqDiff, Nat.reduceAdd, Int32.add_zero, nI_pred, div16, mul15, mul40, mul16, mul640, mulr16, xu_s, xu_c, xu_k, xu_cc, rows_xu, xf_s, xf_c, rows_xf, xul_c, rows_xul, xul_L, lgc, l1, e0, hb.1.2, p1, l2, n10, hb.2.2, p3, up2_s, xu_xf]
      exact hk
    · rw [cw_n (B := fun o => iA (σ 40) o ∧ r ≤ g o ∧ σ 48 o = 0) _ _ _ hb, cw_n (B := fun o => iA (σ 40) o ∧ r ≤ g o ∧ σ 48 o = 0) _ _ _ hb, cnt_n (fun o => iA (σ 40) o ∧ r ≤ g o ∧ σ 48 o = 0) hb] at hk
      by_cases e : σ 40 i = -1
      · simp (disch := omega) only [forall_eq, true_and, and_true, and_self, not_true_eq_false, not_false_eq_true, false_imp_iff, true_imp_iff, imp_self, implies_true, ne_eq, reduceIte, cl, cl0, cl1, cl2, vpn, vp0, le8, le16, le40, le640, le1400, le6400, lt8, lt16, le15, le2, nI_leI, nI_ltI, nI_eq, nI_1, nI_add, n_le0, n_lt0, n_0le, n_eq0, n_eq1, n_eq2, n_m1, n_m1r, Nat.reduceEqDiff, Nat.reduceAdd, Int32.add_zero, nI_pred, div16, mul15, mul40, mul16, mul640, mulr16, xu_s, xu_c, xu_k, xu_cc, rows_xu, xf_s, xf_c, rows_xf, xul_c, rows_xul, xul_L, lgc, l1, e0, e]
        exact hk
      · obtain ⟨p1, p2, p3, p4⟩ := hP i ⟨hi, e⟩
        by_cases l2 : g i < r
        · simp (disch := omega) only [forall_eq, true_and, and_true, and_self, not_true_eq_false, not_false_eq_true, false_imp_iff, true_imp_iff, imp_self, implies_true, ne_eq, reduceIte, cl, cl0, cl1, cl2, vpn, vp0, le8, le16, le40, le640, le1400, le6400, lt8, lt16, le15, le2, nI_leI, nI_ltI, nI_eq, nI_1, nI_add, n_le0, n_lt0, n_0le, n_eq0, n_eq1, n_eq2, n_m1, n_m1r, Nat.reduceEqDiff, Nat.reduceAdd, Int32.add_zero, nI_pred, div16, mul15, mul40, mul16, mul640, mulr16, xu_s, xu_c, xu_k, xu_cc, rows_xu, xf_s, xf_c, rows_xf, xul_c, rows_xul, xul_L, lgc, l1, e0, e, p1, l2]
          exact hk
        · have hl : ¬ σ 48 i = 0 := fun x => hb ⟨⟨hi, e⟩, by omega, x⟩
          simp (disch := omega) only [forall_eq, true_and, and_true, and_self, not_true_eq_false, not_false_eq_true, false_imp_iff, true_imp_iff, imp_self, implies_true, ne_eq, reduceIte, cl, cl0, cl1, cl2, vpn, vp0, le8, le16, le40, le640, le1400, le6400, lt8, lt16, le15, le2, nI_leI, nI_ltI, nI_eq, nI_1, nI_add, n_le0, n_lt0, n_0le, n_eq0, n_eq1, n_eq2, n_m1, n_m1r, Nat.reduceEqDiff, Nat.reduceAdd, Int32.add_zero, nI_pred, div16, mul15, mul40, mul16, mul640, mulr16, xu_s, xu_c, xu_k, xu_cc, rows_xu, xf_s, xf_c, rows_xf, xul_c, rows_xul, xul_L, lgc, l1, e0, e, p1, l2, n10, hl]
          exact hk
  · show b_Mod_collectFrom_L176 (p_Mod_collectFrom_L176 Q f) Q (nI r) _ (nI 640) _
    unfold b_Mod_collectFrom_L176
    simp (disch := omega) only [forall_eq, true_and, and_true, and_self, not_true_eq_false, not_false_eq_true, false_imp_iff, true_imp_iff, imp_self, implies_true, ne_eq, reduceIte, cl, cl0, cl1, cl2, vpn, vp0, le8, le16, le40, le640, le1400, le6400, lt8, lt16, le15, le2, nI_leI, nI_ltI, nI_eq, nI_1, nI_add, n_le0, n_lt0, n_0le, n_eq0, n_eq1, n_eq2, n_m1, n_m1r, Nat.reduceEqDiff, Nat.reduceAdd, Int32.add_zero, nI_pred, div16, mul15, mul40, mul16, mul640, mulr16, xu_s, xu_c, xu_k, xu_cc, rows_xu, xf_s, xf_c, rows_xf, xul_c, rows_xul, xul_L, lgc, Nat.le_refl]
    exact h
