theorem cnt_inj {P Q : Nat → Prop} {m : Nat} (f : Nat → Nat) : ∀ n : Nat, (∀ i, i < n → P i → f i < m ∧ Q (f i)) → (∀ i j, i < j → j < n → P i → P j → f i ≠ f j) → cnt P n ≤ cnt Q m := by
  intro n
  induction n generalizing Q with
  | zero => intro _ _; exact Nat.zero_le _
  | succ n ih =>
    intro h1 h2
    by_cases hp : P n
    · rw [cnt_y P hp]
      have a := ih (Q := fun j => Q j ∧ j ≠ f n) (fun i hi hpi => ⟨(h1 i (by omega) hpi).1, (h1 i (by omega) hpi).2, h2 i n hi (by omega) hpi hp⟩) (fun i j hij hj => h2 i j hij (by omega))
      have b := cnt_lt (P := fun j => Q j ∧ j ≠ f n) (Q := Q) (n := m) (k := f n) (fun j _ h => h.1) (h1 n (by omega) hp).1 (h1 n (by omega) hp).2 (fun h => h.2 rfl)
      omega
    · rw [cnt_n P hp]
      exact ih (fun i hi hpi => h1 i (by omega) hpi) (fun i j hij hj => h2 i j hij (by omega))
theorem cnt_add (P : Nat → Prop) (a b : Nat) : cnt P (a + b) = cnt P a + cnt (fun i => P (a + i)) b := by
  induction b with
  | zero => rfl
  | succ b ih =>
    show cnt P ((a + b) + 1) = _
    by_cases h : P (a + b)
    · rw [cnt_y P h, cnt_y (fun i => P (a + i)) h, ih]; omega
    · rw [cnt_n P h, cnt_n (fun i => P (a + i)) h, ih]
theorem cnt_iff {P Q : Nat → Prop} {n : Nat} (h : ∀ k, k < n → (P k ↔ Q k)) : cnt P n = cnt Q n :=
  Nat.le_antisymm (cnt_mono n (fun k hk => (h k hk).mp)) (cnt_mono n (fun k hk => (h k hk).mpr))
theorem cnt_below (m n : Nat) : cnt (fun i => i < m) n = min m n := by
  induction n with
  | zero => show 0 = _; omega
  | succ n ih =>
    by_cases h : n < m
    · rw [cnt_y (fun i => i < m) h, ih]; omega
    · rw [cnt_n (fun i => i < m) h, ih]; omega
theorem cnt_none {P : Nat → Prop} {n : Nat} (h : ∀ k, k < n → ¬ P k) : cnt P n = 0 := by
  induction n with
  | zero => rfl
  | succ n ih => rw [cnt_n P (h n (by omega)), ih (fun k hk => h k (by omega))]
theorem e_objPage {σ : xS} {p : Nat} (hp : p < 40) (Q : Int32 → xS → Prop) (h : Q (nI (cnt (fun i => σ 28 (p * 16 + i) = 3) 16)) σ) : p_Hea_objectsOnPage (nI p) σ Q := by
  unfold p_Hea_objectsOnPage
  simp (disch := omega) only [forall_eq, true_and, and_true, and_self, not_true_eq_false, not_false_eq_true, false_imp_iff, true_imp_iff, imp_self, implies_true, ne_eq, reduceIte, cl, cl0, cl1, cl2, vpn, vp0, le8, le16, le40, le640, le1400, le6400, lt8, lt16, le15, le2, nI_leI, nI_ltI, nI_eq, nI_1, nI_add, n_le0, n_lt0, n_0le, n_eq0, n_eq1, n_eq2, n_m1, n_m1r, Nat.reduceEqDiff, Nat.reduceAdd, Int32.add_zero, nI_pred, div16, mul15, mul40, mul16, mul640, mulr16, xu_s, xu_c, xu_k, xu_cc, rows_xu, xf_s, xf_c, rows_xf, xul_c, rows_xul, xul_L, lgc]
  refine lpF (fun f i => p_Hea_objectsOnPage_L10 Q f (nI (p * 16)) (nI (cnt (fun i => σ 28 (p * 16 + i) = 3) i)) (nI i) σ) 16 (fun f i hi hk => ?_) (fun f => ?_)
  · show b_Hea_objectsOnPage_L10 (p_Hea_objectsOnPage_L10 Q f) Q _ _ _ _
    unfold b_Hea_objectsOnPage_L10 p_Hea_isObject p_Val_sortOf_19
    have l1 : ¬ 16 ≤ i := by omega
    by_cases e : σ 28 (p * 16 + i) = 3
    · rw [cnt_y (fun i => σ 28 (p * 16 + i) = 3) e] at hk
      simp (disch := omega) only [forall_eq, true_and, and_true, and_self, not_true_eq_false, not_false_eq_true, false_imp_iff, true_imp_iff, imp_self, implies_true, ne_eq, reduceIte, cl, cl0, cl1, cl2, vpn, vp0, le8, le16, le40, le640, le1400, le6400, lt8, lt16, le15, le2, nI_leI, nI_ltI, nI_eq, nI_1, nI_add, n_le0, n_lt0, n_0le, n_eq0, n_eq1, n_eq2, n_m1, n_m1r, Nat.reduceEqDiff, Nat.reduceAdd, Int32.add_zero, nI_pred, div16, mul15, mul40, mul16, mul640, mulr16, xu_s, xu_c, xu_k, xu_cc, rows_xu, xf_s, xf_c, rows_xf, xul_c, rows_xul, xul_L, lgc, l1, e, n10]
      exact hk
    · rw [cnt_n (fun i => σ 28 (p * 16 + i) = 3) e] at hk
      simp (disch := omega) only [forall_eq, true_and, and_true, and_self, not_true_eq_false, not_false_eq_true, false_imp_iff, true_imp_iff, imp_self, implies_true, ne_eq, reduceIte, cl, cl0, cl1, cl2, vpn, vp0, le8, le16, le40, le640, le1400, le6400, lt8, lt16, le15, le2, nI_leI, nI_ltI, nI_eq, nI_1, nI_add, n_le0, n_lt0, n_0le, n_eq0, n_eq1, n_eq2, n_m1, n_m1r, Nat.reduceEqDiff, Nat.reduceAdd, Int32.add_zero, nI_pred, div16, mul15, mul40, mul16, mul640, mulr16, xu_s, xu_c, xu_k, xu_cc, rows_xu, xf_s, xf_c, rows_xf, xul_c, rows_xul, xul_L, lgc, l1, e]
      exact hk
  · show b_Hea_objectsOnPage_L10 (p_Hea_objectsOnPage_L10 Q f) Q _ _ _ _
    unfold b_Hea_objectsOnPage_L10
    simp (disch := omega) only [forall_eq, true_and, and_true, and_self, not_true_eq_false, not_false_eq_true, false_imp_iff, true_imp_iff, imp_self, implies_true, ne_eq, reduceIte, cl, cl0, cl1, cl2, vpn, vp0, le8, le16, le40, le640, le1400, le6400, lt8, lt16, le15, le2, nI_leI, nI_ltI, nI_eq, nI_1, nI_add, n_le0, n_lt0, n_0le, n_eq0, n_eq1, n_eq2, n_m1, n_m1r, Nat.reduceEqDiff, Nat.reduceAdd, Int32.add_zero, nI_pred, div16, mul15, mul40, mul16, mul640, mulr16, xu_s, xu_c, xu_k, xu_cc, rows_xu, xf_s, xf_c, rows_xf, xul_c, rows_xul, xul_L, lgc, Nat.le_refl]
    exact h
theorem e_plaPage {σ : xS} {p : Nat} (hp : p < 40) (Q : Int32 → xS → Prop) (h : Q (nI (cnt (fun i => ¬ σ 28 (p * 16 + i) = 4) 16)) σ) : p_Hea_placesTakenOnPage (nI p) σ Q := by
  unfold p_Hea_placesTakenOnPage
  simp (disch := omega) only [forall_eq, true_and, and_true, and_self, not_true_eq_false, not_false_eq_true, false_imp_iff, true_imp_iff, imp_self, implies_true, ne_eq, reduceIte, cl, cl0, cl1, cl2, vpn, vp0, le8, le16, le40, le640, le1400, le6400, lt8, lt16, le15, le2, nI_leI, nI_ltI, nI_eq, nI_1, nI_add, n_le0, n_lt0, n_0le, n_eq0, n_eq1, n_eq2, n_m1, n_m1r, Nat.reduceEqDiff, Nat.reduceAdd, Int32.add_zero, nI_pred, div16, mul15, mul40, mul16, mul640, mulr16, xu_s, xu_c, xu_k, xu_cc, rows_xu, xf_s, xf_c, rows_xf, xul_c, rows_xul, xul_L, lgc]
  refine lpF (fun f i => p_Hea_placesTakenOnPage_L10 Q f (nI (p * 16)) (nI (cnt (fun i => ¬ σ 28 (p * 16 + i) = 4) i)) (nI i) σ) 16 (fun f i hi hk => ?_) (fun f => ?_)
  · show b_Hea_placesTakenOnPage_L10 (p_Hea_placesTakenOnPage_L10 Q f) Q _ _ _ _
    unfold b_Hea_placesTakenOnPage_L10 p_Val_sortOf_19
    have l1 : ¬ 16 ≤ i := by omega
    by_cases e : σ 28 (p * 16 + i) = 4
    · rw [cnt_n (fun i => ¬ σ 28 (p * 16 + i) = 4) (fun x => x e)] at hk
      simp (disch := omega) only [forall_eq, true_and, and_true, and_self, not_true_eq_false, not_false_eq_true, false_imp_iff, true_imp_iff, imp_self, implies_true, ne_eq, reduceIte, cl, cl0, cl1, cl2, vpn, vp0, le8, le16, le40, le640, le1400, le6400, lt8, lt16, le15, le2, nI_leI, nI_ltI, nI_eq, nI_1, nI_add, n_le0, n_lt0, n_0le, n_eq0, n_eq1, n_eq2, n_m1, n_m1r, Nat.reduceEqDiff, Nat.reduceAdd, Int32.add_zero, nI_pred, div16, mul15, mul40, mul16, mul640, mulr16, xu_s, xu_c, xu_k, xu_cc, rows_xu, xf_s, xf_c, rows_xf, xul_c, rows_xul, xul_L, lgc, l1, e]
      exact hk
    · rw [cnt_y (fun i => ¬ σ 28 (p * 16 + i) = 4) e] at hk
      simp (disch := omega) only [forall_eq, true_and, and_true, and_self, not_true_eq_false, not_false_eq_true, false_imp_iff, true_imp_iff, imp_self, implies_true, ne_eq, reduceIte, cl, cl0, cl1, cl2, vpn, vp0, le8, le16, le40, le640, le1400, le6400, lt8, lt16, le15, le2, nI_leI, nI_ltI, nI_eq, nI_1, nI_add, n_le0, n_lt0, n_0le, n_eq0, n_eq1, n_eq2, n_m1, n_m1r, Nat.reduceEqDiff, Nat.reduceAdd, Int32.add_zero, nI_pred, div16, mul15, mul40, mul16, mul640, mulr16, xu_s, xu_c, xu_k, xu_cc, rows_xu, xf_s, xf_c, rows_xf, xul_c, rows_xul, xul_L, lgc, l1, e]
      exact hk
  · show b_Hea_placesTakenOnPage_L10 (p_Hea_placesTakenOnPage_L10 Q f) Q _ _ _ _
    unfold b_Hea_placesTakenOnPage_L10
    simp (disch := omega) only [forall_eq, true_and, and_true, and_self, not_true_eq_false, not_false_eq_true, false_imp_iff, true_imp_iff, imp_self, implies_true, ne_eq, reduceIte, cl, cl0, cl1, cl2, vpn, vp0, le8, le16, le40, le640, le1400, le6400, lt8, lt16, le15, le2, nI_leI, nI_ltI, nI_eq, nI_1, nI_add, n_le0, n_lt0, n_0le, n_eq0, n_eq1, n_eq2, n_m1, n_m1r, Nat.reduceEqDiff, Nat.reduceAdd, Int32.add_zero, nI_pred, div16, mul15, mul40, mul16, mul640, mulr16, xu_s, xu_c, xu_k, xu_cc, rows_xu, xf_s, xf_c, rows_xf, xul_c, rows_xul, xul_L, lgc, Nat.le_refl]
    exact h
theorem e_freePages {σ : xS} (Q : Int32 → xS → Prop) (h : Q (nI (cnt (fun p => σ 20 p = -1) 40)) σ) : p_Reg_freePages σ Q := by
  refine lpF (fun f i => p_Reg_freePages_L4 Q f (nI (cnt (fun p => σ 20 p = -1) i)) (nI i) σ) 40 (fun f i hi hk => ?_) (fun f => ?_)
  · show b_Reg_freePages_L4 (p_Reg_freePages_L4 Q f) Q _ _ _
    unfold b_Reg_freePages_L4
    have l1 : ¬ 40 ≤ i := by omega
    by_cases e : σ 20 i = -1
    · rw [cnt_y (fun p => σ 20 p = -1) e] at hk
      simp (disch := omega) only [forall_eq, true_and, and_true, and_self, not_true_eq_false, not_false_eq_true, false_imp_iff, true_imp_iff, imp_self, implies_true, ne_eq, reduceIte, cl, cl0, cl1, cl2, vpn, vp0, le8, le16, le40, le640, le1400, le6400, lt8, lt16, le15, le2, nI_leI, nI_ltI, nI_eq, nI_1, nI_add, n_le0, n_lt0, n_0le, n_eq0, n_eq1, n_eq2, n_m1, n_m1r, Nat.reduceEqDiff, Nat.reduceAdd, Int32.add_zero, nI_pred, div16, mul15, mul40, mul16, mul640, mulr16, xu_s, xu_c, xu_k, xu_cc, rows_xu, xf_s, xf_c, rows_xf, xul_c, rows_xul, xul_L, lgc, l1, e]
      exact hk
    · rw [cnt_n (fun p => σ 20 p = -1) e] at hk
      simp (disch := omega) only [forall_eq, true_and, and_true, and_self, not_true_eq_false, not_false_eq_true, false_imp_iff, true_imp_iff, imp_self, implies_true, ne_eq, reduceIte, cl, cl0, cl1, cl2, vpn, vp0, le8, le16, le40, le640, le1400, le6400, lt8, lt16, le15, le2, nI_leI, nI_ltI, nI_eq, nI_1, nI_add, n_le0, n_lt0, n_0le, n_eq0, n_eq1, n_eq2, n_m1, n_m1r, Nat.reduceEqDiff, Nat.reduceAdd, Int32.add_zero, nI_pred, div16, mul15, mul40, mul16, mul640, mulr16, xu_s, xu_c, xu_k, xu_cc, rows_xu, xf_s, xf_c, rows_xf, xul_c, rows_xul, xul_L, lgc, l1, e]
      exact hk
  · show b_Reg_freePages_L4 (p_Reg_freePages_L4 Q f) Q _ _ _
    unfold b_Reg_freePages_L4
    simp (disch := omega) only [forall_eq, true_and, and_true, and_self, not_true_eq_false, not_false_eq_true, false_imp_iff, true_imp_iff, imp_self, implies_true, ne_eq, reduceIte, cl, cl0, cl1, cl2, vpn, vp0, le8, le16, le40, le640, le1400, le6400, lt8, lt16, le15, le2, nI_leI, nI_ltI, nI_eq, nI_1, nI_add, n_le0, n_lt0, n_0le, n_eq0, n_eq1, n_eq2, n_m1, n_m1r, Nat.reduceEqDiff, Nat.reduceAdd, Int32.add_zero, nI_pred, div16, mul15, mul40, mul16, mul640, mulr16, xu_s, xu_c, xu_k, xu_cc, rows_xu, xf_s, xf_c, rows_xf, xul_c, rows_xul, xul_L, lgc, Nat.le_refl]
    exact h
theorem e_objects {σ : xS} (Q : Int32 → xS → Prop) (h : Q (nI (cnt (fun p => σ 28 p = 3) 640)) σ) : p_Mem_objects σ Q := by
  refine lpF (fun f i => p_Mem_objects_L4 Q f (nI (cnt (fun p => σ 28 p = 3) (i * 16))) (nI i) σ) 40 (fun f i hi hk => ?_) (fun f => ?_)
  · show b_Mem_objects_L4 (p_Mem_objects_L4 Q f) Q _ _ _
    unfold b_Mem_objects_L4
    have l1 : ¬ 40 ≤ i := by omega
    simp (disch := omega) only [forall_eq, true_and, and_true, and_self, not_true_eq_false, not_false_eq_true, false_imp_iff, true_imp_iff, imp_self, implies_true, ne_eq, reduceIte, cl, cl0, cl1, cl2, vpn, vp0, le8, le16, le40, le640, le1400, le6400, lt8, lt16, le15, le2, nI_leI, nI_ltI, nI_eq, nI_1, nI_add, n_le0, n_lt0, n_0le, n_eq0, n_eq1, n_eq2, n_m1, n_m1r, Nat.reduceEqDiff, Nat.reduceAdd, Int32.add_zero, nI_pred, div16, mul15, mul40, mul16, mul640, mulr16, xu_s, xu_c, xu_k, xu_cc, rows_xu, xf_s, xf_c, rows_xf, xul_c, rows_xul, xul_L, lgc, l1]
    refine e_objPage hi _ ?_
    simp (disch := omega) only [forall_eq, true_and, and_true, and_self, not_true_eq_false, not_false_eq_true, false_imp_iff, true_imp_iff, imp_self, implies_true, ne_eq, reduceIte, cl, cl0, cl1, cl2, vpn, vp0, le8, le16, le40, le640, le1400, le6400, lt8, lt16, le15, le2, nI_leI, nI_ltI, nI_eq, nI_1, nI_add, n_le0, n_lt0, n_0le, n_eq0, n_eq1, n_eq2, n_m1, n_m1r, Nat.reduceEqDiff, Nat.reduceAdd, Int32.add_zero, nI_pred, div16, mul15, mul40, mul16, mul640, mulr16, xu_s, xu_c, xu_k, xu_cc, rows_xu, xf_s, xf_c, rows_xf, xul_c, rows_xul, xul_L, lgc]
    rw [show (i + 1) * 16 = i * 16 + 16 by omega, cnt_add] at hk
    exact hk
  · show b_Mem_objects_L4 (p_Mem_objects_L4 Q f) Q _ _ _
    unfold b_Mem_objects_L4
    simp (disch := omega) only [forall_eq, true_and, and_true, and_self, not_true_eq_false, not_false_eq_true, false_imp_iff, true_imp_iff, imp_self, implies_true, ne_eq, reduceIte, cl, cl0, cl1, cl2, vpn, vp0, le8, le16, le40, le640, le1400, le6400, lt8, lt16, le15, le2, nI_leI, nI_ltI, nI_eq, nI_1, nI_add, n_le0, n_lt0, n_0le, n_eq0, n_eq1, n_eq2, n_m1, n_m1r, Nat.reduceEqDiff, Nat.reduceAdd, Int32.add_zero, nI_pred, div16, mul15, mul40, mul16, mul640, mulr16, xu_s, xu_c, xu_k, xu_cc, rows_xu, xf_s, xf_c, rows_xf, xul_c, rows_xul, xul_L, lgc, Nat.le_refl]
    exact h
def rpos (ro : Nat → Nat) (j : Nat) : Nat := ro (j / 16) * 16 + j % 16
theorem rpos_blk (ro : Nat → Nat) (k i : Nat) (hi : i < 16) : rpos ro (k * 16 + i) = ro k * 16 + i := by
  unfold rpos
  rw [show (k * 16 + i) / 16 = k by omega, show (k * 16 + i) % 16 = i by omega]
theorem e_objIn {σ : xS} {r m : Nat} {ro : Nat → Nat} (hr : r < 8) (hm : σ 22 r = nI m) (hm4 : m ≤ 40) (hro : ∀ k, k < m → σ (32 + r) k = nI (ro k) ∧ ro k < 40) (Q : Int32 → xS → Prop) (h : Q (nI (cnt (fun j => σ 28 (rpos ro j) = 3) (m * 16))) σ) : p_Mem_objectsIn (nI r) σ Q := by
  refine lpF (fun f i => p_Mem_objectsIn_L4 Q f (nI r) (nI (cnt (fun j => σ 28 (rpos ro j) = 3) (i * 16))) (nI i) σ) m (fun f i hi hk => ?_) (fun f => ?_)
  · show b_Mem_objectsIn_L4 (p_Mem_objectsIn_L4 Q f) Q _ _ _ _
    unfold b_Mem_objectsIn_L4 p_Reg_rowLength p_Reg_pageInRow
    have l1 : ¬ m ≤ i := by omega
    simp (disch := omega) only [forall_eq, true_and, and_true, and_self, not_true_eq_false, not_false_eq_true, false_imp_iff, true_imp_iff, imp_self, implies_true, ne_eq, reduceIte, cl, cl0, cl1, cl2, vpn, vp0, le8, le16, le40, le640, le1400, le6400, lt8, lt16, le15, le2, nI_leI, nI_ltI, nI_eq, nI_1, nI_add, n_le0, n_lt0, n_0le, n_eq0, n_eq1, n_eq2, n_m1, n_m1r, Nat.reduceEqDiff, Nat.reduceAdd, Int32.add_zero, nI_pred, div16, mul15, mul40, mul16, mul640, mulr16, xu_s, xu_c, xu_k, xu_cc, rows_xu, xf_s, xf_c, rows_xf, xul_c, rows_xul, xul_L, lgc, l1, hm, (hro i hi).1]
    refine e_objPage (hro i hi).2 _ ?_
    simp (disch := omega) only [forall_eq, true_and, and_true, and_self, not_true_eq_false, not_false_eq_true, false_imp_iff, true_imp_iff, imp_self, implies_true, ne_eq, reduceIte, cl, cl0, cl1, cl2, vpn, vp0, le8, le16, le40, le640, le1400, le6400, lt8, lt16, le15, le2, nI_leI, nI_ltI, nI_eq, nI_1, nI_add, n_le0, n_lt0, n_0le, n_eq0, n_eq1, n_eq2, n_m1, n_m1r, Nat.reduceEqDiff, Nat.reduceAdd, Int32.add_zero, nI_pred, div16, mul15, mul40, mul16, mul640, mulr16, xu_s, xu_c, xu_k, xu_cc, rows_xu, xf_s, xf_c, rows_xf, xul_c, rows_xul, xul_L, lgc]
    rw [show (i + 1) * 16 = i * 16 + 16 by omega, cnt_add, cnt_iff (n := 16) (P := fun k => σ 28 (rpos ro (i * 16 + k)) = 3) (Q := fun k => σ 28 (ro i * 16 + k) = 3) (fun k hk => by rw [rpos_blk ro i k hk])] at hk
    exact hk
  · show b_Mem_objectsIn_L4 (p_Mem_objectsIn_L4 Q f) Q _ _ _ _
    unfold b_Mem_objectsIn_L4 p_Reg_rowLength
    simp (disch := omega) only [forall_eq, true_and, and_true, and_self, not_true_eq_false, not_false_eq_true, false_imp_iff, true_imp_iff, imp_self, implies_true, ne_eq, reduceIte, cl, cl0, cl1, cl2, vpn, vp0, le8, le16, le40, le640, le1400, le6400, lt8, lt16, le15, le2, nI_leI, nI_ltI, nI_eq, nI_1, nI_add, n_le0, n_lt0, n_0le, n_eq0, n_eq1, n_eq2, n_m1, n_m1r, Nat.reduceEqDiff, Nat.reduceAdd, Int32.add_zero, nI_pred, div16, mul15, mul40, mul16, mul640, mulr16, xu_s, xu_c, xu_k, xu_cc, rows_xu, xf_s, xf_c, rows_xf, xul_c, rows_xul, xul_L, lgc, Nat.le_refl, hm]
    exact h
theorem e_plaIn {σ : xS} {r m : Nat} {ro : Nat → Nat} (hr : r < 8) (hm : σ 22 r = nI m) (hm4 : m ≤ 40) (hro : ∀ k, k < m → σ (32 + r) k = nI (ro k) ∧ ro k < 40) (Q : Int32 → xS → Prop) (h : Q (nI (cnt (fun j => ¬ σ 28 (rpos ro j) = 4) (m * 16))) σ) : p_Mem_placesTakenIn (nI r) σ Q := by
  refine lpF (fun f i => p_Mem_placesTakenIn_L4 Q f (nI r) (nI (cnt (fun j => ¬ σ 28 (rpos ro j) = 4) (i * 16))) (nI i) σ) m (fun f i hi hk => ?_) (fun f => ?_)
  · show b_Mem_placesTakenIn_L4 (p_Mem_placesTakenIn_L4 Q f) Q _ _ _ _
    unfold b_Mem_placesTakenIn_L4 p_Reg_rowLength p_Reg_pageInRow
    have l1 : ¬ m ≤ i := by omega
    simp (disch := omega) only [forall_eq, true_and, and_true, and_self, not_true_eq_false, not_false_eq_true, false_imp_iff, true_imp_iff, imp_self, implies_true, ne_eq, reduceIte, cl, cl0, cl1, cl2, vpn, vp0, le8, le16, le40, le640, le1400, le6400, lt8, lt16, le15, le2, nI_leI, nI_ltI, nI_eq, nI_1, nI_add, n_le0, n_lt0, n_0le, n_eq0, n_eq1, n_eq2, n_m1, n_m1r, Nat.reduceEqDiff, Nat.reduceAdd, Int32.add_zero, nI_pred, div16, mul15, mul40, mul16, mul640, mulr16, xu_s, xu_c, xu_k, xu_cc, rows_xu, xf_s, xf_c, rows_xf, xul_c, rows_xul, xul_L, lgc, l1, hm, (hro i hi).1]
    refine e_plaPage (hro i hi).2 _ ?_
    simp (disch := omega) only [forall_eq, true_and, and_true, and_self, not_true_eq_false, not_false_eq_true, false_imp_iff, true_imp_iff, imp_self, implies_true, ne_eq, reduceIte, cl, cl0, cl1, cl2, vpn, vp0, le8, le16, le40, le640, le1400, le6400, lt8, lt16, le15, le2, nI_leI, nI_ltI, nI_eq, nI_1, nI_add, n_le0, n_lt0, n_0le, n_eq0, n_eq1, n_eq2, n_m1, n_m1r, Nat.reduceEqDiff, Nat.reduceAdd, Int32.add_zero, nI_pred, div16, mul15, mul40, mul16, mul640, mulr16, xu_s, xu_c, xu_k, xu_cc, rows_xu, xf_s, xf_c, rows_xf, xul_c, rows_xul, xul_L, lgc]
    rw [show (i + 1) * 16 = i * 16 + 16 by omega, cnt_add, cnt_iff (n := 16) (P := fun k => ¬ σ 28 (rpos ro (i * 16 + k)) = 4) (Q := fun k => ¬ σ 28 (ro i * 16 + k) = 4) (fun k hk => by rw [rpos_blk ro i k hk])] at hk
    exact hk
  · show b_Mem_placesTakenIn_L4 (p_Mem_placesTakenIn_L4 Q f) Q _ _ _ _
    unfold b_Mem_placesTakenIn_L4 p_Reg_rowLength
    simp (disch := omega) only [forall_eq, true_and, and_true, and_self, not_true_eq_false, not_false_eq_true, false_imp_iff, true_imp_iff, imp_self, implies_true, ne_eq, reduceIte, cl, cl0, cl1, cl2, vpn, vp0, le8, le16, le40, le640, le1400, le6400, lt8, lt16, le15, le2, nI_leI, nI_ltI, nI_eq, nI_1, nI_add, n_le0, n_lt0, n_0le, n_eq0, n_eq1, n_eq2, n_m1, n_m1r, Nat.reduceEqDiff, Nat.reduceAdd, Int32.add_zero, nI_pred, div16, mul15, mul40, mul16, mul640, mulr16, xu_s, xu_c, xu_k, xu_cc, rows_xu, xf_s, xf_c, rows_xf, xul_c, rows_xul, xul_L, lgc, Nat.le_refl, hm]
    exact h
theorem e_mCount (x : Int32) (σ : xS) (Q : Int32 → xS → Prop) (h : ∀ y : Int32, (x = 0 → y = σ 31 13) → (x = 1 → y = nI (cnt (fun p => σ 50 p = 0) 40)) → (x = 2 → y = nI (cnt (fun o => ¬ σ 40 o = -1) 640)) → (x = 3 → y = σ 31 21) → (x = 4 → y = σ 31 22) → (x = 5 → y = σ 31 23) → (x = 6 → y = σ 31 24) → (x = 7 → y = σ 31 25) → (x = 8 → y = nI (cnt (fun o => ¬ σ 40 o = -1 ∧ ¬ σ 45 o ≤ 0) 640)) → (x = 9 → y = σ 31 19) →
    (¬ x = 0 → ¬ x = 1 → ¬ x = 2 → ¬ x = 3 → ¬ x = 4 → ¬ x = 5 → ¬ x = 6 → ¬ x = 7 → ¬ x = 8 → ¬ x = 9 → y = -1) → Q y (xu σ 31 0 0)) : p_Mod_count x σ Q := by
  unfold p_Mod_count
  refine lpF (fun f i => p_Mod_count_L9 Q f x (nI (cnt (fun p => σ 50 p = 0) i)) (nI i) (xu σ 31 0 0)) 40 (fun f i hi hk => ?_) (fun f => ?_)
  · show b_Mod_count_L9 (p_Mod_count_L9 Q f) Q _ _ _ _
    unfold b_Mod_count_L9
    have l1 : ¬ 40 ≤ i := by omega
    by_cases e : σ 50 i = 0
    · rw [cnt_y (fun p => σ 50 p = 0) e] at hk
      simp (disch := omega) only [forall_eq, true_and, and_true, and_self, not_true_eq_false, not_false_eq_true, false_imp_iff, true_imp_iff, imp_self, implies_true, ne_eq, reduceIte, cl, cl0, cl1, cl2, vpn, vp0, le8, le16, le40, le640, le1400, le6400, lt8, lt16, le15, le2, nI_leI, nI_ltI, nI_eq, nI_1, nI_add, n_le0, n_lt0, n_0le, n_eq0, n_eq1, n_eq2, n_m1, n_m1r, Nat.reduceEqDiff, Nat.reduceAdd, Int32.add_zero, nI_pred, div16, mul15, mul40, mul16, mul640, mulr16, xu_s, xu_c, xu_k, xu_cc, rows_xu, xf_s, xf_c, rows_xf, xul_c, rows_xul, xul_L, lgc, l1, e]
      exact hk
    · rw [cnt_n (fun p => σ 50 p = 0) e] at hk
      simp (disch := omega) only [forall_eq, true_and, and_true, and_self, not_true_eq_false, not_false_eq_true, false_imp_iff, true_imp_iff, imp_self, implies_true, ne_eq, reduceIte, cl, cl0, cl1, cl2, vpn, vp0, le8, le16, le40, le640, le1400, le6400, lt8, lt16, le15, le2, nI_leI, nI_ltI, nI_eq, nI_1, nI_add, n_le0, n_lt0, n_0le, n_eq0, n_eq1, n_eq2, n_m1, n_m1r, Nat.reduceEqDiff, Nat.reduceAdd, Int32.add_zero, nI_pred, div16, mul15, mul40, mul16, mul640, mulr16, xu_s, xu_c, xu_k, xu_cc, rows_xu, xf_s, xf_c, rows_xf, xul_c, rows_xul, xul_L, lgc, l1, e]
      exact hk
  · show b_Mod_count_L9 (p_Mod_count_L9 Q f) Q _ _ _ _
    unfold b_Mod_count_L9
    simp (disch := omega) only [forall_eq, true_and, and_true, and_self, not_true_eq_false, not_false_eq_true, false_imp_iff, true_imp_iff, imp_self, implies_true, ne_eq, reduceIte, cl, cl0, cl1, cl2, vpn, vp0, le8, le16, le40, le640, le1400, le6400, lt8, lt16, le15, le2, nI_leI, nI_ltI, nI_eq, nI_1, nI_add, n_le0, n_lt0, n_0le, n_eq0, n_eq1, n_eq2, n_m1, n_m1r, Nat.reduceEqDiff, Nat.reduceAdd, Int32.add_zero, nI_pred, div16, mul15, mul40, mul16, mul640, mulr16, xu_s, xu_c, xu_k, xu_cc, rows_xu, xf_s, xf_c, rows_xf, xul_c, rows_xul, xul_L, lgc, Nat.le_refl]
    refine lpF (fun f i => p_Mod_count_L46 Q f x (nI (cnt (fun p => σ 50 p = 0) 40)) (nI (cnt (fun o => ¬ σ 40 o = -1) i)) (nI (cnt (fun o => ¬ σ 40 o = -1 ∧ ¬ σ 45 o ≤ 0) i)) (nI i) (xu σ 31 0 0)) 640 (fun f i hi hk => ?_) (fun f => ?_)
    · show b_Mod_count_L46 (p_Mod_count_L46 Q f) Q _ _ _ _ _ _
      unfold b_Mod_count_L46 p_Mod_count_J71
      have l1 : ¬ 640 ≤ i := by omega
      by_cases e : σ 40 i = -1
      · rw [cnt_n (fun o => ¬ σ 40 o = -1) (fun x => x e), cnt_n (fun o => ¬ σ 40 o = -1 ∧ ¬ σ 45 o ≤ 0) (fun x => x.1 e)] at hk
        simp (disch := omega) only [forall_eq, true_and, and_true, and_self, not_true_eq_false, not_false_eq_true, false_imp_iff, true_imp_iff, imp_self, implies_true, ne_eq, reduceIte, cl, cl0, cl1, cl2, vpn, vp0, le8, le16, le40, le640, le1400, le6400, lt8, lt16, le15, le2, nI_leI, nI_ltI, nI_eq, nI_1, nI_add, n_le0, n_lt0, n_0le, n_eq0, n_eq1, n_eq2, n_m1, n_m1r, Nat.reduceEqDiff, Nat.reduceAdd, Int32.add_zero, nI_pred, div16, mul15, mul40, mul16, mul640, mulr16, xu_s, xu_c, xu_k, xu_cc, rows_xu, xf_s, xf_c, rows_xf, xul_c, rows_xul, xul_L, lgc, l1, e]
        exact hk
      · rw [cnt_y (fun o => ¬ σ 40 o = -1) e] at hk
        by_cases e' : σ 45 i ≤ 0
        · rw [cnt_n (fun o => ¬ σ 40 o = -1 ∧ ¬ σ 45 o ≤ 0) (fun x => x.2 e')] at hk
          simp (disch := omega) only [forall_eq, true_and, and_true, and_self, not_true_eq_false, not_false_eq_true, false_imp_iff, true_imp_iff, imp_self, implies_true, ne_eq, reduceIte, cl, cl0, cl1, cl2, vpn, vp0, le8, le16, le40, le640, le1400, le6400, lt8, lt16, le15, le2, nI_leI, nI_ltI, nI_eq, nI_1, nI_add, n_le0, n_lt0, n_0le, n_eq0, n_eq1, n_eq2, n_m1, n_m1r, Nat.reduceEqDiff, Nat.reduceAdd, Int32.add_zero, nI_pred, div16, mul15, mul40, mul16, mul640, mulr16, xu_s, xu_c, xu_k, xu_cc, rows_xu, xf_s, xf_c, rows_xf, xul_c, rows_xul, xul_L, lgc, l1, e, e']
          exact hk
        · rw [cnt_y (fun o => ¬ σ 40 o = -1 ∧ ¬ σ 45 o ≤ 0) ⟨e, e'⟩] at hk
          simp (disch := omega) only [forall_eq, true_and, and_true, and_self, not_true_eq_false, not_false_eq_true, false_imp_iff, true_imp_iff, imp_self, implies_true, ne_eq, reduceIte, cl, cl0, cl1, cl2, vpn, vp0, le8, le16, le40, le640, le1400, le6400, lt8, lt16, le15, le2, nI_leI, nI_ltI, nI_eq, nI_1, nI_add, n_le0, n_lt0, n_0le, n_eq0, n_eq1, n_eq2, n_m1, n_m1r, Nat.reduceEqDiff, Nat.reduceAdd, Int32.add_zero, nI_pred, div16, mul15, mul40, mul16, mul640, mulr16, xu_s, xu_c, xu_k, xu_cc, rows_xu, xf_s, xf_c, rows_xf, xul_c, rows_xul, xul_L, lgc, l1, e, e']
          exact hk
    · show b_Mod_count_L46 (p_Mod_count_L46 Q f) Q _ _ _ _ _ _
      unfold b_Mod_count_L46
      simp (disch := omega) only [forall_eq, true_and, and_true, and_self, not_true_eq_false, not_false_eq_true, false_imp_iff, true_imp_iff, imp_self, implies_true, ne_eq, reduceIte, cl, cl0, cl1, cl2, vpn, vp0, le8, le16, le40, le640, le1400, le6400, lt8, lt16, le15, le2, nI_leI, nI_ltI, nI_eq, nI_1, nI_add, n_le0, n_lt0, n_0le, n_eq0, n_eq1, n_eq2, n_m1, n_m1r, Nat.reduceEqDiff, Nat.reduceAdd, Int32.add_zero, nI_pred, div16, mul15, mul40, mul16, mul640, mulr16, xu_s, xu_c, xu_k, xu_cc, rows_xu, xf_s, xf_c, rows_xf, xul_c, rows_xul, xul_L, lgc, Nat.le_refl]
      refine ⟨fun e => h _ ?_ ?_ ?_ ?_ ?_ ?_ ?_ ?_ ?_ ?_ ?_, fun e => h _ ?_ ?_ ?_ ?_ ?_ ?_ ?_ ?_ ?_ ?_ ?_, fun e => h _ ?_ ?_ ?_ ?_ ?_ ?_ ?_ ?_ ?_ ?_ ?_, fun e => h _ ?_ ?_ ?_ ?_ ?_ ?_ ?_ ?_ ?_ ?_ ?_, fun e => h _ ?_ ?_ ?_ ?_ ?_ ?_ ?_ ?_ ?_ ?_ ?_, fun e => h _ ?_ ?_ ?_ ?_ ?_ ?_ ?_ ?_ ?_ ?_ ?_, fun e => h _ ?_ ?_ ?_ ?_ ?_ ?_ ?_ ?_ ?_ ?_ ?_, fun e => h _ ?_ ?_ ?_ ?_ ?_ ?_ ?_ ?_ ?_ ?_ ?_, fun e => h _ ?_ ?_ ?_ ?_ ?_ ?_ ?_ ?_ ?_ ?_ ?_, fun e => h _ ?_ ?_ ?_ ?_ ?_ ?_ ?_ ?_ ?_ ?_ ?_, fun e0 e1 e2 e3 e4 e5 e6 e7 e8 e9 => h _ (fun x => absurd x e0) (fun x => absurd x e1) (fun x => absurd x e2) (fun x => absurd x e3) (fun x => absurd x e4) (fun x => absurd x e5) (fun x => absurd x e6) (fun x => absurd x e7) (fun x => absurd x e8) (fun x => absurd x e9) (fun _ _ _ _ _ _ _ _ _ _ => rfl)⟩
      all_goals (subst e; simp +decide)
