theorem e_erase {σ : xS} {s c : Nat → Int32} {p m : Nat} (hp : p + m < 640) (hm : c p &&& 15 = nI m) (Q : xS → Prop) (h : Q (hp2 σ (rng s p (m + 1) 4) (rng c p (m + 1) 0))) : p_Hea_erase (nI p) (hp2 σ s c) Q := by
  unfold p_Hea_erase p_Hea_sizeOf p_Hea_fieldsOf
  simp (disch := omega) only [forall_eq, true_and, and_true, and_self, not_true_eq_false, not_false_eq_true, false_imp_iff, true_imp_iff, imp_self, implies_true, ne_eq, reduceIte, cl, cl0, cl1, cl2, vpn, vp0, le8, le16, le40, le640, le1400, le6400, lt8, lt16, le15, le2, nI_leI, nI_ltI, nI_eq, nI_1, nI_add, n_le0, n_lt0, n_0le, n_eq0, n_eq1, n_eq2, n_m1, n_m1r, Nat.reduceEqDiff, Nat.reduceAdd, Int32.add_zero, nI_pred, div16, mul15, mul40, mul16, mul640, mulr16, xu_s, xu_c, xu_k, xu_cc, rows_xu, xf_s, xf_c, rows_xf, xul_c, rows_xul, xul_L, lgc, hm]
  have key := lpF (fun f i => p_Hea_erase_L8 Q f (nI p) (nI (m + 1)) (nI i) (hp2 σ (rng s p i 4) (rng c p i 0))) (m + 1) (by
    intro f i hi hk
    show b_Hea_erase_L8 (p_Hea_erase_L8 Q f) Q (nI p) (nI (m + 1)) (nI i) _
    unfold b_Hea_erase_L8 p_Val_assign_19
    have l1 : ¬ m + 1 ≤ i := by omega
    simp (disch := omega) only [forall_eq, true_and, and_true, and_self, not_true_eq_false, not_false_eq_true, false_imp_iff, true_imp_iff, imp_self, implies_true, ne_eq, reduceIte, cl, cl0, cl1, cl2, vpn, vp0, le8, le16, le40, le640, le1400, le6400, lt8, lt16, le15, le2, nI_leI, nI_ltI, nI_eq, nI_1, nI_add, n_le0, n_lt0, n_0le, n_eq0, n_eq1, n_eq2, n_m1, n_m1r, Nat.reduceEqDiff, Nat.reduceAdd, Int32.add_zero, nI_pred, div16, mul15, mul40, mul16, mul640, mulr16, xu_s, xu_c, xu_k, xu_cc, rows_xu, xf_s, xf_c, rows_xf, xul_c, rows_xul, xul_L, lgc, l1, hp2_s, xu_xf, rng_s]
    exact hk) (by
    intro f
    show b_Hea_erase_L8 (p_Hea_erase_L8 Q f) Q (nI p) (nI (m + 1)) (nI (m + 1)) _
    unfold b_Hea_erase_L8
    simp (disch := omega) only [forall_eq, true_and, and_true, and_self, not_true_eq_false, not_false_eq_true, false_imp_iff, true_imp_iff, imp_self, implies_true, ne_eq, reduceIte, cl, cl0, cl1, cl2, vpn, vp0, le8, le16, le40, le640, le1400, le6400, lt8, lt16, le15, le2, nI_leI, nI_ltI, nI_eq, nI_1, nI_add, n_le0, n_lt0, n_0le, n_eq0, n_eq1, n_eq2, n_m1, n_m1r, Nat.reduceEqDiff, Nat.reduceAdd, Int32.add_zero, nI_pred, div16, mul15, mul40, mul16, mul640, mulr16, xu_s, xu_c, xu_k, xu_cc, rows_xu, xf_s, xf_c, rows_xf, xul_c, rows_xul, xul_L, lgc, Nat.le_refl]
    exact h)
  rw [rng_0, rng_0] at key
  exact key
theorem e_freeBehind {σ : xS} {r k0 m : Nat} {ro : Nat → Nat} (hr : r < 8) (hk0 : k0 ≤ m) (hm : m ≤ 40) (hro : ∀ k, k < m → σ (32 + r) k = nI (ro k) ∧ ro k < 40) (Q : xS → Prop) (h : Q (va_up σ 20 (cw (fun _ => True) (fun k => ro (k0 + k)) (fun _ => -1) (σ 20) (m - k0)))) : p_Reg_freePagesBehind (nI r) (nI k0) (nI m) σ Q := by
  unfold p_Reg_freePagesBehind
  have key := lpF (fun f i => p_Reg_freePagesBehind_L3 Q f (nI r) (nI m) (nI (k0 + i)) (va_up σ 20 (cw (fun _ => True) (fun k => ro (k0 + k)) (fun _ => -1) (σ 20) i))) (m - k0) (by
    intro f i hi hk
    show b_Reg_freePagesBehind_L3 (p_Reg_freePagesBehind_L3 Q f) Q (nI r) (nI m) (nI (k0 + i)) _
    unfold b_Reg_freePagesBehind_L3
    have l1 : ¬ m ≤ k0 + i := by omega
    obtain ⟨e1, e2⟩ := hro (k0 + i) (by omega)
    have e3 := cw_y (B := fun _ => True) (fun k => ro (k0 + k)) (fun _ => -1) (σ 20) (k := i) trivial
    simp (disch := omega) only [forall_eq, true_and, and_true, and_self, not_true_eq_false, not_false_eq_true, false_imp_iff, true_imp_iff, imp_self, implies_true, ne_eq, reduceIte, cl, cl0, cl1, cl2, vpn, vp0, le8, le16, le40, le640, le1400, le6400, lt8, lt16, le15, le2, nI_leI, nI_ltI, nI_eq, nI_1, nI_add, n_le0, n_lt0, n_0le, n_eq0, n_eq1, n_eq2, n_m1, n_m1r, Nat.reduceEqDiff, Nat.reduceAdd, Int32.add_zero, nI_pred, div16, mul15, mul40, mul16, mul640, mulr16, xu_s, xu_c, xu_k, xu_cc, rows_xu, xf_s, xf_c, rows_xf, xul_c, rows_xul, xul_L, lgc, l1, e1, xu_xf, e3]
    exact hk) (by
    intro f
    show b_Reg_freePagesBehind_L3 (p_Reg_freePagesBehind_L3 Q f) Q (nI r) (nI m) (nI (k0 + (m - k0))) _
    unfold b_Reg_freePagesBehind_L3
    rw [show k0 + (m - k0) = m by omega]
    simp (disch := omega) only [forall_eq, true_and, and_true, and_self, not_true_eq_false, not_false_eq_true, false_imp_iff, true_imp_iff, imp_self, implies_true, ne_eq, reduceIte, cl, cl0, cl1, cl2, vpn, vp0, le8, le16, le40, le640, le1400, le6400, lt8, lt16, le15, le2, nI_leI, nI_ltI, nI_eq, nI_1, nI_add, n_le0, n_lt0, n_0le, n_eq0, n_eq1, n_eq2, n_m1, n_m1r, Nat.reduceEqDiff, Nat.reduceAdd, Int32.add_zero, nI_pred, div16, mul15, mul40, mul16, mul640, mulr16, xu_s, xu_c, xu_k, xu_cc, rows_xu, xf_s, xf_c, rows_xf, xul_c, rows_xul, xul_L, lgc, Nat.le_refl]
    exact h)
  rw [cw_0, xf_0] at key
  exact key
theorem e_drop8 {σ : xS} {n r : Nat} {q : Nat → Nat} {K : Nat → Prop} (hn : σ 8 1 = nI n) (h6 : n ≤ 640) (hq : ∀ k, k < n → σ 24 k = nI (q k) ∧ q k < 640 ∧ (K k ↔ ¬ σ 20 (q k / 16) = nI r)) (Q : xS → Prop) (h : Q (xu (va_up σ 24 (kep K (σ 24) n)) 8 1 (nI (cnt K n)))) : p_Lin_dropRegion_8_7 (nI r) σ Q := by
  unfold p_Lin_dropRegion_8_7
  refine lpF (fun f i => p_Lin_dropRegion_8_7_L5 Q f (nI r) (nI (cnt K i)) (nI i) (va_up σ 24 (kep K (σ 24) i))) n (fun f i hi hk => ?_) (fun f => ?_) |> fun key => by rw [kep_0, xf_0] at key; exact key
  · show b_Lin_dropRegion_8_7_L5 (p_Lin_dropRegion_8_7_L5 Q f) Q _ _ (nI i) _
    unfold b_Lin_dropRegion_8_7_L5 p_Reg_ofPlace
    have l1 : ¬ n ≤ i := by omega
    obtain ⟨e1, e2, e3⟩ := hq i hi
    have l2 := cnt_le K i
    by_cases hb : σ 20 (q i / 16) = nI r
    · rw [kep_n _ (fun x => e3.mp x hb), cnt_n K (fun x => e3.mp x hb)] at hk
      simp (disch := omega) only [forall_eq, true_and, and_true, and_self, not_true_eq_false, not_false_eq_true, false_imp_iff, true_imp_iff, imp_self, implies_true, ne_eq, reduceIte, cl, cl0, cl1, cl2, vpn, vp0, le8, le16, le40, le640, le1400, le6400, lt8, lt16, le15, le2, nI_leI, nI_ltI, nI_eq, nI_1, nI_add, n_le0, n_lt0, n_0le, n_eq0, n_eq1, n_eq2, n_m1, n_m1r, Nat.reduceEqDiff, Nat.reduceAdd, Int32.add_zero, nI_pred, div16, mul15, mul40, mul16, mul640, mulr16, xu_s, xu_c, xu_k, xu_cc, rows_xu, xf_s, xf_c, rows_xf, xul_c, rows_xul, xul_L, lgc, hn, l1, kep_ge, Nat.le_refl, e1, hb]
      exact hk
    · rw [cnt_y K (e3.mpr hb), ← kep_y _ (e3.mpr hb)] at hk
      rw [e1] at hk
      simp (disch := omega) only [forall_eq, true_and, and_true, and_self, not_true_eq_false, not_false_eq_true, false_imp_iff, true_imp_iff, imp_self, implies_true, ne_eq, reduceIte, cl, cl0, cl1, cl2, vpn, vp0, le8, le16, le40, le640, le1400, le6400, lt8, lt16, le15, le2, nI_leI, nI_ltI, nI_eq, nI_1, nI_add, n_le0, n_lt0, n_0le, n_eq0, n_eq1, n_eq2, n_m1, n_m1r, Nat.reduceEqDiff, Nat.reduceAdd, Int32.add_zero, nI_pred, div16, mul15, mul40, mul16, mul640, mulr16, xu_s, xu_c, xu_k, xu_cc, rows_xu, xf_s, xf_c, rows_xf, xul_c, rows_xul, xul_L, lgc, hn, l1, kep_ge, Nat.le_refl, e1, hb, xu_xf]
      exact hk
  · show b_Lin_dropRegion_8_7_L5 (p_Lin_dropRegion_8_7_L5 Q f) Q _ _ (nI n) _
    unfold b_Lin_dropRegion_8_7_L5
    simp (disch := omega) only [forall_eq, true_and, and_true, and_self, not_true_eq_false, not_false_eq_true, false_imp_iff, true_imp_iff, imp_self, implies_true, ne_eq, reduceIte, cl, cl0, cl1, cl2, vpn, vp0, le8, le16, le40, le640, le1400, le6400, lt8, lt16, le15, le2, nI_leI, nI_ltI, nI_eq, nI_1, nI_add, n_le0, n_lt0, n_0le, n_eq0, n_eq1, n_eq2, n_m1, n_m1r, Nat.reduceEqDiff, Nat.reduceAdd, Int32.add_zero, nI_pred, div16, mul15, mul40, mul16, mul640, mulr16, xu_s, xu_c, xu_k, xu_cc, rows_xu, xf_s, xf_c, rows_xf, xul_c, rows_xul, xul_L, lgc, hn, Nat.le_refl]
    exact h
theorem e_drop9 {σ : xS} {n r : Nat} {q : Nat → Nat} {K : Nat → Prop} (hn : σ 9 1 = nI n) (h6 : n ≤ 640) (hq : ∀ k, k < n → σ 25 k = nI (q k) ∧ q k < 640 ∧ (K k ↔ ¬ σ 20 (q k / 16) = nI r)) (Q : xS → Prop) (h : Q (xu (va_up σ 25 (kep K (σ 25) n)) 9 1 (nI (cnt K n)))) : p_Lin_dropRegion_9_7 (nI r) σ Q := by
  unfold p_Lin_dropRegion_9_7
  refine lpF (fun f i => p_Lin_dropRegion_9_7_L5 Q f (nI r) (nI (cnt K i)) (nI i) (va_up σ 25 (kep K (σ 25) i))) n (fun f i hi hk => ?_) (fun f => ?_) |> fun key => by rw [kep_0, xf_0] at key; exact key
  · show b_Lin_dropRegion_9_7_L5 (p_Lin_dropRegion_9_7_L5 Q f) Q _ _ (nI i) _
    unfold b_Lin_dropRegion_9_7_L5 p_Reg_ofPlace
    have l1 : ¬ n ≤ i := by omega
    obtain ⟨e1, e2, e3⟩ := hq i hi
    have l2 := cnt_le K i
    by_cases hb : σ 20 (q i / 16) = nI r
    · rw [kep_n _ (fun x => e3.mp x hb), cnt_n K (fun x => e3.mp x hb)] at hk
      simp (disch := omega) only [forall_eq, true_and, and_true, and_self, not_true_eq_false, not_false_eq_true, false_imp_iff, true_imp_iff, imp_self, implies_true, ne_eq, reduceIte, cl, cl0, cl1, cl2, vpn, vp0, le8, le16, le40, le640, le1400, le6400, lt8, lt16, le15, le2, nI_leI, nI_ltI, nI_eq, nI_1, nI_add, n_le0, n_lt0, n_0le, n_eq0, n_eq1, n_eq2, n_m1, n_m1r, Nat.reduceEqDiff, Nat.reduceAdd, Int32.add_zero, nI_pred, div16, mul15, mul40, mul16, mul640, mulr16, xu_s, xu_c, xu_k, xu_cc, rows_xu, xf_s, xf_c, rows_xf, xul_c, rows_xul, xul_L, lgc, hn, l1, kep_ge, Nat.le_refl, e1, hb]
      exact hk
    · rw [cnt_y K (e3.mpr hb), ← kep_y _ (e3.mpr hb)] at hk
      rw [e1] at hk
      simp (disch := omega) only [forall_eq, true_and, and_true, and_self, not_true_eq_false, not_false_eq_true, false_imp_iff, true_imp_iff, imp_self, implies_true, ne_eq, reduceIte, cl, cl0, cl1, cl2, vpn, vp0, le8, le16, le40, le640, le1400, le6400, lt8, lt16, le15, le2, nI_leI, nI_ltI, nI_eq, nI_1, nI_add, n_le0, n_lt0, n_0le, n_eq0, n_eq1, n_eq2, n_m1, n_m1r, Nat.reduceEqDiff, Nat.reduceAdd, Int32.add_zero, nI_pred, div16, mul15, mul40, mul16, mul640, mulr16, xu_s, xu_c, xu_k, xu_cc, rows_xu, xf_s, xf_c, rows_xf, xul_c, rows_xul, xul_L, lgc, hn, l1, kep_ge, Nat.le_refl, e1, hb, xu_xf]
      exact hk
  · show b_Lin_dropRegion_9_7_L5 (p_Lin_dropRegion_9_7_L5 Q f) Q _ _ (nI n) _
    unfold b_Lin_dropRegion_9_7_L5
    simp (disch := omega) only [forall_eq, true_and, and_true, and_self, not_true_eq_false, not_false_eq_true, false_imp_iff, true_imp_iff, imp_self, implies_true, ne_eq, reduceIte, cl, cl0, cl1, cl2, vpn, vp0, le8, le16, le40, le640, le1400, le6400, lt8, lt16, le15, le2, nI_leI, nI_ltI, nI_eq, nI_1, nI_add, n_le0, n_lt0, n_0le, n_eq0, n_eq1, n_eq2, n_m1, n_m1r, Nat.reduceEqDiff, Nat.reduceAdd, Int32.add_zero, nI_pred, div16, mul15, mul40, mul16, mul640, mulr16, xu_s, xu_c, xu_k, xu_cc, rows_xu, xf_s, xf_c, rows_xf, xul_c, rows_xul, xul_L, lgc, hn, Nat.le_refl]
    exact h
theorem e_mDrop {σ : xS} {n r : Nat} {q : Nat → Nat} (hn : σ 31 19 = nI n) (h6 : n ≤ 640) (hq : ∀ k, k < n → σ 56 k = nI (q k) ∧ q k < 640) (Q : Int32 → xS → Prop) (h : ∃ f, p_Mod_close_L129 Q f (nI r) 0 (xu (va_up σ 56 (kep (fun k => ¬ σ 43 (q k) = nI r) (σ 56) n)) 31 19 (nI (cnt (fun k => ¬ σ 43 (q k) = nI r) n)))) : ∃ f, p_Mod_close_L78 Q f (nI r) 0 0 σ := by
  refine lpF (fun f i => p_Mod_close_L78 Q f (nI r) (nI (cnt (fun k => ¬ σ 43 (q k) = nI r) i)) (nI i) (va_up σ 56 (kep (fun k => ¬ σ 43 (q k) = nI r) (σ 56) i))) n (fun f i hi hk => ?_) (fun f => ?_) |> fun key => by rw [kep_0, xf_0] at key; exact key
  · show b_Mod_close_L78 (p_Mod_close_L78 Q f) Q _ _ (nI i) _
    unfold b_Mod_close_L78
    have l1 : ¬ n ≤ i := by omega
    obtain ⟨e1, e2⟩ := hq i hi
    have l2 := cnt_le (fun k => ¬ σ 43 (q k) = nI r) i
    by_cases hb : σ 43 (q i) = nI r
    · rw [kep_n (K := fun k => ¬ σ 43 (q k) = nI r) _ (fun x => x hb), cnt_n (fun k => ¬ σ 43 (q k) = nI r) (fun x => x hb)] at hk
      simp (disch := omega) only [forall_eq, true_and, and_true, and_self, not_true_eq_false, not_false_eq_true, false_imp_iff, true_imp_iff, imp_self, implies_true, ne_eq, reduceIte, cl, cl0, cl1, cl2, vpn, vp0, le8, le16, le40, le640, le1400, le6400, lt8, lt16, le15, le2, nI_leI, nI_ltI, nI_eq, nI_1, nI_add, n_le0, n_lt0, n_0le, n_eq0, n_eq1, n_eq2, n_m1, n_m1r, Nat.reduceEqDiff, Nat.reduceAdd, Int32.add_zero, nI_pred, div16, mul15, mul40, mul16, mul640, mulr16, xu_s, xu_c, xu_k, xu_cc, rows_xu, xf_s, xf_c, rows_xf, xul_c, rows_xul, xul_L, lgc, hn, l1, kep_ge, Nat.le_refl, e1, hb]
      exact hk
    · rw [cnt_y (fun k => ¬ σ 43 (q k) = nI r) hb, ← kep_y (K := fun k => ¬ σ 43 (q k) = nI r) _ hb] at hk
      rw [e1] at hk
      simp (disch := omega) only [forall_eq, true_and, and_true, and_self, not_true_eq_false, not_false_eq_true, false_imp_iff, true_imp_iff, imp_self, implies_true, ne_eq, reduceIte, cl, cl0, cl1, cl2, vpn, vp0, le8, le16, le40, le640, le1400, le6400, lt8, lt16, le15, le2, nI_leI, nI_ltI, nI_eq, nI_1, nI_add, n_le0, n_lt0, n_0le, n_eq0, n_eq1, n_eq2, n_m1, n_m1r, Nat.reduceEqDiff, Nat.reduceAdd, Int32.add_zero, nI_pred, div16, mul15, mul40, mul16, mul640, mulr16, xu_s, xu_c, xu_k, xu_cc, rows_xu, xf_s, xf_c, rows_xf, xul_c, rows_xul, xul_L, lgc, hn, l1, kep_ge, Nat.le_refl, e1, hb, xu_xf]
      exact hk
  · show b_Mod_close_L78 (p_Mod_close_L78 Q f) Q _ _ (nI n) _
    unfold b_Mod_close_L78
    simp (disch := omega) only [forall_eq, true_and, and_true, and_self, not_true_eq_false, not_false_eq_true, false_imp_iff, true_imp_iff, imp_self, implies_true, ne_eq, reduceIte, cl, cl0, cl1, cl2, vpn, vp0, le8, le16, le40, le640, le1400, le6400, lt8, lt16, le15, le2, nI_leI, nI_ltI, nI_eq, nI_1, nI_add, n_le0, n_lt0, n_0le, n_eq0, n_eq1, n_eq2, n_m1, n_m1r, Nat.reduceEqDiff, Nat.reduceAdd, Int32.add_zero, nI_pred, div16, mul15, mul40, mul16, mul640, mulr16, xu_s, xu_c, xu_k, xu_cc, rows_xu, xf_s, xf_c, rows_xf, xul_c, rows_xul, xul_L, lgc, hn, Nat.le_refl]
    exact h
theorem e_mRem {σ : xS} {r : Nat} {pl : Nat → Nat} (hP : ∀ o, iA (σ 40) o → σ 44 o = nI (pl o) ∧ pl o < 640) (Q : Int32 → xS → Prop) (h : ∃ f, p_Mod_close_L169 Q f (nI r) 0 (va_up (va_up σ 40 (cw (fun o => ¬ σ 40 o = -1 ∧ σ 43 o = nI r) id (fun _ => -1) (σ 40) 640)) 49 (cw (fun o => ¬ σ 40 o = -1 ∧ σ 43 o = nI r) pl (fun _ => -1) (σ 49) 640))) : ∃ f, p_Mod_close_L129 Q f (nI r) 0 σ := by
  refine lpF (fun f i => p_Mod_close_L129 Q f (nI r) (nI i) (va_up (va_up σ 40 (cw (fun o => ¬ σ 40 o = -1 ∧ σ 43 o = nI r) id (fun _ => -1) (σ 40) i)) 49 (cw (fun o => ¬ σ 40 o = -1 ∧ σ 43 o = nI r) pl (fun _ => -1) (σ 49) i))) 640 (fun f i hi hk => ?_) (fun f => ?_) |> fun key => by rw [cw_0, cw_0, up2_0] at key; exact key
  · show b_Mod_close_L129 (p_Mod_close_L129 Q f) Q (nI r) (nI i) _
    unfold b_Mod_close_L129 p_Mod_remove
    have l1 : ¬ 640 ≤ i := by omega
    have e0 := (cw_id (B := fun o => ¬ σ 40 o = -1 ∧ σ 43 o = nI r) (v := fun _ => -1) (f := σ 40) i i).2 (by omega)
    by_cases hb : ¬ σ 40 i = -1 ∧ σ 43 i = nI r
    · obtain ⟨e1, e2⟩ := hP i ⟨hi, hb.1⟩
      have e3 := cw_y (B := fun o => ¬ σ 40 o = -1 ∧ σ 43 o = nI r) id (fun _ => -1) (σ 40) (k := i) hb
      have e4 := cw_y (B := fun o => ¬ σ 40 o = -1 ∧ σ 43 o = nI r) pl (fun _ => -1) (σ 49) (k := i) hb
      dsimp only [id] at e3 e4
      rw [← e3, ← e4] at hk
      simp (disch := omega) only [forall_eq, true_and, and_true, and_self, not_true_eq_false, not_false_eq_true, false_imp_iff, true_imp_iff, imp_self, implies_true, ne_eq, reduceIte, cl, cl0, cl1, cl2, vpn, vp0, le8, le16, le40, le640, le1400, le6400, lt8, lt16, le15, le2, nI_leI, nI_ltI, nI_eq, nI_1, nI_add, n_le0, n_lt0, n_0le, n_eq0, n_eq1, n_eq2, n_m1, n_m1r, Nat.reduceEqDiff, Nat.reduceAdd, Int32.add_zero, nI_pred, div16, mul15, mul40, mul16, mul640, mulr16, xu_s, xu_c, xu_k, xu_cc, rows_xu, xf_s, xf_c, rows_xf, xul_c, rows_xul, xul_L, lgc, l1, e0, hb.1, hb.2, e1, up2_s, xu_xf]
      exact hk
    · rw [cw_n _ _ _ hb, cw_n _ _ _ hb] at hk
      simp (disch := omega) only [forall_eq, true_and, and_true, and_self, not_true_eq_false, not_false_eq_true, false_imp_iff, true_imp_iff, imp_self, implies_true, ne_eq, reduceIte, cl, cl0, cl1, cl2, vpn, vp0, le8, le16, le40, le640, le1400, le6400, lt8, lt16, le15, le2, nI_leI, nI_ltI, nI_eq, nI_1, nI_add, n_le0, n_lt0, n_0le, n_eq0, n_eq1, n_eq2, n_m1, n_m1r, Nat.reduceEqDiff, Nat.reduceAdd, Int32.add_zero, nI_pred, div16, mul15, mul40, mul16, mul640, mulr16, xu_s, xu_c, xu_k, xu_cc, rows_xu, xf_s, xf_c, rows_xf, xul_c, rows_xul, xul_L, lgc, l1, e0]
      refine ⟨fun _ => hk, fun h => ⟨fun _ => hk, fun h' => absurd ⟨h, h'⟩ hb⟩⟩
  · show b_Mod_close_L129 (p_Mod_close_L129 Q f) Q (nI r) (nI 640) _
    unfold b_Mod_close_L129
    simp (disch := omega) only [forall_eq, true_and, and_true, and_self, not_true_eq_false, not_false_eq_true, false_imp_iff, true_imp_iff, imp_self, implies_true, ne_eq, reduceIte, cl, cl0, cl1, cl2, vpn, vp0, le8, le16, le40, le640, le1400, le6400, lt8, lt16, le15, le2, nI_leI, nI_ltI, nI_eq, nI_1, nI_add, n_le0, n_lt0, n_0le, n_eq0, n_eq1, n_eq2, n_m1, n_m1r, Nat.reduceEqDiff, Nat.reduceAdd, Int32.add_zero, nI_pred, div16, mul15, mul40, mul16, mul640, mulr16, xu_s, xu_c, xu_k, xu_cc, rows_xu, xf_s, xf_c, rows_xf, xul_c, rows_xul, xul_L, lgc, Nat.le_refl]
    exact h
theorem e_mFree {σ : xS} {r m : Nat} {ro : Nat → Nat} (hr : r < 8) (hm : σ 51 r = nI m) (h4 : m ≤ 40) (hro : ∀ k, k < m → σ 52 (40 * r + k) = nI (ro k) ∧ ro k < 40) (Q : Int32 → xS → Prop) (h : Q (nI m) (xu (va_up σ 50 (cw (fun _ => True) ro (fun _ => 0) (σ 50) m)) 31 13 (σ 31 13 - 1))) : ∃ f, p_Mod_close_L169 Q f (nI r) 0 σ := by
  refine lpF (fun f i => p_Mod_close_L169 Q f (nI r) (nI i) (va_up σ 50 (cw (fun _ => True) ro (fun _ => 0) (σ 50) i))) m (fun f i hi hk => ?_) (fun f => ?_) |> fun key => by rw [cw_0, xf_0] at key; exact key
  · show b_Mod_close_L169 (p_Mod_close_L169 Q f) Q (nI r) (nI i) _
    unfold b_Mod_close_L169
    have l1 : ¬ m ≤ i := by omega
    obtain ⟨e1, e2⟩ := hro i hi
    have e3 := cw_y (B := fun _ => True) ro (fun _ => 0) (σ 50) (k := i) trivial
    have e4 : vp_nar .boolean 0 = 0 := by decide
    rw [← e3] at hk
    simp (disch := omega) only [forall_eq, true_and, and_true, and_self, not_true_eq_false, not_false_eq_true, false_imp_iff, true_imp_iff, imp_self, implies_true, ne_eq, reduceIte, cl, cl0, cl1, cl2, vpn, vp0, le8, le16, le40, le640, le1400, le6400, lt8, lt16, le15, le2, nI_leI, nI_ltI, nI_eq, nI_1, nI_add, n_le0, n_lt0, n_0le, n_eq0, n_eq1, n_eq2, n_m1, n_m1r, Nat.reduceEqDiff, Nat.reduceAdd, Int32.add_zero, nI_pred, div16, mul15, mul40, mul16, mul640, mulr16, xu_s, xu_c, xu_k, xu_cc, rows_xu, xf_s, xf_c, rows_xf, xul_c, rows_xul, xul_L, lgc, hm, l1, e1, xu_xf, e4]
    exact hk
  · show b_Mod_close_L169 (p_Mod_close_L169 Q f) Q (nI r) (nI m) _
    unfold b_Mod_close_L169
    simp (disch := omega) only [forall_eq, true_and, and_true, and_self, not_true_eq_false, not_false_eq_true, false_imp_iff, true_imp_iff, imp_self, implies_true, ne_eq, reduceIte, cl, cl0, cl1, cl2, vpn, vp0, le8, le16, le40, le640, le1400, le6400, lt8, lt16, le15, le2, nI_leI, nI_ltI, nI_eq, nI_1, nI_add, n_le0, n_lt0, n_0le, n_eq0, n_eq1, n_eq2, n_m1, n_m1r, Nat.reduceEqDiff, Nat.reduceAdd, Int32.add_zero, nI_pred, div16, mul15, mul40, mul16, mul640, mulr16, xu_s, xu_c, xu_k, xu_cc, rows_xu, xf_s, xf_c, rows_xf, xul_c, rows_xul, xul_L, lgc, hm, Nat.le_refl]
    exact h
theorem r_pred {g r : Nat} (hg : g < 100) (hr : r < 100) : nI g ≤ nI r - 1 ↔ g < r := by
  rcases Nat.eq_zero_or_pos r with h | h
  · subst h
    have : ¬ nI g ≤ nI 0 - 1 := by
      rw [Int32.le_iff_toInt_le, nI_toInt (by omega)]
      have : (nI 0 - 1).toInt = -1 := by decide
      rw [this]; omega
    exact ⟨fun x => absurd x this, fun x => absurd x (by omega)⟩
  · obtain ⟨k, rfl⟩ : ∃ k, r = k + 1 := ⟨r - 1, by omega⟩
    rw [nI_pred, nI_leI (by omega) (by omega)]; omega
theorem e_rootsC {σ : xS} {r : Nat} (hr : r < 8) {B : Nat → Prop} (hB : ∀ k, k < 16 → (B k → σ 17 k = 2 ∧ ∃ p, σ 18 k = nI p ∧ p < 640 ∧ σ 20 (p / 16) = nI r) ∧ (¬ B k → ¬ σ 17 k = 2 ∨ σ 17 k = 2 ∧ ∃ p g, σ 18 k = nI p ∧ p < 640 ∧ σ 20 (p / 16) = nI g ∧ g < r)) (Q : xS → Prop)
    (h : p_Lin_dropRegion_8_7 (nI r) (va_up (va_up σ 17 (cw B id (fun _ => 0) (σ 17) 16)) 18 (cw B id (fun _ => 0) (σ 18) 16)) (fun σ2 => p_Lin_dropRegion_9_7 (nI r) σ2 (fun σ3 => (∃ n, p_Mem_forgetRegion_L63 Q n (nI r) 0 σ3)))) : p_Mem_forgetRegion (nI r) σ Q := by
  unfold p_Mem_forgetRegion
  refine lpF (fun f i => p_Mem_forgetRegion_L2 Q f (nI r) (nI i) (va_up (va_up σ 17 (cw B id (fun _ => 0) (σ 17) i)) 18 (cw B id (fun _ => 0) (σ 18) i))) 16 (fun f i hi hk => ?_) (fun f => ?_) |> fun key => by rw [cw_0, cw_0, up2_0] at key; exact key
  · show b_Mem_forgetRegion_L2 (p_Mem_forgetRegion_L2 Q f) Q (nI r) (nI i) _
    unfold b_Mem_forgetRegion_L2 p_Mem_refersBeyond_1_5 p_Val_isReference_5 p_Val_contentOf_5 p_Reg_ofPlace p_Val_setNil_5 p_Val_assign_5
    have l1 : ¬ 16 ≤ i := by omega
    have e0 := (cw_id (B := B) (v := fun _ => 0) (f := σ 17) i i).2 (by omega)
    have e0' := (cw_id (B := B) (v := fun _ => 0) (f := σ 18) i i).2 (by omega)
    by_cases hb : B i
    · obtain ⟨b1, p, b2, b3, b4⟩ := (hB i hi).1 hb
      have e3 := cw_y (B := B) id (fun _ => 0) (σ 17) (k := i) hb
      have e4 := cw_y (B := B) id (fun _ => 0) (σ 18) (k := i) hb
      dsimp only [id] at e3 e4
      rw [← e3, ← e4] at hk
      simp (disch := omega) only [forall_eq, true_and, and_true, and_self, not_true_eq_false, not_false_eq_true, false_imp_iff, true_imp_iff, imp_self, implies_true, ne_eq, reduceIte, cl, cl0, cl1, cl2, vpn, vp0, le8, le16, le40, le640, le1400, le6400, lt8, lt16, le15, le2, nI_leI, nI_ltI, nI_eq, nI_1, nI_add, n_le0, n_lt0, n_0le, n_eq0, n_eq1, n_eq2, n_m1, n_m1r, Nat.reduceEqDiff, Nat.reduceAdd, Int32.add_zero, nI_pred, div16, mul15, mul40, mul16, mul640, mulr16, xu_s, xu_c, xu_k, xu_cc, rows_xu, xf_s, xf_c, rows_xf, xul_c, rows_xul, xul_L, lgc, l1, e0, e0', b1, b2, b4, n10, r_pred, Nat.lt_irrefl, up2_s, xu_xf]
      exact hk
    · rw [cw_n _ _ _ hb, cw_n _ _ _ hb] at hk
      rcases (hB i hi).2 hb with b1 | ⟨b1, p, g, b2, b3, b4, b5⟩
      · simp (disch := omega) only [forall_eq, true_and, and_true, and_self, not_true_eq_false, not_false_eq_true, false_imp_iff, true_imp_iff, imp_self, implies_true, ne_eq, reduceIte, cl, cl0, cl1, cl2, vpn, vp0, le8, le16, le40, le640, le1400, le6400, lt8, lt16, le15, le2, nI_leI, nI_ltI, nI_eq, nI_1, nI_add, n_le0, n_lt0, n_0le, n_eq0, n_eq1, n_eq2, n_m1, n_m1r, Nat.reduceEqDiff, Nat.reduceAdd, Int32.add_zero, nI_pred, div16, mul15, mul40, mul16, mul640, mulr16, xu_s, xu_c, xu_k, xu_cc, rows_xu, xf_s, xf_c, rows_xf, xul_c, rows_xul, xul_L, lgc, l1, e0, e0', b1, n10]
        exact hk
      · simp (disch := omega) only [forall_eq, true_and, and_true, and_self, not_true_eq_false, not_false_eq_true, false_imp_iff, true_imp_iff, imp_self, implies_true, ne_eq, reduceIte, cl, cl0, cl1, cl2, vpn, vp0, le8, le16, le40, le640, le1400, le6400, lt8, lt16, le15, le2, nI_leI, nI_ltI, nI_eq, nI_1, nI_add, n_le0, n_lt0, n_0le, n_eq0, n_eq1, n_eq2, n_m1, n_m1r, Nat.reduceEqDiff, Nat.reduceAdd, Int32.add_zero, nI_pred, div16, mul15, mul40, mul16, mul640, mulr16, xu_s, xu_c, xu_k, xu_cc, rows_xu, xf_s, xf_c, rows_xf, xul_c, rows_xul, xul_L, lgc, l1, e0, e0', b1, b2, b4, n10, r_pred, b5]
        exact hk
  · show b_Mem_forgetRegion_L2 (p_Mem_forgetRegion_L2 Q f) Q (nI r) (nI 16) _
    unfold b_Mem_forgetRegion_L2
    simp (disch := omega) only [forall_eq, true_and, and_true, and_self, not_true_eq_false, not_false_eq_true, false_imp_iff, true_imp_iff, imp_self, implies_true, ne_eq, reduceIte, cl, cl0, cl1, cl2, vpn, vp0, le8, le16, le40, le640, le1400, le6400, lt8, lt16, le15, le2, nI_leI, nI_ltI, nI_eq, nI_1, nI_add, n_le0, n_lt0, n_0le, n_eq0, n_eq1, n_eq2, n_m1, n_m1r, Nat.reduceEqDiff, Nat.reduceAdd, Int32.add_zero, nI_pred, div16, mul15, mul40, mul16, mul640, mulr16, xu_s, xu_c, xu_k, xu_cc, rows_xu, xf_s, xf_c, rows_xf, xul_c, rows_xul, xul_L, lgc, Nat.le_refl]
    exact h
theorem e_rootsM {σ : xS} {r : Nat} {B : Nat → Prop} (hB : ∀ k, k < 16 → (B k → σ 54 k = 2 ∧ ∃ p, σ 55 k = nI p ∧ p < 640 ∧ σ 43 p = nI r) ∧ (¬ B k → ¬ σ 54 k = 2 ∨ σ 54 k = 2 ∧ ∃ p, σ 55 k = nI p ∧ p < 640 ∧ ¬ σ 43 p = nI r)) (Q : Int32 → xS → Prop)
    (h : ∃ n, p_Mod_close_L78 Q n (nI r) 0 0 (va_up (va_up σ 54 (cw B id (fun _ => 0) (σ 54) 16)) 55 (cw B id (fun _ => 0) (σ 55) 16))) : ∃ n, p_Mod_close_L23 Q n (nI r) 0 σ := by
  refine lpF (fun f i => p_Mod_close_L23 Q f (nI r) (nI i) (va_up (va_up σ 54 (cw B id (fun _ => 0) (σ 54) i)) 55 (cw B id (fun _ => 0) (σ 55) i))) 16 (fun f i hi hk => ?_) (fun f => ?_) |> fun key => by rw [cw_0, cw_0, up2_0] at key; exact key
  · show b_Mod_close_L23 (p_Mod_close_L23 Q f) Q (nI r) (nI i) _
    unfold b_Mod_close_L23
    have l1 : ¬ 16 ≤ i := by omega
    have e0 := (cw_id (B := B) (v := fun _ => 0) (f := σ 54) i i).2 (by omega)
    have e0' := (cw_id (B := B) (v := fun _ => 0) (f := σ 55) i i).2 (by omega)
    by_cases hb : B i
    · obtain ⟨b1, p, b2, b3, b4⟩ := (hB i hi).1 hb
      have e3 := cw_y (B := B) id (fun _ => 0) (σ 54) (k := i) hb
      have e4 := cw_y (B := B) id (fun _ => 0) (σ 55) (k := i) hb
      dsimp only [id] at e3 e4
      rw [← e3, ← e4] at hk
      simp (disch := omega) only [forall_eq, true_and, and_true, and_self, not_true_eq_false, not_false_eq_true, false_imp_iff, true_imp_iff, imp_self, implies_true, ne_eq, reduceIte, cl, cl0, cl1, cl2, vpn, vp0, le8, le16, le40, le640, le1400, le6400, lt8, lt16, le15, le2, nI_leI, nI_ltI, nI_eq, nI_1, nI_add, n_le0, n_lt0, n_0le, n_eq0, n_eq1, n_eq2, n_m1, n_m1r, Nat.reduceEqDiff, Nat.reduceAdd, Int32.add_zero, nI_pred, div16, mul15, mul40, mul16, mul640, mulr16, xu_s, xu_c, xu_k, xu_cc, rows_xu, xf_s, xf_c, rows_xf, xul_c, rows_xul, xul_L, lgc, l1, e0, e0', b1, b2, b4, up2_s, xu_xf]
      exact hk
    · rw [cw_n _ _ _ hb, cw_n _ _ _ hb] at hk
      rcases (hB i hi).2 hb with b1 | ⟨b1, p, b2, b3, b4⟩
      · simp (disch := omega) only [forall_eq, true_and, and_true, and_self, not_true_eq_false, not_false_eq_true, false_imp_iff, true_imp_iff, imp_self, implies_true, ne_eq, reduceIte, cl, cl0, cl1, cl2, vpn, vp0, le8, le16, le40, le640, le1400, le6400, lt8, lt16, le15, le2, nI_leI, nI_ltI, nI_eq, nI_1, nI_add, n_le0, n_lt0, n_0le, n_eq0, n_eq1, n_eq2, n_m1, n_m1r, Nat.reduceEqDiff, Nat.reduceAdd, Int32.add_zero, nI_pred, div16, mul15, mul40, mul16, mul640, mulr16, xu_s, xu_c, xu_k, xu_cc, rows_xu, xf_s, xf_c, rows_xf, xul_c, rows_xul, xul_L, lgc, l1, e0, e0', b1]
        exact hk
      · simp (disch := omega) only [forall_eq, true_and, and_true, and_self, not_true_eq_false, not_false_eq_true, false_imp_iff, true_imp_iff, imp_self, implies_true, ne_eq, reduceIte, cl, cl0, cl1, cl2, vpn, vp0, le8, le16, le40, le640, le1400, le6400, lt8, lt16, le15, le2, nI_leI, nI_ltI, nI_eq, nI_1, nI_add, n_le0, n_lt0, n_0le, n_eq0, n_eq1, n_eq2, n_m1, n_m1r, Nat.reduceEqDiff, Nat.reduceAdd, Int32.add_zero, nI_pred, div16, mul15, mul40, mul16, mul640, mulr16, xu_s, xu_c, xu_k, xu_cc, rows_xu, xf_s, xf_c, rows_xf, xul_c, rows_xul, xul_L, lgc, l1, e0, e0', b1, b2, b4]
        exact hk
  · show b_Mod_close_L23 (p_Mod_close_L23 Q f) Q (nI r) (nI 16) _
    unfold b_Mod_close_L23
    simp (disch := omega) only [forall_eq, true_and, and_true, and_self, not_true_eq_false, not_false_eq_true, false_imp_iff, true_imp_iff, imp_self, implies_true, ne_eq, reduceIte, cl, cl0, cl1, cl2, vpn, vp0, le8, le16, le40, le640, le1400, le6400, lt8, lt16, le15, le2, nI_leI, nI_ltI, nI_eq, nI_1, nI_add, n_le0, n_lt0, n_0le, n_eq0, n_eq1, n_eq2, n_m1, n_m1r, Nat.reduceEqDiff, Nat.reduceAdd, Int32.add_zero, nI_pred, div16, mul15, mul40, mul16, mul640, mulr16, xu_s, xu_c, xu_k, xu_cc, rows_xu, xf_s, xf_c, rows_xf, xul_c, rows_xul, xul_L, lgc, Nat.le_refl]
    exact h
theorem e_eraseAll {σ : xS} {A D : Nat → Prop} {pl mn : Nat → Nat} {hd : Nat → Int32} {fs fc : Nat → Nat → Int32} {r : Nat} (hR : HeapR (σ 28) (σ 29) A pl mn hd fs fc) (hdis : lDis A pl mn) (h3 : ∀ o i, A o → i < mn o → fs o i ≠ 3) (hb : ∀ o, A o → pl o + mn o < 640 ∧ mn o < 16 ∧ hd o &&& 15 = nI (mn o) ∧ (D o ↔ σ 20 (pl o / 16) = nI r)) (Q : xS → Prop)
    (h : ∀ s c, HeapR s c (fun o => A o ∧ ¬ D o) pl mn hd fs fc → Q (hp2 σ s c)) : ∃ f, p_Mem_forgetRegion_L63 Q f (nI r) 0 σ := by
  have key := lpS (S := (Nat → Int32) × (Nat → Int32)) (fun f i sc => p_Mem_forgetRegion_L63 Q f (nI r) (nI i) (hp2 σ sc.1 sc.2)) (fun i sc => HeapR sc.1 sc.2 (fun o => A o ∧ ¬ (D o ∧ pl o < i)) pl mn hd fs fc) 640 (by
    intro f i sc hi hs hk
    obtain ⟨s, c⟩ := sc
    dsimp only at hs hk ⊢
    show b_Mem_forgetRegion_L63 (p_Mem_forgetRegion_L63 Q f) Q (nI r) (nI i) _
    unfold b_Mem_forgetRegion_L63 p_Hea_isObject p_Val_sortOf_19 p_Reg_ofPlace
    have l1 : ¬ 640 ≤ i := by omega
    by_cases e3 : s i = 3
    · obtain ⟨o, ho, ep⟩ := HeapR_h hs (fun o i ho hi => h3 o i ho.1 hi) hi e3
      obtain ⟨b1, b2, b3, b4⟩ := hb o ho.1
      have inj : ∀ q, A q → pl q = i → q = o := fun q hq e => by
        by_cases hqo : q = o
        · exact hqo
        · have := hdis q o hq ho.1 hqo; omega
      by_cases hD : D o
      · have e20 := b4.mp hD
        rw [ep] at e20
        simp (disch := omega) only [forall_eq, true_and, and_true, and_self, not_true_eq_false, not_false_eq_true, false_imp_iff, true_imp_iff, imp_self, implies_true, ne_eq, reduceIte, cl, cl0, cl1, cl2, vpn, vp0, le8, le16, le40, le640, le1400, le6400, lt8, lt16, le15, le2, nI_leI, nI_ltI, nI_eq, nI_1, nI_add, n_le0, n_lt0, n_0le, n_eq0, n_eq1, n_eq2, n_m1, n_m1r, Nat.reduceEqDiff, Nat.reduceAdd, Int32.add_zero, nI_pred, div16, mul15, mul40, mul16, mul640, mulr16, xu_s, xu_c, xu_k, xu_cc, rows_xu, xf_s, xf_c, rows_xf, xul_c, rows_xul, xul_L, lgc, l1, e3, n10, e20]
        refine e_erase (m := mn o) (by omega) ?_ _ ?_
        · rw [← ep, (hs.1 o ho).2, b3]
        · refine hk (_, _) ?_
          dsimp only
          have := HeapR_e hs (fun a b ha hb => hdis a b ha.1 hb.1) ho
          rw [ep] at this
          refine HeapR_A this (fun q => ⟨fun x => ⟨x.1.1, fun y => ?_⟩, fun x => ⟨⟨x.1, fun y => x.2 ⟨y.1, by omega⟩⟩, fun e => x.2 ⟨e ▸ hD, by rw [e]; omega⟩⟩⟩)
          by_cases hlt : pl q < i
          · exact x.1.2 ⟨y.1, hlt⟩
          · exact x.2 (inj q x.1.1 (by omega))
      · have e20 : ¬ σ 20 (i / 16) = nI r := by rw [← ep]; exact fun x => hD (b4.mpr x)
        simp (disch := omega) only [forall_eq, true_and, and_true, and_self, not_true_eq_false, not_false_eq_true, false_imp_iff, true_imp_iff, imp_self, implies_true, ne_eq, reduceIte, cl, cl0, cl1, cl2, vpn, vp0, le8, le16, le40, le640, le1400, le6400, lt8, lt16, le15, le2, nI_leI, nI_ltI, nI_eq, nI_1, nI_add, n_le0, n_lt0, n_0le, n_eq0, n_eq1, n_eq2, n_m1, n_m1r, Nat.reduceEqDiff, Nat.reduceAdd, Int32.add_zero, nI_pred, div16, mul15, mul40, mul16, mul640, mulr16, xu_s, xu_c, xu_k, xu_cc, rows_xu, xf_s, xf_c, rows_xf, xul_c, rows_xul, xul_L, lgc, l1, e3, n10, e20]
        refine hk (s, c) (HeapR_A hs (fun q => ⟨fun x => ⟨x.1, fun y => x.2 ⟨y.1, ?_⟩⟩, fun x => ⟨x.1, fun y => x.2 ⟨y.1, by omega⟩⟩⟩))
        have : pl q ≠ i := fun e => hD (inj q x.1 e ▸ y.1)
        omega
    · simp (disch := omega) only [forall_eq, true_and, and_true, and_self, not_true_eq_false, not_false_eq_true, false_imp_iff, true_imp_iff, imp_self, implies_true, ne_eq, reduceIte, cl, cl0, cl1, cl2, vpn, vp0, le8, le16, le40, le640, le1400, le6400, lt8, lt16, le15, le2, nI_leI, nI_ltI, nI_eq, nI_1, nI_add, n_le0, n_lt0, n_0le, n_eq0, n_eq1, n_eq2, n_m1, n_m1r, Nat.reduceEqDiff, Nat.reduceAdd, Int32.add_zero, nI_pred, div16, mul15, mul40, mul16, mul640, mulr16, xu_s, xu_c, xu_k, xu_cc, rows_xu, xf_s, xf_c, rows_xf, xul_c, rows_xul, xul_L, lgc, l1, e3, n10]
      refine hk (s, c) (HeapR_A hs (fun q => ⟨fun x => ⟨x.1, fun y => x.2 ⟨y.1, ?_⟩⟩, fun x => ⟨x.1, fun y => x.2 ⟨y.1, by omega⟩⟩⟩))
      have : pl q ≠ i := fun e => e3 (by rw [← e]; exact (hs.1 q x).1)
      omega) (by
    intro f sc hs
    obtain ⟨s, c⟩ := sc
    show b_Mem_forgetRegion_L63 (p_Mem_forgetRegion_L63 Q f) Q (nI r) (nI 640) _
    unfold b_Mem_forgetRegion_L63
    simp (disch := omega) only [forall_eq, true_and, and_true, and_self, not_true_eq_false, not_false_eq_true, false_imp_iff, true_imp_iff, imp_self, implies_true, ne_eq, reduceIte, cl, cl0, cl1, cl2, vpn, vp0, le8, le16, le40, le640, le1400, le6400, lt8, lt16, le15, le2, nI_leI, nI_ltI, nI_eq, nI_1, nI_add, n_le0, n_lt0, n_0le, n_eq0, n_eq1, n_eq2, n_m1, n_m1r, Nat.reduceEqDiff, Nat.reduceAdd, Int32.add_zero, nI_pred, div16, mul15, mul40, mul16, mul640, mulr16, xu_s, xu_c, xu_k, xu_cc, rows_xu, xf_s, xf_c, rows_xf, xul_c, rows_xul, xul_L, lgc, Nat.le_refl]
    refine h s c (HeapR_A hs (fun q => ⟨fun x => ⟨x.1, fun y => x.2 ⟨y, ?_⟩⟩, fun x => ⟨x.1, fun y => x.2 y.1⟩⟩))
    have := hb q x.1
    omega) (s := (σ 28, σ 29)) (HeapR_A hR (fun q => ⟨fun x => ⟨x, fun y => absurd y.2 (Nat.not_lt_zero _)⟩, fun x => x.1⟩))
  dsimp only [hp2] at key
  rw [hp2_0] at key
  exact key
