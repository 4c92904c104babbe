theorem e_clearKeyed {τ : xS} {s c : Nat → Int32} {A : Nat → Prop} {pl mn kd : Nat → Nat} {hd : Nat → Int32} {fs fc : Nat → Nat → Int32} {fv : Nat → Nat → Nat} {LL : Nat → Prop} (hV : Vw s c A pl mn kd hd fs fc fv) (hl : lvw A pl LL (τ 26)) (Q : xS → Prop)
    (h : ∀ s' c', HeapR s' c' A pl mn hd (zf (fun o _ => LL o ∧ kd o = 2 ∧ fs o 0 = 2 ∧ ¬ LL (fv o 0)) fs) (zf (fun o _ => LL o ∧ kd o = 2 ∧ fs o 0 = 2 ∧ ¬ LL (fv o 0)) fc) → Q (hp2 τ s' c')) : p_Col_clearKeyedFields (hp2 τ s c) Q := by
  unfold p_Col_clearKeyedFields
  refine lpS (S := (Nat → Int32) × (Nat → Int32)) (fun g i x => p_Col_clearKeyedFields_L2 Q g (nI i) (hp2 τ x.1 x.2)) (fun i x => HeapR x.1 x.2 A pl mn hd (zf (fun o _ => pl o < i ∧ (LL o ∧ kd o = 2 ∧ fs o 0 = 2 ∧ ¬ LL (fv o 0))) fs) (zf (fun o _ => pl o < i ∧ (LL o ∧ kd o = 2 ∧ fs o 0 = 2 ∧ ¬ LL (fv o 0))) fc)) 640 ?_ ?_ (s := (s, c)) (HeapR_c hV.1 (fun o i _ _ => ⟨zf_n (fun x => absurd x.1 (Nat.not_lt_zero _)), zf_n (fun x => absurd x.1 (Nat.not_lt_zero _))⟩))
  · rintro g i ⟨s1, c1⟩ hi hs hk
    dsimp only at hs hk ⊢
    show b_Col_clearKeyedFields_L2 (p_Col_clearKeyedFields_L2 Q g) Q (nI i) _
    unfold b_Col_clearKeyedFields_L2 p_Col_isLiveOf p_Mar_isLive p_Hea_kindOf
    have l1' : ¬ 640 ≤ i := by omega
    rcases hl i hi with ⟨e, hno⟩ | ⟨e, u, u1, u2, u3⟩
    · have e' := e_narl (Or.inl e)
      simp (disch := omega) only [forall_eq, true_and, and_true, and_self, not_true_eq_false, not_false_eq_true, false_imp_iff, true_imp_iff, imp_self, implies_true, ne_eq, reduceIte, cl, cl0, cl1, cl2, vpn, vp0, le8, le16, le40, le640, le1400, le6400, lt8, lt16, le15, le2, nI_leI, nI_ltI, nI_eq, nI_1, nI_add, n_le0, n_lt0, n_0le, n_eq0, n_eq1, n_eq2, n_m1, n_m1r, Nat.reduceEqDiff, Nat.reduceAdd, Int32.add_zero, nI_pred, div16, mul15, mul40, mul16, mul640, mulr16, xu_s, xu_c, xu_k, xu_cc, rows_xu, xf_s, xf_c, rows_xf, xul_c, rows_xul, xul_L, lgc, l1', e] at e' ⊢
      simp (disch := omega) only [forall_eq, true_and, and_true, and_self, not_true_eq_false, not_false_eq_true, false_imp_iff, true_imp_iff, imp_self, implies_true, ne_eq, reduceIte, cl, cl0, cl1, cl2, vpn, vp0, le8, le16, le40, le640, le1400, le6400, lt8, lt16, le15, le2, nI_leI, nI_ltI, nI_eq, nI_1, nI_add, n_le0, n_lt0, n_0le, n_eq0, n_eq1, n_eq2, n_m1, n_m1r, Nat.reduceEqDiff, Nat.reduceAdd, Int32.add_zero, nI_pred, div16, mul15, mul40, mul16, mul640, mulr16, xu_s, xu_c, xu_k, xu_cc, rows_xu, xf_s, xf_c, rows_xf, xul_c, rows_xul, xul_L, lgc, e']
      refine hk (s1, c1) (HeapR_zi hs (fun o j ho hj => ⟨fun x => ⟨?_, x.2⟩, fun x => ⟨by omega, x.2⟩⟩))
      have : pl o ≠ i := fun eo => hno o ho eo x.2.1
      omega
    · have e' := e_narl (Or.inr e)
      obtain ⟨a1, a2, a3, a4, a5, a6, a7, a8⟩ := Vw_o hV u1
      have a7' : c1 i >>> (14 &&& 31) = nI (kd u) := by rw [← u2, (hs.1 u u1).2]; exact (hV.2.2.1 u u1).2.2.2.2.1
      have a6' : c1 i &&& 15 = nI (mn u) := by rw [← u2, (hs.1 u u1).2]; exact (hV.2.2.1 u u1).2.2.2.1
      have uq : ∀ q, A q → pl q = i → q = u := fun q hq eq => Vw_i hV q u hq u1 (by rw [eq, u2])
      by_cases hk2 : kd u = 2
      · have hm0 := a8 hk2
        have hc := hs.2.1 u 0 u1 hm0
        rw [zf_n (by rintro ⟨x, _⟩; omega), zf_n (by rintro ⟨x, _⟩; omega), u2] at hc
        have hf := hV.2.2.2 u 0 u1 hm0
        unfold p_Mar_refersToDead p_Val_isReference_19 p_Val_contentOf_19 p_Hea_clearFields p_Hea_fieldsOf
        have keep : ¬ (LL u ∧ kd u = 2 ∧ fs u 0 = 2 ∧ ¬ LL (fv u 0)) → p_Col_clearKeyedFields_L2 Q g (nI (i + 1)) (hp2 τ s1 c1) := fun hz => by
          refine hk (s1, c1) (HeapR_zi hs (fun o j ho hj => ⟨fun x => ⟨?_, x.2⟩, fun x => ⟨by omega, x.2⟩⟩))
          have : pl o ≠ i := fun eo => by
            have x2 := x.2
            rw [uq o ho eo] at x2
            exact hz x2
          omega
        by_cases e2 : fs u 0 = 2
        · obtain ⟨f3, f4⟩ := hf.2 e2
          have hp := (Vw_o hV f3).1
          rw [e2, f4] at hc
          rcases hl (pl (fv u 0)) hp with ⟨x, x'⟩ | ⟨x, w, w1, w2, w3⟩
          · simp (disch := omega) only [forall_eq, true_and, and_true, and_self, not_true_eq_false, not_false_eq_true, false_imp_iff, true_imp_iff, imp_self, implies_true, ne_eq, reduceIte, cl, cl0, cl1, cl2, vpn, vp0, le8, le16, le40, le640, le1400, le6400, lt8, lt16, le15, le2, nI_leI, nI_ltI, nI_eq, nI_1, nI_add, n_le0, n_lt0, n_0le, n_eq0, n_eq1, n_eq2, n_m1, n_m1r, Nat.reduceEqDiff, Nat.reduceAdd, Int32.add_zero, nI_pred, div16, mul15, mul40, mul16, mul640, mulr16, xu_s, xu_c, xu_k, xu_cc, rows_xu, xf_s, xf_c, rows_xf, xul_c, rows_xul, xul_L, lgc, l1', e, n10, a7', hk2] at e' ⊢
            simp (disch := omega) only [forall_eq, true_and, and_true, and_self, not_true_eq_false, not_false_eq_true, false_imp_iff, true_imp_iff, imp_self, implies_true, ne_eq, reduceIte, cl, cl0, cl1, cl2, vpn, vp0, le8, le16, le40, le640, le1400, le6400, lt8, lt16, le15, le2, nI_leI, nI_ltI, nI_eq, nI_1, nI_add, n_le0, n_lt0, n_0le, n_eq0, n_eq1, n_eq2, n_m1, n_m1r, Nat.reduceEqDiff, Nat.reduceAdd, Int32.add_zero, nI_pred, div16, mul15, mul40, mul16, mul640, mulr16, xu_s, xu_c, xu_k, xu_cc, rows_xu, xf_s, xf_c, rows_xf, xul_c, rows_xul, xul_L, lgc, e', n10, hc.1, hc.2, x, a6']
            refine lpS (S := (Nat → Int32) × (Nat → Int32)) (fun f j x => p_Hea_clearFields_L8 (p_Col_clearKeyedFields_L2 Q g (nI (i + 1))) f (nI i) (nI (mn u)) (nI j) (hp2 τ x.1 x.2)) (fun k x => HeapR x.1 x.2 A pl mn hd (zf (fun o j => (pl o < i ∨ o = u ∧ j < k) ∧ (LL o ∧ kd o = 2 ∧ fs o 0 = 2 ∧ ¬ LL (fv o 0))) fs) (zf (fun o j => (pl o < i ∨ o = u ∧ j < k) ∧ (LL o ∧ kd o = 2 ∧ fs o 0 = 2 ∧ ¬ LL (fv o 0))) fc)) (mn u) ?_ ?_ (s := (s1, c1)) (HeapR_zi hs (fun o j _ _ => ⟨fun x => ⟨x.1.elim id (fun y => absurd y.2 (Nat.not_lt_zero _)), x.2⟩, fun x => ⟨Or.inl x.1, x.2⟩⟩))
            · rintro f k ⟨s2, c2⟩ hk' hs2 hk3
              dsimp only at hs2 hk3 ⊢
              show b_Hea_clearFields_L8 (p_Hea_clearFields_L8 (p_Col_clearKeyedFields_L2 Q g (nI (i + 1))) f) (p_Col_clearKeyedFields_L2 Q g (nI (i + 1))) (nI i) (nI (mn u)) (nI k) _
              unfold b_Hea_clearFields_L8 p_Val_setNil_19 p_Val_assign_19
              have l2' : ¬ mn u ≤ k := by omega
              simp (disch := omega) only [forall_eq, true_and, and_true, and_self, not_true_eq_false, not_false_eq_true, false_imp_iff, true_imp_iff, imp_self, implies_true, ne_eq, reduceIte, cl, cl0, cl1, cl2, vpn, vp0, le8, le16, le40, le640, le1400, le6400, lt8, lt16, le15, le2, nI_leI, nI_ltI, nI_eq, nI_1, nI_add, n_le0, n_lt0, n_0le, n_eq0, n_eq1, n_eq2, n_m1, n_m1r, Nat.reduceEqDiff, Nat.reduceAdd, Int32.add_zero, nI_pred, div16, mul15, mul40, mul16, mul640, mulr16, xu_s, xu_c, xu_k, xu_cc, rows_xu, xf_s, xf_c, rows_xf, xul_c, rows_xul, xul_L, lgc, l2', hp2_s, xu_xf]
              refine hk3 (_, _) ?_
              have := HeapR_z hs2 hV.2.1 u1 hk' (Y' := fun o j => (pl o < i ∨ o = u ∧ j < k + 1) ∧ (LL o ∧ kd o = 2 ∧ fs o 0 = 2 ∧ ¬ LL (fv o 0))) (fun o j ho hj => ?_)
              · rw [u2] at this; exact this
              · constructor
                · rintro ⟨y | y, y'⟩
                  · exact Or.inl ⟨Or.inl y, y'⟩
                  · by_cases ej : j = k
                    · exact Or.inr ⟨y.1, ej⟩
                    · exact Or.inl ⟨Or.inr ⟨y.1, by omega⟩, y'⟩
                · rintro (y | ⟨y, y'⟩)
                  · exact ⟨y.1.imp id (fun z => ⟨z.1, by omega⟩), y.2⟩
                  · rw [y, y']; exact ⟨Or.inr ⟨rfl, by omega⟩, u3, hk2, e2, x' _ f3 rfl⟩
            · rintro f ⟨s2, c2⟩ hs2
              dsimp only at hs2 ⊢
              show b_Hea_clearFields_L8 (p_Hea_clearFields_L8 (p_Col_clearKeyedFields_L2 Q g (nI (i + 1))) f) (p_Col_clearKeyedFields_L2 Q g (nI (i + 1))) (nI i) (nI (mn u)) (nI (mn u)) _
              unfold b_Hea_clearFields_L8
              simp (disch := omega) only [forall_eq, true_and, and_true, and_self, not_true_eq_false, not_false_eq_true, false_imp_iff, true_imp_iff, imp_self, implies_true, ne_eq, reduceIte, cl, cl0, cl1, cl2, vpn, vp0, le8, le16, le40, le640, le1400, le6400, lt8, lt16, le15, le2, nI_leI, nI_ltI, nI_eq, nI_1, nI_add, n_le0, n_lt0, n_0le, n_eq0, n_eq1, n_eq2, n_m1, n_m1r, Nat.reduceEqDiff, Nat.reduceAdd, Int32.add_zero, nI_pred, div16, mul15, mul40, mul16, mul640, mulr16, xu_s, xu_c, xu_k, xu_cc, rows_xu, xf_s, xf_c, rows_xf, xul_c, rows_xul, xul_L, lgc, Nat.le_refl]
              refine hk (s2, c2) (HeapR_zi hs2 (fun o j ho hj => ⟨fun x => ⟨?_, x.2⟩, ?_⟩))
              · by_cases eo : pl o = i
                · exact Or.inr ⟨uq o ho eo, by rw [← uq o ho eo]; exact hj⟩
                · exact Or.inl (by omega)
              · rintro ⟨y | y, y'⟩
                · exact ⟨by omega, y'⟩
                · exact ⟨by rw [y.1, u2]; omega, y'⟩
          · simp (disch := omega) only [forall_eq, true_and, and_true, and_self, not_true_eq_false, not_false_eq_true, false_imp_iff, true_imp_iff, imp_self, implies_true, ne_eq, reduceIte, cl, cl0, cl1, cl2, vpn, vp0, le8, le16, le40, le640, le1400, le6400, lt8, lt16, le15, le2, nI_leI, nI_ltI, nI_eq, nI_1, nI_add, n_le0, n_lt0, n_0le, n_eq0, n_eq1, n_eq2, n_m1, n_m1r, Nat.reduceEqDiff, Nat.reduceAdd, Int32.add_zero, nI_pred, div16, mul15, mul40, mul16, mul640, mulr16, xu_s, xu_c, xu_k, xu_cc, rows_xu, xf_s, xf_c, rows_xf, xul_c, rows_xul, xul_L, lgc, l1', e, n10, a7', hk2] at e' ⊢
            simp (disch := omega) only [forall_eq, true_and, and_true, and_self, not_true_eq_false, not_false_eq_true, false_imp_iff, true_imp_iff, imp_self, implies_true, ne_eq, reduceIte, cl, cl0, cl1, cl2, vpn, vp0, le8, le16, le40, le640, le1400, le6400, lt8, lt16, le15, le2, nI_leI, nI_ltI, nI_eq, nI_1, nI_add, n_le0, n_lt0, n_0le, n_eq0, n_eq1, n_eq2, n_m1, n_m1r, Nat.reduceEqDiff, Nat.reduceAdd, Int32.add_zero, nI_pred, div16, mul15, mul40, mul16, mul640, mulr16, xu_s, xu_c, xu_k, xu_cc, rows_xu, xf_s, xf_c, rows_xf, xul_c, rows_xul, xul_L, lgc, e', n10, hc.1, hc.2, x]
            exact keep (fun y => y.2.2.2 (Vw_i hV w _ w1 f3 w2 ▸ w3))
        · simp (disch := omega) only [forall_eq, true_and, and_true, and_self, not_true_eq_false, not_false_eq_true, false_imp_iff, true_imp_iff, imp_self, implies_true, ne_eq, reduceIte, cl, cl0, cl1, cl2, vpn, vp0, le8, le16, le40, le640, le1400, le6400, lt8, lt16, le15, le2, nI_leI, nI_ltI, nI_eq, nI_1, nI_add, n_le0, n_lt0, n_0le, n_eq0, n_eq1, n_eq2, n_m1, n_m1r, Nat.reduceEqDiff, Nat.reduceAdd, Int32.add_zero, nI_pred, div16, mul15, mul40, mul16, mul640, mulr16, xu_s, xu_c, xu_k, xu_cc, rows_xu, xf_s, xf_c, rows_xf, xul_c, rows_xul, xul_L, lgc, l1', e, n10, a7', hk2] at e' ⊢
          simp (disch := omega) only [forall_eq, true_and, and_true, and_self, not_true_eq_false, not_false_eq_true, false_imp_iff, true_imp_iff, imp_self, implies_true, ne_eq, reduceIte, cl, cl0, cl1, cl2, vpn, vp0, le8, le16, le40, le640, le1400, le6400, lt8, lt16, le15, le2, nI_leI, nI_ltI, nI_eq, nI_1, nI_add, n_le0, n_lt0, n_0le, n_eq0, n_eq1, n_eq2, n_m1, n_m1r, Nat.reduceEqDiff, Nat.reduceAdd, Int32.add_zero, nI_pred, div16, mul15, mul40, mul16, mul640, mulr16, xu_s, xu_c, xu_k, xu_cc, rows_xu, xf_s, xf_c, rows_xf, xul_c, rows_xul, xul_L, lgc, e', n10, hc.1, e2]
          exact keep (fun y => e2 y.2.2.1)
      · have hk2' : ¬ nI (kd u) = 2 := by rw [n_eq2 (by omega)]; exact hk2
        simp (disch := omega) only [forall_eq, true_and, and_true, and_self, not_true_eq_false, not_false_eq_true, false_imp_iff, true_imp_iff, imp_self, implies_true, ne_eq, reduceIte, cl, cl0, cl1, cl2, vpn, vp0, le8, le16, le40, le640, le1400, le6400, lt8, lt16, le15, le2, nI_leI, nI_ltI, nI_eq, nI_1, nI_add, n_le0, n_lt0, n_0le, n_eq0, n_eq1, n_eq2, n_m1, n_m1r, Nat.reduceEqDiff, Nat.reduceAdd, Int32.add_zero, nI_pred, div16, mul15, mul40, mul16, mul640, mulr16, xu_s, xu_c, xu_k, xu_cc, rows_xu, xf_s, xf_c, rows_xf, xul_c, rows_xul, xul_L, lgc, l1', e, n10, a7', hk2'] at e' ⊢
        simp (disch := omega) only [forall_eq, true_and, and_true, and_self, not_true_eq_false, not_false_eq_true, false_imp_iff, true_imp_iff, imp_self, implies_true, ne_eq, reduceIte, cl, cl0, cl1, cl2, vpn, vp0, le8, le16, le40, le640, le1400, le6400, lt8, lt16, le15, le2, nI_leI, nI_ltI, nI_eq, nI_1, nI_add, n_le0, n_lt0, n_0le, n_eq0, n_eq1, n_eq2, n_m1, n_m1r, Nat.reduceEqDiff, Nat.reduceAdd, Int32.add_zero, nI_pred, div16, mul15, mul40, mul16, mul640, mulr16, xu_s, xu_c, xu_k, xu_cc, rows_xu, xf_s, xf_c, rows_xf, xul_c, rows_xul, xul_L, lgc, e', n10]
        refine hk (s1, c1) (HeapR_zi hs (fun o j ho hj => ⟨fun x => ⟨?_, x.2⟩, fun x => ⟨by omega, x.2⟩⟩))
        have : pl o ≠ i := fun eo => hk2 (by rw [← uq o ho eo]; exact x.2.2.1)
        omega
  · rintro g ⟨s1, c1⟩ hs
    show b_Col_clearKeyedFields_L2 (p_Col_clearKeyedFields_L2 Q g) Q (nI 640) _
    unfold b_Col_clearKeyedFields_L2
    simp (disch := omega) only [forall_eq, true_and, and_true, and_self, not_true_eq_false, not_false_eq_true, false_imp_iff, true_imp_iff, imp_self, implies_true, ne_eq, reduceIte, cl, cl0, cl1, cl2, vpn, vp0, le8, le16, le40, le640, le1400, le6400, lt8, lt16, le15, le2, nI_leI, nI_ltI, nI_eq, nI_1, nI_add, n_le0, n_lt0, n_0le, n_eq0, n_eq1, n_eq2, n_m1, n_m1r, Nat.reduceEqDiff, Nat.reduceAdd, Int32.add_zero, nI_pred, div16, mul15, mul40, mul16, mul640, mulr16, xu_s, xu_c, xu_k, xu_cc, rows_xu, xf_s, xf_c, rows_xf, xul_c, rows_xul, xul_L, lgc, Nat.le_refl]
    refine h s1 c1 (HeapR_zi hs (fun o j ho hj => ⟨fun x => ⟨?_, x⟩, fun x => x.2⟩))
    exact (Vw_o hV ho).1
def Rt (K M G S V : Nat → Int32) (mn g : Nat → Nat) : Prop := ∀ o, iA K o → M o = nI (mn o) ∧ mn o < 16 ∧ G o = nI (g o) ∧ g o < 8 ∧ ∀ i, i < mn o → S (15 * o + i) = 2 → ∃ u, u < 640 ∧ V (15 * o + i) = nI u
def fZ (K l S V : Nat → Int32) (mn g : Nat → Nat) (r n : Nat) : Prop := iA K (n / 15) ∧ r ≤ g (n / 15) ∧ ¬ l (n / 15) = 0 ∧ K (n / 15) = 1 ∧ n % 15 < mn (n / 15) ∧ S n = 2 ∧ l ((V n).toNatClampNeg) = 0
theorem e_young {σ : xS} {mn g : Nat → Nat} (hT : Rt (σ 40) (σ 42) (σ 43) (σ 46) (σ 47) mn g) {τ : xS} (h40 : τ 40 = σ 40) (h43 : τ 43 = σ 43) {o r : Nat} (ho : o < 640) (hr : r < 8) (Q : Int32 → xS → Prop) (hy : iA (σ 40) o → r ≤ g o → Q 1 τ) (hn : ¬ (iA (σ 40) o ∧ r ≤ g o) → Q 0 τ) : p_Mod_isYoung (nI o) (nI r) τ Q := by
  unfold p_Mod_isYoung
  by_cases e : σ 40 o = -1
  · simp (disch := omega) only [forall_eq, true_and, and_true, and_self, not_true_eq_false, not_false_eq_true, false_imp_iff, true_imp_iff, imp_self, implies_true, ne_eq, reduceIte, cl, cl0, cl1, cl2, vpn, vp0, le8, le16, le40, le640, le1400, le6400, lt8, lt16, le15, le2, nI_leI, nI_ltI, nI_eq, nI_1, nI_add, n_le0, n_lt0, n_0le, n_eq0, n_eq1, n_eq2, n_m1, n_m1r, Nat.reduceEqDiff, Nat.reduceAdd, Int32.add_zero, nI_pred, div16, mul15, mul40, mul16, mul640, mulr16, xu_s, xu_c, xu_k, xu_cc, rows_xu, xf_s, xf_c, rows_xf, xul_c, rows_xul, xul_L, lgc, h40, e]
    exact hn (fun x => x.1.2 e)
  · obtain ⟨t1, t2, t3, t4, _⟩ := hT o ⟨ho, e⟩
    by_cases hg : r ≤ g o
    · have hg' : ¬ g o < r := by omega
      simp (disch := omega) only [forall_eq, true_and, and_true, and_self, not_true_eq_false, not_false_eq_true, false_imp_iff, true_imp_iff, imp_self, implies_true, ne_eq, reduceIte, cl, cl0, cl1, cl2, vpn, vp0, le8, le16, le40, le640, le1400, le6400, lt8, lt16, le15, le2, nI_leI, nI_ltI, nI_eq, nI_1, nI_add, n_le0, n_lt0, n_0le, n_eq0, n_eq1, n_eq2, n_m1, n_m1r, Nat.reduceEqDiff, Nat.reduceAdd, Int32.add_zero, nI_pred, div16, mul15, mul40, mul16, mul640, mulr16, xu_s, xu_c, xu_k, xu_cc, rows_xu, xf_s, xf_c, rows_xf, xul_c, rows_xul, xul_L, lgc, h40, e, h43, t3, hg']
      exact hy ⟨ho, e⟩ hg
    · have hg' : g o < r := by omega
      simp (disch := omega) only [forall_eq, true_and, and_true, and_self, not_true_eq_false, not_false_eq_true, false_imp_iff, true_imp_iff, imp_self, implies_true, ne_eq, reduceIte, cl, cl0, cl1, cl2, vpn, vp0, le8, le16, le40, le640, le1400, le6400, lt8, lt16, le15, le2, nI_leI, nI_ltI, nI_eq, nI_1, nI_add, n_le0, n_lt0, n_0le, n_eq0, n_eq1, n_eq2, n_m1, n_m1r, Nat.reduceEqDiff, Nat.reduceAdd, Int32.add_zero, nI_pred, div16, mul15, mul40, mul16, mul640, mulr16, xu_s, xu_c, xu_k, xu_cc, rows_xu, xf_s, xf_c, rows_xf, xul_c, rows_xul, xul_L, lgc, h40, e, h43, t3, hg']
      exact hn (fun x => hg x.2)
theorem d15 {o i : Nat} (hi : i < 15) : (15 * o + i) / 15 = o ∧ (15 * o + i) % 15 = i := by omega
theorem e_forget {σ : xS} {mn g : Nat → Nat} {r : Nat} (hr : r < 8) (hT : Rt (σ 40) (σ 42) (σ 43) (σ 46) (σ 47) mn g) (Q : xS → Prop) (h : Q (va_up (va_up σ 46 (zc (fZ (σ 40) (σ 48) (σ 46) (σ 47) mn g r) (σ 46))) 47 (zc (fZ (σ 40) (σ 48) (σ 46) (σ 47) mn g r) (σ 47)))) : p_Mod_forget (nI r) σ Q := by
  unfold p_Mod_forget
  obtain ⟨Z, eZ⟩ : ∃ Z, fZ (σ 40) (σ 48) (σ 46) (σ 47) mn g r = Z := ⟨_, rfl⟩
  have hZ : ∀ n, Z n ↔ fZ (σ 40) (σ 48) (σ 46) (σ 47) mn g r n := fun n => by rw [eZ]
  rw [eZ] at h
  have key := lpF (fun f i => p_Mod_forget_L2 Q f (nI r) (nI i) (va_up (va_up σ 46 (zc (fun n => n < 15 * i ∧ Z n) (σ 46))) 47 (zc (fun n => n < 15 * i ∧ Z n) (σ 47)))) 640 (by
    intro f o ho hk
    show b_Mod_forget_L2 (p_Mod_forget_L2 Q f) Q (nI r) (nI o) _
    unfold b_Mod_forget_L2
    have l1' : ¬ 640 ≤ o := by omega
    simp (disch := omega) only [forall_eq, true_and, and_true, and_self, not_true_eq_false, not_false_eq_true, false_imp_iff, true_imp_iff, imp_self, implies_true, ne_eq, reduceIte, cl, cl0, cl1, cl2, vpn, vp0, le8, le16, le40, le640, le1400, le6400, lt8, lt16, le15, le2, nI_leI, nI_ltI, nI_eq, nI_1, nI_add, n_le0, n_lt0, n_0le, n_eq0, n_eq1, n_eq2, n_m1, n_m1r, Nat.reduceEqDiff, Nat.reduceAdd, Int32.add_zero, nI_pred, div16, mul15, mul40, mul16, mul640, mulr16, xu_s, xu_c, xu_k, xu_cc, rows_xu, xf_s, xf_c, rows_xf, xul_c, rows_xul, xul_L, lgc, l1']
    have skip : (∀ i, i < 15 → ¬ Z (15 * o + i)) → p_Mod_forget_L2 Q f (nI r) (nI (o + 1)) (va_up (va_up σ 46 (zc (fun n => n < 15 * o ∧ Z n) (σ 46))) 47 (zc (fun n => n < 15 * o ∧ Z n) (σ 47))) := fun hs => by
      have e : ∀ n, (n < 15 * o ∧ Z n) ↔ (n < 15 * (o + 1) ∧ Z n) := fun n => ⟨fun x => ⟨by omega, x.2⟩, fun x => ⟨by
        have : ¬ (15 * o ≤ n) := fun y => by
          have := hs (n - 15 * o) (by omega)
          rw [show 15 * o + (n - 15 * o) = n by omega] at this
          exact this x.2
        omega, x.2⟩⟩
      rw [zc_iff e, zc_iff e]; exact hk
    by_cases hw : iA (σ 40) o ∧ r ≤ g o ∧ ¬ σ 48 o = 0 ∧ σ 40 o = 1
    · obtain ⟨w1, w2, w3, w4⟩ := hw
      obtain ⟨t1, t2, t3, t4, t5⟩ := hT o w1
      refine lpF (fun f' i => p_Mod_forget_L11 (p_Mod_forget_L2 Q f) Q f' (nI r) (nI o) (nI i) (va_up (va_up σ 46 (zc (fun n => n < 15 * o + i ∧ Z n) (σ 46))) 47 (zc (fun n => n < 15 * o + i ∧ Z n) (σ 47)))) (mn o) ?_ ?_
      · intro f' i hi hk'
        show b_Mod_forget_L11 (p_Mod_forget_L2 Q f) (p_Mod_forget_L11 (p_Mod_forget_L2 Q f) Q f') Q (nI r) (nI o) (nI i) _
        unfold b_Mod_forget_L11
        refine e_young hT (by simp (disch := omega) only [forall_eq, true_and, and_true, and_self, not_true_eq_false, not_false_eq_true, false_imp_iff, true_imp_iff, imp_self, implies_true, ne_eq, reduceIte, cl, cl0, cl1, cl2, vpn, vp0, le8, le16, le40, le640, le1400, le6400, lt8, lt16, le15, le2, nI_leI, nI_ltI, nI_eq, nI_1, nI_add, n_le0, n_lt0, n_0le, n_eq0, n_eq1, n_eq2, n_m1, n_m1r, Nat.reduceEqDiff, Nat.reduceAdd, Int32.add_zero, nI_pred, div16, mul15, mul40, mul16, mul640, mulr16, xu_s, xu_c, xu_k, xu_cc, rows_xu, xf_s, xf_c, rows_xf, xul_c, rows_xul, xul_L, lgc]) (by simp (disch := omega) only [forall_eq, true_and, and_true, and_self, not_true_eq_false, not_false_eq_true, false_imp_iff, true_imp_iff, imp_self, implies_true, ne_eq, reduceIte, cl, cl0, cl1, cl2, vpn, vp0, le8, le16, le40, le640, le1400, le6400, lt8, lt16, le15, le2, nI_leI, nI_ltI, nI_eq, nI_1, nI_add, n_le0, n_lt0, n_0le, n_eq0, n_eq1, n_eq2, n_m1, n_m1r, Nat.reduceEqDiff, Nat.reduceAdd, Int32.add_zero, nI_pred, div16, mul15, mul40, mul16, mul640, mulr16, xu_s, xu_c, xu_k, xu_cc, rows_xu, xf_s, xf_c, rows_xf, xul_c, rows_xul, xul_L, lgc]) ho hr _ (fun y1 y2 => ?_) (fun y => absurd ⟨w1, w2⟩ y)
        have l2' : ¬ mn o ≤ i := by omega
        have r1 : zc (fun n => n < 15 * o + i ∧ Z n) (σ 46) (15 * o + i) = σ 46 (15 * o + i) := zc_n (fun x => by omega)
        have r2 : zc (fun n => n < 15 * o + i ∧ Z n) (σ 47) (15 * o + i) = σ 47 (15 * o + i) := zc_n (fun x => by omega)
        obtain ⟨d1, d2⟩ := d15 (o := o) (show i < 15 by omega)
        have no : ¬ Z (15 * o + i) → p_Mod_forget_L11 (p_Mod_forget_L2 Q f) Q f' (nI r) (nI o) (nI (i + 1)) (va_up (va_up σ 46 (zc (fun n => n < 15 * o + i ∧ Z n) (σ 46))) 47 (zc (fun n => n < 15 * o + i ∧ Z n) (σ 47))) := fun hz => by
          have e : ∀ n, (n < 15 * o + i ∧ Z n) ↔ (n < 15 * o + (i + 1) ∧ Z n) := fun n => ⟨fun x => ⟨by omega, x.2⟩, fun x => ⟨by
            have : n ≠ 15 * o + i := fun y => hz (y ▸ x.2)
            omega, x.2⟩⟩
          rw [zc_iff e, zc_iff e]; exact hk'
        unfold p_Mod_isLive p_Mod_empty
        by_cases e2 : σ 46 (15 * o + i) = 2
        · obtain ⟨u, u1, u2⟩ := t5 i hi e2
          by_cases hl : σ 48 u = 0
          · have hz : Z (15 * o + i) := by
              rw [hZ]
              unfold fZ
              rw [d1, d2]
              exact ⟨w1, w2, w3, w4, hi, e2, by rw [u2, cl (by omega)]; exact hl⟩
            have e : ∀ n, (n < 15 * o + (i + 1) ∧ Z n) ↔ (n < 15 * o + i ∧ Z n) ∨ n = 15 * o + i := fun n => ⟨fun x => by
              by_cases y : n = 15 * o + i
              · exact Or.inr y
              · exact Or.inl ⟨by omega, x.2⟩, fun x => x.elim (fun y => ⟨by omega, y.2⟩) (fun y => ⟨by omega, y ▸ hz⟩)⟩
            rw [← zc_u e, ← zc_u e] at hk'
            simp (disch := omega) only [forall_eq, true_and, and_true, and_self, not_true_eq_false, not_false_eq_true, false_imp_iff, true_imp_iff, imp_self, implies_true, ne_eq, reduceIte, cl, cl0, cl1, cl2, vpn, vp0, le8, le16, le40, le640, le1400, le6400, lt8, lt16, le15, le2, nI_leI, nI_ltI, nI_eq, nI_1, nI_add, n_le0, n_lt0, n_0le, n_eq0, n_eq1, n_eq2, n_m1, n_m1r, Nat.reduceEqDiff, Nat.reduceAdd, Int32.add_zero, nI_pred, div16, mul15, mul40, mul16, mul640, mulr16, xu_s, xu_c, xu_k, xu_cc, rows_xu, xf_s, xf_c, rows_xf, xul_c, rows_xul, xul_L, lgc, n10, w3, w4, t1, l2', r1, r2, e2, u2, hl, up2_s, xu_xf]
            exact hk'
          · simp (disch := omega) only [forall_eq, true_and, and_true, and_self, not_true_eq_false, not_false_eq_true, false_imp_iff, true_imp_iff, imp_self, implies_true, ne_eq, reduceIte, cl, cl0, cl1, cl2, vpn, vp0, le8, le16, le40, le640, le1400, le6400, lt8, lt16, le15, le2, nI_leI, nI_ltI, nI_eq, nI_1, nI_add, n_le0, n_lt0, n_0le, n_eq0, n_eq1, n_eq2, n_m1, n_m1r, Nat.reduceEqDiff, Nat.reduceAdd, Int32.add_zero, nI_pred, div16, mul15, mul40, mul16, mul640, mulr16, xu_s, xu_c, xu_k, xu_cc, rows_xu, xf_s, xf_c, rows_xf, xul_c, rows_xul, xul_L, lgc, n10, w3, w4, t1, l2', r1, r2, e2, u2, hl]
            refine no (fun hz => ?_)
            rw [hZ] at hz
            unfold fZ at hz
            rw [u2, cl (by omega)] at hz
            exact hl hz.2.2.2.2.2.2
        · simp (disch := omega) only [forall_eq, true_and, and_true, and_self, not_true_eq_false, not_false_eq_true, false_imp_iff, true_imp_iff, imp_self, implies_true, ne_eq, reduceIte, cl, cl0, cl1, cl2, vpn, vp0, le8, le16, le40, le640, le1400, le6400, lt8, lt16, le15, le2, nI_leI, nI_ltI, nI_eq, nI_1, nI_add, n_le0, n_lt0, n_0le, n_eq0, n_eq1, n_eq2, n_m1, n_m1r, Nat.reduceEqDiff, Nat.reduceAdd, Int32.add_zero, nI_pred, div16, mul15, mul40, mul16, mul640, mulr16, xu_s, xu_c, xu_k, xu_cc, rows_xu, xf_s, xf_c, rows_xf, xul_c, rows_xul, xul_L, lgc, n10, w3, w4, t1, l2', r1, e2]
          refine no (fun hz => ?_)
          rw [hZ] at hz
          exact e2 hz.2.2.2.2.2.1
      · intro f'
        show b_Mod_forget_L11 (p_Mod_forget_L2 Q f) (p_Mod_forget_L11 (p_Mod_forget_L2 Q f) Q f') Q (nI r) (nI o) (nI (mn o)) _
        unfold b_Mod_forget_L11
        refine e_young hT (by simp (disch := omega) only [forall_eq, true_and, and_true, and_self, not_true_eq_false, not_false_eq_true, false_imp_iff, true_imp_iff, imp_self, implies_true, ne_eq, reduceIte, cl, cl0, cl1, cl2, vpn, vp0, le8, le16, le40, le640, le1400, le6400, lt8, lt16, le15, le2, nI_leI, nI_ltI, nI_eq, nI_1, nI_add, n_le0, n_lt0, n_0le, n_eq0, n_eq1, n_eq2, n_m1, n_m1r, Nat.reduceEqDiff, Nat.reduceAdd, Int32.add_zero, nI_pred, div16, mul15, mul40, mul16, mul640, mulr16, xu_s, xu_c, xu_k, xu_cc, rows_xu, xf_s, xf_c, rows_xf, xul_c, rows_xul, xul_L, lgc]) (by simp (disch := omega) only [forall_eq, true_and, and_true, and_self, not_true_eq_false, not_false_eq_true, false_imp_iff, true_imp_iff, imp_self, implies_true, ne_eq, reduceIte, cl, cl0, cl1, cl2, vpn, vp0, le8, le16, le40, le640, le1400, le6400, lt8, lt16, le15, le2, nI_leI, nI_ltI, nI_eq, nI_1, nI_add, n_le0, n_lt0, n_0le, n_eq0, n_eq1, n_eq2, n_m1, n_m1r, Nat.reduceEqDiff, Nat.reduceAdd, Int32.add_zero, nI_pred, div16, mul15, mul40, mul16, mul640, mulr16, xu_s, xu_c, xu_k, xu_cc, rows_xu, xf_s, xf_c, rows_xf, xul_c, rows_xul, xul_L, lgc]) ho hr _ (fun y1 y2 => ?_) (fun y => absurd ⟨w1, w2⟩ y)
        simp (disch := omega) only [forall_eq, true_and, and_true, and_self, not_true_eq_false, not_false_eq_true, false_imp_iff, true_imp_iff, imp_self, implies_true, ne_eq, reduceIte, cl, cl0, cl1, cl2, vpn, vp0, le8, le16, le40, le640, le1400, le6400, lt8, lt16, le15, le2, nI_leI, nI_ltI, nI_eq, nI_1, nI_add, n_le0, n_lt0, n_0le, n_eq0, n_eq1, n_eq2, n_m1, n_m1r, Nat.reduceEqDiff, Nat.reduceAdd, Int32.add_zero, nI_pred, div16, mul15, mul40, mul16, mul640, mulr16, xu_s, xu_c, xu_k, xu_cc, rows_xu, xf_s, xf_c, rows_xf, xul_c, rows_xul, xul_L, lgc, n10, w3, w4, t1, Nat.le_refl]
        have e : ∀ n, (n < 15 * o + mn o ∧ Z n) ↔ (n < 15 * (o + 1) ∧ Z n) := fun n => ⟨fun x => ⟨by omega, x.2⟩, fun x => ⟨by
          by_cases y : 15 * o ≤ n
          · have z := x.2
            rw [hZ] at z
            unfold fZ at z
            have : n / 15 = o := by omega
            rw [this] at z
            omega
          · omega, x.2⟩⟩
        rw [zc_iff e, zc_iff e]; exact hk
    · refine ⟨1, ?_⟩
      show b_Mod_forget_L11 (p_Mod_forget_L2 Q f) (p_Mod_forget_L11 (p_Mod_forget_L2 Q f) Q 0) Q (nI r) (nI o) (nI 0) _
      unfold b_Mod_forget_L11
      have hs := skip (fun i hi hz => hw (by
        obtain ⟨d1, d2⟩ := d15 (o := o) hi
        rw [hZ] at hz
        unfold fZ at hz
        rw [d1] at hz
        exact ⟨hz.1, hz.2.1, hz.2.2.1, hz.2.2.2.1⟩))
      refine e_young hT (by simp (disch := omega) only [forall_eq, true_and, and_true, and_self, not_true_eq_false, not_false_eq_true, false_imp_iff, true_imp_iff, imp_self, implies_true, ne_eq, reduceIte, cl, cl0, cl1, cl2, vpn, vp0, le8, le16, le40, le640, le1400, le6400, lt8, lt16, le15, le2, nI_leI, nI_ltI, nI_eq, nI_1, nI_add, n_le0, n_lt0, n_0le, n_eq0, n_eq1, n_eq2, n_m1, n_m1r, Nat.reduceEqDiff, Nat.reduceAdd, Int32.add_zero, nI_pred, div16, mul15, mul40, mul16, mul640, mulr16, xu_s, xu_c, xu_k, xu_cc, rows_xu, xf_s, xf_c, rows_xf, xul_c, rows_xul, xul_L, lgc]) (by simp (disch := omega) only [forall_eq, true_and, and_true, and_self, not_true_eq_false, not_false_eq_true, false_imp_iff, true_imp_iff, imp_self, implies_true, ne_eq, reduceIte, cl, cl0, cl1, cl2, vpn, vp0, le8, le16, le40, le640, le1400, le6400, lt8, lt16, le15, le2, nI_leI, nI_ltI, nI_eq, nI_1, nI_add, n_le0, n_lt0, n_0le, n_eq0, n_eq1, n_eq2, n_m1, n_m1r, Nat.reduceEqDiff, Nat.reduceAdd, Int32.add_zero, nI_pred, div16, mul15, mul40, mul16, mul640, mulr16, xu_s, xu_c, xu_k, xu_cc, rows_xu, xf_s, xf_c, rows_xf, xul_c, rows_xul, xul_L, lgc]) ho hr _ (fun y1 y2 => ?_) (fun y => ?_)
      · by_cases hl : σ 48 o = 0
        · simp (disch := omega) only [forall_eq, true_and, and_true, and_self, not_true_eq_false, not_false_eq_true, false_imp_iff, true_imp_iff, imp_self, implies_true, ne_eq, reduceIte, cl, cl0, cl1, cl2, vpn, vp0, le8, le16, le40, le640, le1400, le6400, lt8, lt16, le15, le2, nI_leI, nI_ltI, nI_eq, nI_1, nI_add, n_le0, n_lt0, n_0le, n_eq0, n_eq1, n_eq2, n_m1, n_m1r, Nat.reduceEqDiff, Nat.reduceAdd, Int32.add_zero, nI_pred, div16, mul15, mul40, mul16, mul640, mulr16, xu_s, xu_c, xu_k, xu_cc, rows_xu, xf_s, xf_c, rows_xf, xul_c, rows_xul, xul_L, lgc, n10, hl]
          exact hs
        · have h1 : ¬ σ 40 o = 1 := fun x => hw ⟨y1, y2, hl, x⟩
          simp (disch := omega) only [forall_eq, true_and, and_true, and_self, not_true_eq_false, not_false_eq_true, false_imp_iff, true_imp_iff, imp_self, implies_true, ne_eq, reduceIte, cl, cl0, cl1, cl2, vpn, vp0, le8, le16, le40, le640, le1400, le6400, lt8, lt16, le15, le2, nI_leI, nI_ltI, nI_eq, nI_1, nI_add, n_le0, n_lt0, n_0le, n_eq0, n_eq1, n_eq2, n_m1, n_m1r, Nat.reduceEqDiff, Nat.reduceAdd, Int32.add_zero, nI_pred, div16, mul15, mul40, mul16, mul640, mulr16, xu_s, xu_c, xu_k, xu_cc, rows_xu, xf_s, xf_c, rows_xf, xul_c, rows_xul, xul_L, lgc, n10, hl, h1]
          exact hs
      · simp (disch := omega) only [forall_eq, true_and, and_true, and_self, not_true_eq_false, not_false_eq_true, false_imp_iff, true_imp_iff, imp_self, implies_true, ne_eq, reduceIte, cl, cl0, cl1, cl2, vpn, vp0, le8, le16, le40, le640, le1400, le6400, lt8, lt16, le15, le2, nI_leI, nI_ltI, nI_eq, nI_1, nI_add, n_le0, n_lt0, n_0le, n_eq0, n_eq1, n_eq2, n_m1, n_m1r, Nat.reduceEqDiff, Nat.reduceAdd, Int32.add_zero, nI_pred, div16, mul15, mul40, mul16, mul640, mulr16, xu_s, xu_c, xu_k, xu_cc, rows_xu, xf_s, xf_c, rows_xf, xul_c, rows_xul, xul_L, lgc]
        exact hs) (by
    intro f
    show b_Mod_forget_L2 (p_Mod_forget_L2 Q f) Q (nI r) (nI 640) _
    unfold b_Mod_forget_L2
    simp (disch := omega) only [forall_eq, true_and, and_true, and_self, not_true_eq_false, not_false_eq_true, false_imp_iff, true_imp_iff, imp_self, implies_true, ne_eq, reduceIte, cl, cl0, cl1, cl2, vpn, vp0, le8, le16, le40, le640, le1400, le6400, lt8, lt16, le15, le2, nI_leI, nI_ltI, nI_eq, nI_1, nI_add, n_le0, n_lt0, n_0le, n_eq0, n_eq1, n_eq2, n_m1, n_m1r, Nat.reduceEqDiff, Nat.reduceAdd, Int32.add_zero, nI_pred, div16, mul15, mul40, mul16, mul640, mulr16, xu_s, xu_c, xu_k, xu_cc, rows_xu, xf_s, xf_c, rows_xf, xul_c, rows_xul, xul_L, lgc, Nat.le_refl]
    have e : ∀ n, (n < 15 * 640 ∧ Z n) ↔ Z n := fun n => ⟨fun x => x.2, fun x => ⟨by
      have := x
      rw [hZ] at this
      have := this.1.1
      omega, x⟩⟩
    rw [zc_iff e, zc_iff e]; exact h)
  have e0 : ∀ f : Nat → Int32, zc (fun n => n < 15 * 0 ∧ Z n) f = f := fun f => by funext n; exact zc_n (fun x => by omega)
  rw [e0, e0, up2_0] at key
  exact key
