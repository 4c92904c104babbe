noncomputable def zf (Z : Nat → Nat → Prop) (f : Nat → Nat → Int32) : Nat → Nat → Int32 := fun o i => @ite _ (Z o i) (Classical.propDecidable _) 0 (f o i)
theorem zf_y {Z : Nat → Nat → Prop} {f : Nat → Nat → Int32} {o i : Nat} (h : Z o i) : zf Z f o i = 0 := if_pos h
theorem zf_n {Z : Nat → Nat → Prop} {f : Nat → Nat → Int32} {o i : Nat} (h : ¬ Z o i) : zf Z f o i = f o i := if_neg h
theorem zf_iff {Z Z' : Nat → Nat → Prop} {f : Nat → Nat → Int32} {o i : Nat} (h : Z o i ↔ Z' o i) : zf Z f o i = zf Z' f o i := by
  by_cases x : Z o i
  · rw [zf_y x, zf_y (h.mp x)]
  · rw [zf_n x, zf_n (fun y => x (h.mpr y))]
noncomputable def zc (Z : Nat → Prop) (f : Nat → Int32) : Nat → Int32 := fun n => @ite _ (Z n) (Classical.propDecidable _) 0 (f n)
theorem zc_y {Z : Nat → Prop} {f : Nat → Int32} {n : Nat} (h : Z n) : zc Z f n = 0 := if_pos h
theorem zc_n {Z : Nat → Prop} {f : Nat → Int32} {n : Nat} (h : ¬ Z n) : zc Z f n = f n := if_neg h
theorem zc_iff {Z Z' : Nat → Prop} {f : Nat → Int32} (h : ∀ n, Z n ↔ Z' n) : zc Z f = zc Z' f := by
  funext n
  by_cases x : Z n
  · rw [zc_y x, zc_y ((h n).mp x)]
  · rw [zc_n x, zc_n (fun y => x ((h n).mpr y))]
theorem zc_u {Z Z' : Nat → Prop} {f : Nat → Int32} {k : Nat} (h : ∀ n, Z' n ↔ Z n ∨ n = k) : upd (zc Z f) k 0 = zc Z' f := by
  funext n
  by_cases x : n = k
  · rw [x, upd_s, zc_y ((h k).mpr (Or.inr rfl))]
  · rw [upd_n _ _ x]
    by_cases y : Z n
    · rw [zc_y y, zc_y ((h n).mpr (Or.inl y))]
    · rw [zc_n y, zc_n (fun z => ((h n).mp z).elim y x)]
theorem HeapR_z {s c : Nat → Int32} {A : Nat → Prop} {pl mn : Nat → Nat} {hd : Nat → Int32} {fs fc : Nat → Nat → Int32} {Y Y' : Nat → Nat → Prop} (h : HeapR s c A pl mn hd (zf Y fs) (zf Y fc)) (hdis : lDis A pl mn) {u n : Nat} (hu : A u) (hn : n < mn u) (hY : ∀ o j, A o → j < mn o → (Y' o j ↔ Y o j ∨ (o = u ∧ j = n))) :
    HeapR (upd s (pl u + 1 + n) 0) (upd c (pl u + 1 + n) 0) A pl mn hd (zf Y' fs) (zf Y' fc) := by
  refine HeapR_c (HeapR_f h hdis hu hn 0 0) (fun o i ho hi => ?_)
  by_cases e : o = u ∧ i = n
  · rw [if_pos e, if_pos e, zf_y ((hY o i ho hi).mpr (Or.inr e)), zf_y ((hY o i ho hi).mpr (Or.inr e))]; exact ⟨rfl, rfl⟩
  · rw [if_neg e, if_neg e]
    have : Y' o i ↔ Y o i := ⟨fun x => ((hY o i ho hi).mp x).elim id (fun y => absurd y e), fun x => (hY o i ho hi).mpr (Or.inl x)⟩
    exact ⟨zf_iff this, zf_iff this⟩
theorem HeapR_zi {s c : Nat → Int32} {A : Nat → Prop} {pl mn : Nat → Nat} {hd : Nat → Int32} {fs fc : Nat → Nat → Int32} {Y Y' : Nat → Nat → Prop} (h : HeapR s c A pl mn hd (zf Y fs) (zf Y fc)) (hY : ∀ o j, A o → j < mn o → (Y' o j ↔ Y o j)) : HeapR s c A pl mn hd (zf Y' fs) (zf Y' fc) :=
  HeapR_c h (fun o i ho hi => ⟨zf_iff (hY o i ho hi), zf_iff (hY o i ho hi)⟩)
def lvw (A : Nat → Prop) (pl : Nat → Nat) (LL : Nat → Prop) (l : Nat → Int32) : Prop := ∀ p, p < 640 → (l p = 0 ∧ ∀ o, A o → pl o = p → ¬ LL o) ∨ (l p = 1 ∧ ∃ o, A o ∧ pl o = p ∧ LL o)
theorem e_narl {x : Int32} (h : x = 0 ∨ x = 1) : narrow .boolean (.int x) = .int x := by rcases h with h | h <;> (rw [h]; rfl)
theorem e_clearWeak {τ : xS} {s c : Nat → Int32} {A : Nat → Prop} {pl mn kd : Nat → Nat} {hd : Nat → Int32} {fs fc : Nat → Nat → Int32} {fv : Nat → Nat → Nat} {LL : Nat → Prop} (hV : Vw s c A pl mn kd hd fs fc fv) (hl : lvw A pl LL (τ 26)) (Q : xS → Prop)
    (h : ∀ s' c', HeapR s' c' A pl mn hd (zf (fun o i => LL o ∧ kd o = 1 ∧ fs o i = 2 ∧ ¬ LL (fv o i)) fs) (zf (fun o i => LL o ∧ kd o = 1 ∧ fs o i = 2 ∧ ¬ LL (fv o i)) fc) → Q (hp2 τ s' c')) : p_Col_clearWeakFields (hp2 τ s c) Q := by
  unfold p_Col_clearWeakFields
  refine lpS (S := (Nat → Int32) × (Nat → Int32)) (fun g i x => p_Col_clearWeakFields_L2 Q g (nI i) (hp2 τ x.1 x.2)) (fun i x => HeapR x.1 x.2 A pl mn hd (zf (fun o j => pl o < i ∧ (LL o ∧ kd o = 1 ∧ fs o j = 2 ∧ ¬ LL (fv o j))) fs) (zf (fun o j => pl o < i ∧ (LL o ∧ kd o = 1 ∧ fs o j = 2 ∧ ¬ LL (fv o j))) fc)) 640 ?_ ?_ (s := (s, c)) (HeapR_c hV.1 (fun o i _ _ => ⟨zf_n (fun x => absurd x.1 (Nat.not_lt_zero _)), zf_n (fun x => absurd x.1 (Nat.not_lt_zero _))⟩))
  · rintro g i ⟨s1, c1⟩ hi hs hk
    dsimp only at hs hk ⊢
    show b_Col_clearWeakFields_L2 (p_Col_clearWeakFields_L2 Q g) Q (nI i) _
    unfold b_Col_clearWeakFields_L2 p_Col_isLiveOf p_Mar_isLive p_Hea_kindOf
    have l1' : ¬ 640 ≤ i := by omega
    rcases hl i hi with ⟨e, hno⟩ | ⟨e, u, u1, u2, u3⟩
    · have e' := e_narl (Or.inl e)
      simp (disch := omega) only [forall_eq, true_and, and_true, and_self, not_true_eq_false, not_false_eq_true, false_imp_iff, true_imp_iff, imp_self, implies_true, ne_eq, reduceIte, cl, cl0, cl1, cl2, vpn, vp0, le8, le16, le40, le640, le1400, le6400, lt8, lt16, le15, le2, nI_leI, nI_ltI, nI_eq, nI_1, nI_add, n_le0, n_lt0, n_0le, n_eq0, n_eq1, n_eq2, n_m1, n_m1r, Nat.reduceEqDiff, Nat.reduceAdd, Int32.add_zero, nI_pred, div16, mul15, mul40, mul16, mul640, mulr16, xu_s, xu_c, xu_k, xu_cc, rows_xu, xf_s, xf_c, rows_xf, xul_c, rows_xul, xul_L, lgc, l1', e] at e' ⊢
      simp (disch := omega) only [forall_eq, true_and, and_true, and_self, not_true_eq_false, not_false_eq_true, false_imp_iff, true_imp_iff, imp_self, implies_true, ne_eq, reduceIte, cl, cl0, cl1, cl2, vpn, vp0, le8, le16, le40, le640, le1400, le6400, lt8, lt16, le15, le2, nI_leI, nI_ltI, nI_eq, nI_1, nI_add, n_le0, n_lt0, n_0le, n_eq0, n_eq1, n_eq2, n_m1, n_m1r, Nat.reduceEqDiff, Nat.reduceAdd, Int32.add_zero, nI_pred, div16, mul15, mul40, mul16, mul640, mulr16, xu_s, xu_c, xu_k, xu_cc, rows_xu, xf_s, xf_c, rows_xf, xul_c, rows_xul, xul_L, lgc, e']
      refine hk (s1, c1) (HeapR_zi hs (fun o j ho hj => ⟨fun x => ⟨?_, x.2⟩, fun x => ⟨by omega, x.2⟩⟩))
      have : pl o ≠ i := fun eo => hno o ho eo x.2.1
      omega
    · have e' := e_narl (Or.inr e)
      obtain ⟨a1, a2, a3, a4, a5, a6, a7, a8⟩ := Vw_o hV u1
      have a7' : c1 i >>> (14 &&& 31) = nI (kd u) := by rw [← u2, (hs.1 u u1).2]; exact (hV.2.2.1 u u1).2.2.2.2.1
      have a6' : c1 i &&& 15 = nI (mn u) := by rw [← u2, (hs.1 u u1).2]; exact (hV.2.2.1 u u1).2.2.2.1
      have uq : ∀ q, A q → pl q = i → q = u := fun q hq eq => Vw_i hV q u hq u1 (by rw [eq, u2])
      by_cases hk1 : kd u = 1
      · simp (disch := omega) only [forall_eq, true_and, and_true, and_self, not_true_eq_false, not_false_eq_true, false_imp_iff, true_imp_iff, imp_self, implies_true, ne_eq, reduceIte, cl, cl0, cl1, cl2, vpn, vp0, le8, le16, le40, le640, le1400, le6400, lt8, lt16, le15, le2, nI_leI, nI_ltI, nI_eq, nI_1, nI_add, n_le0, n_lt0, n_0le, n_eq0, n_eq1, n_eq2, n_m1, n_m1r, Nat.reduceEqDiff, Nat.reduceAdd, Int32.add_zero, nI_pred, div16, mul15, mul40, mul16, mul640, mulr16, xu_s, xu_c, xu_k, xu_cc, rows_xu, xf_s, xf_c, rows_xf, xul_c, rows_xul, xul_L, lgc, l1', e, n10, a7', hk1] at e' ⊢
        simp (disch := omega) only [forall_eq, true_and, and_true, and_self, not_true_eq_false, not_false_eq_true, false_imp_iff, true_imp_iff, imp_self, implies_true, ne_eq, reduceIte, cl, cl0, cl1, cl2, vpn, vp0, le8, le16, le40, le640, le1400, le6400, lt8, lt16, le15, le2, nI_leI, nI_ltI, nI_eq, nI_1, nI_add, n_le0, n_lt0, n_0le, n_eq0, n_eq1, n_eq2, n_m1, n_m1r, Nat.reduceEqDiff, Nat.reduceAdd, Int32.add_zero, nI_pred, div16, mul15, mul40, mul16, mul640, mulr16, xu_s, xu_c, xu_k, xu_cc, rows_xu, xf_s, xf_c, rows_xf, xul_c, rows_xul, xul_L, lgc, e', n10]
        unfold p_Col_clearDeadFields p_Hea_fieldsOf
        simp (disch := omega) only [forall_eq, true_and, and_true, and_self, not_true_eq_false, not_false_eq_true, false_imp_iff, true_imp_iff, imp_self, implies_true, ne_eq, reduceIte, cl, cl0, cl1, cl2, vpn, vp0, le8, le16, le40, le640, le1400, le6400, lt8, lt16, le15, le2, nI_leI, nI_ltI, nI_eq, nI_1, nI_add, n_le0, n_lt0, n_0le, n_eq0, n_eq1, n_eq2, n_m1, n_m1r, Nat.reduceEqDiff, Nat.reduceAdd, Int32.add_zero, nI_pred, div16, mul15, mul40, mul16, mul640, mulr16, xu_s, xu_c, xu_k, xu_cc, rows_xu, xf_s, xf_c, rows_xf, xul_c, rows_xul, xul_L, lgc, a6']
        refine lpS (S := (Nat → Int32) × (Nat → Int32)) (fun f j x => p_Col_clearDeadFields_L14 (p_Col_clearWeakFields_L2 Q g (nI (i + 1))) f (nI i) (nI (mn u)) (nI j) (hp2 τ x.1 x.2)) (fun k x => HeapR x.1 x.2 A pl mn hd (zf (fun o j => (pl o < i ∨ o = u ∧ j < k) ∧ (LL o ∧ kd o = 1 ∧ fs o j = 2 ∧ ¬ LL (fv o j))) fs) (zf (fun o j => (pl o < i ∨ o = u ∧ j < k) ∧ (LL o ∧ kd o = 1 ∧ fs o j = 2 ∧ ¬ LL (fv o j))) fc)) (mn u) ?_ ?_ (s := (s1, c1)) (HeapR_zi hs (fun o j _ _ => ⟨fun x => ⟨x.1.elim id (fun y => absurd y.2 (Nat.not_lt_zero _)), x.2⟩, fun x => ⟨Or.inl x.1, x.2⟩⟩))
        · rintro f k ⟨s2, c2⟩ hk' hs2 hk2
          dsimp only at hs2 hk2 ⊢
          show b_Col_clearDeadFields_L14 (p_Col_clearDeadFields_L14 (p_Col_clearWeakFields_L2 Q g (nI (i + 1))) f) (p_Col_clearWeakFields_L2 Q g (nI (i + 1))) (nI i) (nI (mn u)) (nI k) _
          unfold b_Col_clearDeadFields_L14 p_Mar_refersToDead p_Val_isReference_19 p_Val_contentOf_19 p_Val_setNil_19 p_Val_assign_19
          have l2' : ¬ mn u ≤ k := by omega
          have hc := hs2.2.1 u k u1 hk'
          rw [zf_n (by rintro ⟨x | x, _⟩ <;> omega), zf_n (by rintro ⟨x | x, _⟩ <;> omega), u2] at hc
          have hf := hV.2.2.2 u k u1 hk'
          by_cases e2 : fs u k = 2
          · obtain ⟨f3, f4⟩ := hf.2 e2
            have hp := (Vw_o hV f3).1
            rw [e2, f4] at hc
            rcases hl (pl (fv u k)) hp with ⟨x, x'⟩ | ⟨x, w, w1, w2, w3⟩
            · simp (disch := omega) only [forall_eq, true_and, and_true, and_self, not_true_eq_false, not_false_eq_true, false_imp_iff, true_imp_iff, imp_self, implies_true, ne_eq, reduceIte, cl, cl0, cl1, cl2, vpn, vp0, le8, le16, le40, le640, le1400, le6400, lt8, lt16, le15, le2, nI_leI, nI_ltI, nI_eq, nI_1, nI_add, n_le0, n_lt0, n_0le, n_eq0, n_eq1, n_eq2, n_m1, n_m1r, Nat.reduceEqDiff, Nat.reduceAdd, Int32.add_zero, nI_pred, div16, mul15, mul40, mul16, mul640, mulr16, xu_s, xu_c, xu_k, xu_cc, rows_xu, xf_s, xf_c, rows_xf, xul_c, rows_xul, xul_L, lgc, l2', hc.1, hc.2, n10, x, hp2_s, xu_xf]
              refine hk2 (_, _) ?_
              have := HeapR_z hs2 hV.2.1 u1 hk' (Y' := fun o j => (pl o < i ∨ o = u ∧ j < k + 1) ∧ (LL o ∧ kd o = 1 ∧ fs o j = 2 ∧ ¬ LL (fv o j))) (fun o j ho hj => ?_)
              · rw [u2] at this; exact this
              · constructor
                · rintro ⟨y | y, y'⟩
                  · exact Or.inl ⟨Or.inl y, y'⟩
                  · by_cases ej : j = k
                    · exact Or.inr ⟨y.1, ej⟩
                    · exact Or.inl ⟨Or.inr ⟨y.1, by omega⟩, y'⟩
                · rintro (y | ⟨y, y'⟩)
                  · exact ⟨y.1.imp id (fun z => ⟨z.1, by omega⟩), y.2⟩
                  · rw [y, y']; exact ⟨Or.inr ⟨rfl, by omega⟩, u3, hk1, e2, x' _ f3 rfl⟩
            · simp (disch := omega) only [forall_eq, true_and, and_true, and_self, not_true_eq_false, not_false_eq_true, false_imp_iff, true_imp_iff, imp_self, implies_true, ne_eq, reduceIte, cl, cl0, cl1, cl2, vpn, vp0, le8, le16, le40, le640, le1400, le6400, lt8, lt16, le15, le2, nI_leI, nI_ltI, nI_eq, nI_1, nI_add, n_le0, n_lt0, n_0le, n_eq0, n_eq1, n_eq2, n_m1, n_m1r, Nat.reduceEqDiff, Nat.reduceAdd, Int32.add_zero, nI_pred, div16, mul15, mul40, mul16, mul640, mulr16, xu_s, xu_c, xu_k, xu_cc, rows_xu, xf_s, xf_c, rows_xf, xul_c, rows_xul, xul_L, lgc, l2', hc.1, hc.2, n10, x]
              refine hk2 (s2, c2) (HeapR_zi hs2 (fun o j ho hj => ⟨?_, fun y => ⟨y.1.imp id (fun z => ⟨z.1, by omega⟩), y.2⟩⟩))
              rintro ⟨y | y, y'⟩
              · exact ⟨Or.inl y, y'⟩
              · refine ⟨Or.inr ⟨y.1, ?_⟩, y'⟩
                have : j ≠ k := fun ej => by
                  rw [y.1, ej] at y'
                  exact y'.2.2.2 (Vw_i hV w _ w1 f3 w2 ▸ w3)
                omega
          · simp (disch := omega) only [forall_eq, true_and, and_true, and_self, not_true_eq_false, not_false_eq_true, false_imp_iff, true_imp_iff, imp_self, implies_true, ne_eq, reduceIte, cl, cl0, cl1, cl2, vpn, vp0, le8, le16, le40, le640, le1400, le6400, lt8, lt16, le15, le2, nI_leI, nI_ltI, nI_eq, nI_1, nI_add, n_le0, n_lt0, n_0le, n_eq0, n_eq1, n_eq2, n_m1, n_m1r, Nat.reduceEqDiff, Nat.reduceAdd, Int32.add_zero, nI_pred, div16, mul15, mul40, mul16, mul640, mulr16, xu_s, xu_c, xu_k, xu_cc, rows_xu, xf_s, xf_c, rows_xf, xul_c, rows_xul, xul_L, lgc, l2', hc.1, e2, n10]
            refine hk2 (s2, c2) (HeapR_zi hs2 (fun o j ho hj => ⟨?_, fun y => ⟨y.1.imp id (fun z => ⟨z.1, by omega⟩), y.2⟩⟩))
            rintro ⟨y | y, y'⟩
            · exact ⟨Or.inl y, y'⟩
            · refine ⟨Or.inr ⟨y.1, ?_⟩, y'⟩
              have : j ≠ k := fun ej => by
                rw [y.1, ej] at y'
                exact e2 y'.2.2.1
              omega
        · rintro f ⟨s2, c2⟩ hs2
          dsimp only at hs2 ⊢
          show b_Col_clearDeadFields_L14 (p_Col_clearDeadFields_L14 (p_Col_clearWeakFields_L2 Q g (nI (i + 1))) f) (p_Col_clearWeakFields_L2 Q g (nI (i + 1))) (nI i) (nI (mn u)) (nI (mn u)) _
          unfold b_Col_clearDeadFields_L14
          simp (disch := omega) only [forall_eq, true_and, and_true, and_self, not_true_eq_false, not_false_eq_true, false_imp_iff, true_imp_iff, imp_self, implies_true, ne_eq, reduceIte, cl, cl0, cl1, cl2, vpn, vp0, le8, le16, le40, le640, le1400, le6400, lt8, lt16, le15, le2, nI_leI, nI_ltI, nI_eq, nI_1, nI_add, n_le0, n_lt0, n_0le, n_eq0, n_eq1, n_eq2, n_m1, n_m1r, Nat.reduceEqDiff, Nat.reduceAdd, Int32.add_zero, nI_pred, div16, mul15, mul40, mul16, mul640, mulr16, xu_s, xu_c, xu_k, xu_cc, rows_xu, xf_s, xf_c, rows_xf, xul_c, rows_xul, xul_L, lgc, Nat.le_refl]
          refine hk (s2, c2) (HeapR_zi hs2 (fun o j ho hj => ⟨fun x => ⟨?_, x.2⟩, ?_⟩))
          · by_cases eo : pl o = i
            · exact Or.inr ⟨uq o ho eo, by rw [← uq o ho eo]; exact hj⟩
            · exact Or.inl (by omega)
          · rintro ⟨y | y, y'⟩
            · exact ⟨by omega, y'⟩
            · exact ⟨by rw [y.1, u2]; omega, y'⟩
      · have hk1' : ¬ nI (kd u) = 1 := by rw [n_eq1 (by omega)]; exact hk1
        simp (disch := omega) only [forall_eq, true_and, and_true, and_self, not_true_eq_false, not_false_eq_true, false_imp_iff, true_imp_iff, imp_self, implies_true, ne_eq, reduceIte, cl, cl0, cl1, cl2, vpn, vp0, le8, le16, le40, le640, le1400, le6400, lt8, lt16, le15, le2, nI_leI, nI_ltI, nI_eq, nI_1, nI_add, n_le0, n_lt0, n_0le, n_eq0, n_eq1, n_eq2, n_m1, n_m1r, Nat.reduceEqDiff, Nat.reduceAdd, Int32.add_zero, nI_pred, div16, mul15, mul40, mul16, mul640, mulr16, xu_s, xu_c, xu_k, xu_cc, rows_xu, xf_s, xf_c, rows_xf, xul_c, rows_xul, xul_L, lgc, l1', e, n10, a7', hk1'] at e' ⊢
        simp (disch := omega) only [forall_eq, true_and, and_true, and_self, not_true_eq_false, not_false_eq_true, false_imp_iff, true_imp_iff, imp_self, implies_true, ne_eq, reduceIte, cl, cl0, cl1, cl2, vpn, vp0, le8, le16, le40, le640, le1400, le6400, lt8, lt16, le15, le2, nI_leI, nI_ltI, nI_eq, nI_1, nI_add, n_le0, n_lt0, n_0le, n_eq0, n_eq1, n_eq2, n_m1, n_m1r, Nat.reduceEqDiff, Nat.reduceAdd, Int32.add_zero, nI_pred, div16, mul15, mul40, mul16, mul640, mulr16, xu_s, xu_c, xu_k, xu_cc, rows_xu, xf_s, xf_c, rows_xf, xul_c, rows_xul, xul_L, lgc, e', n10]
        refine hk (s1, c1) (HeapR_zi hs (fun o j ho hj => ⟨fun x => ⟨?_, x.2⟩, fun x => ⟨by omega, x.2⟩⟩))
        have : pl o ≠ i := fun eo => hk1 (by rw [← uq o ho eo]; exact x.2.2.1)
        omega
  · rintro g ⟨s1, c1⟩ hs
    show b_Col_clearWeakFields_L2 (p_Col_clearWeakFields_L2 Q g) Q (nI 640) _
    unfold b_Col_clearWeakFields_L2
    simp (disch := omega) only [forall_eq, true_and, and_true, and_self, not_true_eq_false, not_false_eq_true, false_imp_iff, true_imp_iff, imp_self, implies_true, ne_eq, reduceIte, cl, cl0, cl1, cl2, vpn, vp0, le8, le16, le40, le640, le1400, le6400, lt8, lt16, le15, le2, nI_leI, nI_ltI, nI_eq, nI_1, nI_add, n_le0, n_lt0, n_0le, n_eq0, n_eq1, n_eq2, n_m1, n_m1r, Nat.reduceEqDiff, Nat.reduceAdd, Int32.add_zero, nI_pred, div16, mul15, mul40, mul16, mul640, mulr16, xu_s, xu_c, xu_k, xu_cc, rows_xu, xf_s, xf_c, rows_xf, xul_c, rows_xul, xul_L, lgc, Nat.le_refl]
    refine h s1 c1 (HeapR_zi hs (fun o j ho hj => ⟨fun x => ⟨?_, x⟩, fun x => x.2⟩))
    exact (Vw_o hV ho).1
