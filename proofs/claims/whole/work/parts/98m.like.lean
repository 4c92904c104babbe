def fok (pl : Nat → Nat) (fs fw : Nat → Nat → Int32) (fv : Nat → Nat → Nat) (rp : Nat → Nat) (o q i : Nat) : Prop := fs o i = fs q i ∧ (fs o i = 2 → rp (pl (fv o i)) = rp (pl (fv q i))) ∧ (¬ fs o i = 2 → fw o i = fw q i)
theorem nar_01 (x : Int32) (h : x = 0 ∨ x = 1) : narrow .boolean (.int x) = .int x := e_narl h
theorem e_mayBe {σ : xS} {A : Nat → Prop} {pl mn kd : Nat → Nat} {hd : Nat → Int32} {fs fc : Nat → Nat → Int32} {fv : Nat → Nat → Nat} (hV : Vw (σ 28) (σ 29) A pl mn kd hd fs fc fv) {fw : Nat → Nat → Int32} (hfw : ∀ o i, A o → i < mn o → ¬ fs o i = 2 → fc o i = fw o i) {τ : xS} {ua ub : Nat} {lf rt rp dp : Nat → Nat} {k o q i : Nat} (hA : AI σ τ A pl mn hd fs fw fv ua ub lf rt k rp dp) (ho : A o) (hq : A q) (hi : i < mn o) (hi' : i < mn q) (hR : ∀ Rel, bis A mn hd fs fw fv Rel → Rel ua ub → Rel o q) (Q : Int32 → xS → Prop)
    (hy : ∀ τ' lf' rt' k' rp' dp', AI σ τ' A pl mn hd fs fw fv ua ub lf' rt' k' rp' dp' → AX A pl lf rt k rp lf' rt' k' rp' → fok pl fs fw fv rp' o q i → Q 1 τ') (hn : ∀ τ', (∀ d, d ≠ 14 → d ≠ 15 → d ≠ 16 → d ≠ 4 → τ' d = σ d) → (∀ Rel, bis A mn hd fs fw fv Rel → ¬ Rel ua ub) → Q 0 τ') : p_Lik_mayBeAlike_4_19 (nI (pl o + 1 + i)) (nI (pl q + 1 + i)) τ Q := by
  have po := (Vw_o hV ho).2.1
  have pq := (Vw_o hV hq).2.1
  have a1 := hA.1
  have e28 : τ 28 = σ 28 := a1 28 (by decide) (by decide) (by decide) (by decide)
  have e29 : τ 29 = σ 29 := a1 29 (by decide) (by decide) (by decide) (by decide)
  obtain ⟨f1, f2⟩ := Vw_f hV ho hi
  obtain ⟨g1, g2⟩ := Vw_f hV hq hi'
  have c1 := (hV.1.2.1 o i ho hi).2
  have c2 := (hV.1.2.1 q i hq hi').2
  unfold p_Lik_mayBeAlike_4_19 p_Val_sortOf_19 p_Val_contentOf_19 p_Val_isReference_19
  by_cases es : fs o i = fs q i
  · by_cases e2 : fs q i = 2
    · have e2' : fs o i = 2 := by rw [es]; exact e2
      obtain ⟨f3, f4⟩ := f2 e2'
      obtain ⟨g3, g4⟩ := g2 e2
      have key := e_take hV hA f3 g3 (fun Rel hb hr => ((hb o q (hR Rel hb hr)).2.2.2 i hi).2.1 e2') (fun r19 σ18 => (narrow .boolean (.int r19) = .int r19 ∧ Q r19 σ18)) (fun τ' lf' rt' k' rp' dp' x1 x2 x3 => ⟨nar_01 1 (Or.inr rfl), hy τ' lf' rt' k' rp' dp' x1 x2 ⟨es, fun _ => x3, fun x => absurd e2' x⟩⟩) (fun τ' x1 x2 => ⟨nar_01 0 (Or.inl rfl), hn τ' x1 x2⟩)
      simp (disch := omega) only [forall_eq, true_and, and_true, and_self, not_true_eq_false, not_false_eq_true, false_imp_iff, true_imp_iff, imp_self, implies_true, ne_eq, reduceIte, cl, cl0, cl1, cl2, vpn, vp0, le8, le16, le40, le640, le1400, le6400, lt8, lt16, le15, le2, nI_leI, nI_ltI, nI_eq, nI_1, nI_add, n_le0, n_lt0, n_0le, n_eq0, n_eq1, n_eq2, n_m1, n_m1r, Nat.reduceEqDiff, Nat.reduceAdd, Int32.add_zero, nI_pred, div16, mul15, mul40, mul16, mul640, mulr16, xu_s, xu_c, xu_k, xu_cc, rows_xu, xf_s, xf_c, rows_xf, xul_c, rows_xul, xul_L, lgc, e28, e29, f1, g1, es, e2, n10, f4, g4]
      exact key
    · have e2' : ¬ fs o i = 2 := by rw [es]; exact e2
      rw [hfw o i ho hi e2'] at c1
      rw [hfw q i hq hi' e2] at c2
      by_cases ev : fw o i = fw q i
      · have hh := hy τ lf rt k rp dp hA (AX_r _ _ _ _ _ _) ⟨es, fun x => absurd x e2', fun _ => ev⟩
        simp (disch := omega) only [forall_eq, true_and, and_true, and_self, not_true_eq_false, not_false_eq_true, false_imp_iff, true_imp_iff, imp_self, implies_true, ne_eq, reduceIte, cl, cl0, cl1, cl2, vpn, vp0, le8, le16, le40, le640, le1400, le6400, lt8, lt16, le15, le2, nI_leI, nI_ltI, nI_eq, nI_1, nI_add, n_le0, n_lt0, n_0le, n_eq0, n_eq1, n_eq2, n_m1, n_m1r, Nat.reduceEqDiff, Nat.reduceAdd, Int32.add_zero, nI_pred, div16, mul15, mul40, mul16, mul640, mulr16, xu_s, xu_c, xu_k, xu_cc, rows_xu, xf_s, xf_c, rows_xf, xul_c, rows_xul, xul_L, lgc, e28, e29, f1, g1, es, e2, c1, c2, ev]
        exact hh
      · have hh := hn τ a1 (fun Rel hb hr => ev (((hb o q (hR Rel hb hr)).2.2.2 i hi).2.2 e2'))
        simp (disch := omega) only [forall_eq, true_and, and_true, and_self, not_true_eq_false, not_false_eq_true, false_imp_iff, true_imp_iff, imp_self, implies_true, ne_eq, reduceIte, cl, cl0, cl1, cl2, vpn, vp0, le8, le16, le40, le640, le1400, le6400, lt8, lt16, le15, le2, nI_leI, nI_ltI, nI_eq, nI_1, nI_add, n_le0, n_lt0, n_0le, n_eq0, n_eq1, n_eq2, n_m1, n_m1r, Nat.reduceEqDiff, Nat.reduceAdd, Int32.add_zero, nI_pred, div16, mul15, mul40, mul16, mul640, mulr16, xu_s, xu_c, xu_k, xu_cc, rows_xu, xf_s, xf_c, rows_xf, xul_c, rows_xul, xul_L, lgc, e28, e29, f1, g1, es, e2, c1, c2, ev]
        exact hh
  · have hh := hn τ a1 (fun Rel hb hr => es ((hb o q (hR Rel hb hr)).2.2.2 i hi).1)
    simp (disch := omega) only [forall_eq, true_and, and_true, and_self, not_true_eq_false, not_false_eq_true, false_imp_iff, true_imp_iff, imp_self, implies_true, ne_eq, reduceIte, cl, cl0, cl1, cl2, vpn, vp0, le8, le16, le40, le640, le1400, le6400, lt8, lt16, le15, le2, nI_leI, nI_ltI, nI_eq, nI_1, nI_add, n_le0, n_lt0, n_0le, n_eq0, n_eq1, n_eq2, n_m1, n_m1r, Nat.reduceEqDiff, Nat.reduceAdd, Int32.add_zero, nI_pred, div16, mul15, mul40, mul16, mul640, mulr16, xu_s, xu_c, xu_k, xu_cc, rows_xu, xf_s, xf_c, rows_xf, xul_c, rows_xul, xul_L, lgc, e28, f1, g1, es]
    exact hh
theorem fok_X {B : Nat → Prop} {pl lf rt rp lf' rt' rp' : Nat → Nat} {k k' : Nat} {fs fw : Nat → Nat → Int32} {fv : Nat → Nat → Nat} {o q i : Nat} (h : AX B pl lf rt k rp lf' rt' k' rp') (hB : fs o i = 2 → B (fv o i)) (hB' : fs q i = 2 → B (fv q i)) (hf : fok pl fs fw fv rp o q i) : fok pl fs fw fv rp' o q i :=
  ⟨hf.1, fun e => h.2.2 _ _ (hB e) (hB' (by rw [← hf.1]; exact e)) (hf.2.1 e), hf.2.2⟩
theorem mn_eq {s c : Nat → Int32} {A : Nat → Prop} {pl mn kd : Nat → Nat} {hd : Nat → Int32} {fs fc : Nat → Nat → Int32} {fv : Nat → Nat → Nat} (hV : Vw s c A pl mn kd hd fs fc fv) {o q : Nat} (ho : A o) (hq : A q) (e : hd o = hd q) : mn o = mn q := by
  have a := (hV.2.2.1 o ho).2.2.2.1
  have b := (hV.2.2.1 q hq).2.2.2.1
  rw [e, b] at a
  exact ((nI_eq (by have := (hV.2.2.1 q hq).2.1; omega) (by have := (hV.2.2.1 o ho).2.1; omega)).mp a).symm
theorem e_fields {σ : xS} {A : Nat → Prop} {pl mn kd : Nat → Nat} {hd : Nat → Int32} {fs fc : Nat → Nat → Int32} {fv : Nat → Nat → Nat} (hV : Vw (σ 28) (σ 29) A pl mn kd hd fs fc fv) {fw : Nat → Nat → Int32} (hfw : ∀ o i, A o → i < mn o → ¬ fs o i = 2 → fc o i = fw o i) {τ : xS} {ua ub : Nat} {lf rt rp dp : Nat → Nat} {k o q : Nat} (hA : AI σ τ A pl mn hd fs fw fv ua ub lf rt k rp dp) (ho : A o) (hq : A q) (eh : hd o = hd q) (hR : ∀ Rel, bis A mn hd fs fw fv Rel → Rel ua ub → Rel o q) (Q : Int32 → xS → Prop)
    (hy : ∀ τ' lf' rt' k' rp' dp', AI σ τ' A pl mn hd fs fw fv ua ub lf' rt' k' rp' dp' → AX A pl lf rt k rp lf' rt' k' rp' → (∀ i, i < mn o → fok pl fs fw fv rp' o q i) → Q 1 τ') (hn : ∀ τ', (∀ d, d ≠ 14 → d ≠ 15 → d ≠ 16 → d ≠ 4 → τ' d = σ d) → (∀ Rel, bis A mn hd fs fw fv Rel → ¬ Rel ua ub) → Q 0 τ') : p_Lik_fieldsMayBeAlike (nI (pl o)) (nI (pl q)) τ Q := by
  obtain ⟨b1, b2, b3, b4, b5, b6, b7, b8⟩ := Vw_o hV ho
  obtain ⟨d1, d2, d3, d4, d5, d6, d7, d8⟩ := Vw_o hV hq
  have em := mn_eq hV ho hq eh
  have e29 : τ 29 = σ 29 := hA.1 29 (by decide) (by decide) (by decide) (by decide)
  unfold p_Lik_fieldsMayBeAlike p_Hea_fieldsOf
  simp (disch := omega) only [forall_eq, true_and, and_true, and_self, not_true_eq_false, not_false_eq_true, false_imp_iff, true_imp_iff, imp_self, implies_true, ne_eq, reduceIte, cl, cl0, cl1, cl2, vpn, vp0, le8, le16, le40, le640, le1400, le6400, lt8, lt16, le15, le2, nI_leI, nI_ltI, nI_eq, nI_1, nI_add, n_le0, n_lt0, n_0le, n_eq0, n_eq1, n_eq2, n_m1, n_m1r, Nat.reduceEqDiff, Nat.reduceAdd, Int32.add_zero, nI_pred, div16, mul15, mul40, mul16, mul640, mulr16, xu_s, xu_c, xu_k, xu_cc, rows_xu, xf_s, xf_c, rows_xf, xul_c, rows_xul, xul_L, lgc, e29, b6]
  refine lpS (S := xS) (fun f i x => p_Lik_fieldsMayBeAlike_L12 Q f (nI (pl o)) (nI (pl q)) (nI (mn o)) (nI i) x) (fun i x => ∃ lf' rt' k' rp' dp', AI σ x A pl mn hd fs fw fv ua ub lf' rt' k' rp' dp' ∧ AX A pl lf rt k rp lf' rt' k' rp' ∧ ∀ j, j < i → fok pl fs fw fv rp' o q j) (mn o) ?_ ?_ (s := τ) ⟨lf, rt, k, rp, dp, hA, AX_r _ _ _ _ _ _, fun j hj => by omega⟩
  · rintro f i x hi ⟨lf1, rt1, k1, rp1, dp1, A1, X1, F1⟩ hnx
    show b_Lik_fieldsMayBeAlike_L12 (p_Lik_fieldsMayBeAlike_L12 Q f) Q _ _ _ (nI i) x
    unfold b_Lik_fieldsMayBeAlike_L12
    have l1 : ¬ mn o ≤ i := by omega
    simp (disch := omega) only [forall_eq, true_and, and_true, and_self, not_true_eq_false, not_false_eq_true, false_imp_iff, true_imp_iff, imp_self, implies_true, ne_eq, reduceIte, cl, cl0, cl1, cl2, vpn, vp0, le8, le16, le40, le640, le1400, le6400, lt8, lt16, le15, le2, nI_leI, nI_ltI, nI_eq, nI_1, nI_add, n_le0, n_lt0, n_0le, n_eq0, n_eq1, n_eq2, n_m1, n_m1r, Nat.reduceEqDiff, Nat.reduceAdd, Int32.add_zero, nI_pred, div16, mul15, mul40, mul16, mul640, mulr16, xu_s, xu_c, xu_k, xu_cc, rows_xu, xf_s, xf_c, rows_xf, xul_c, rows_xul, xul_L, lgc, l1]
    refine e_mayBe hV hfw A1 ho hq hi (by omega) hR _ (fun τ' lf' rt' k' rp' dp' x1 x2 x3 => ?_) (fun τ' x1 x2 => ?_)
    · simp (disch := omega) only [forall_eq, true_and, and_true, and_self, not_true_eq_false, not_false_eq_true, false_imp_iff, true_imp_iff, imp_self, implies_true, ne_eq, reduceIte, cl, cl0, cl1, cl2, vpn, vp0, le8, le16, le40, le640, le1400, le6400, lt8, lt16, le15, le2, nI_leI, nI_ltI, nI_eq, nI_1, nI_add, n_le0, n_lt0, n_0le, n_eq0, n_eq1, n_eq2, n_m1, n_m1r, Nat.reduceEqDiff, Nat.reduceAdd, Int32.add_zero, nI_pred, div16, mul15, mul40, mul16, mul640, mulr16, xu_s, xu_c, xu_k, xu_cc, rows_xu, xf_s, xf_c, rows_xf, xul_c, rows_xul, xul_L, lgc, n10]
      refine hnx τ' ⟨lf', rt', k', rp', dp', x1, AX_t X1 x2, fun j hj => ?_⟩
      by_cases e : j = i
      · rw [e]; exact x3
      · exact fok_X x2 (fun e => ((Vw_f hV ho (by omega)).2 e).1) (fun e => ((Vw_f hV hq (by omega)).2 e).1) (F1 j (by omega))
    · simp (disch := omega) only [forall_eq, true_and, and_true, and_self, not_true_eq_false, not_false_eq_true, false_imp_iff, true_imp_iff, imp_self, implies_true, ne_eq, reduceIte, cl, cl0, cl1, cl2, vpn, vp0, le8, le16, le40, le640, le1400, le6400, lt8, lt16, le15, le2, nI_leI, nI_ltI, nI_eq, nI_1, nI_add, n_le0, n_lt0, n_0le, n_eq0, n_eq1, n_eq2, n_m1, n_m1r, Nat.reduceEqDiff, Nat.reduceAdd, Int32.add_zero, nI_pred, div16, mul15, mul40, mul16, mul640, mulr16, xu_s, xu_c, xu_k, xu_cc, rows_xu, xf_s, xf_c, rows_xf, xul_c, rows_xul, xul_L, lgc]
      exact hn τ' x1 x2
  · rintro f x ⟨lf1, rt1, k1, rp1, dp1, A1, X1, F1⟩
    show b_Lik_fieldsMayBeAlike_L12 (p_Lik_fieldsMayBeAlike_L12 Q f) Q _ _ _ (nI (mn o)) x
    unfold b_Lik_fieldsMayBeAlike_L12
    simp (disch := omega) only [forall_eq, true_and, and_true, and_self, not_true_eq_false, not_false_eq_true, false_imp_iff, true_imp_iff, imp_self, implies_true, ne_eq, reduceIte, cl, cl0, cl1, cl2, vpn, vp0, le8, le16, le40, le640, le1400, le6400, lt8, lt16, le15, le2, nI_leI, nI_ltI, nI_eq, nI_1, nI_add, n_le0, n_lt0, n_0le, n_eq0, n_eq1, n_eq2, n_m1, n_m1r, Nat.reduceEqDiff, Nat.reduceAdd, Int32.add_zero, nI_pred, div16, mul15, mul40, mul16, mul640, mulr16, xu_s, xu_c, xu_k, xu_cc, rows_xu, xf_s, xf_c, rows_xf, xul_c, rows_xul, xul_L, lgc, Nat.le_refl]
    exact hy x lf1 rt1 k1 rp1 dp1 A1 X1 F1
theorem AI_bis {σ : xS} {A : Nat → Prop} {pl mn kd : Nat → Nat} {hd : Nat → Int32} {fs fc : Nat → Nat → Int32} {fv : Nat → Nat → Nat} (hV : Vw (σ 28) (σ 29) A pl mn kd hd fs fc fv) {fw : Nat → Nat → Int32} {τ : xS} {ua ub : Nat} {lf rt rp dp : Nat → Nat} {k : Nat} (hA : AI σ τ A pl mn hd fs fw fv ua ub lf rt k rp dp) (hF : ∀ j, j < k → ∀ i, i < mn (lf j) → fok pl fs fw fv rp (lf j) (rt j) i) : bis A mn hd fs fw fv (fun o q => A o ∧ A q ∧ rp (pl o) = rp (pl q)) := by
  obtain ⟨a1, a2, a3, a4, a5, a6⟩ := hA
  have key := a5 (fun o q => A o ∧ A q ∧ hd o = hd q ∧ ∀ i, i < mn o → fok pl fs fw fv rp o q i) (fun o ho => ⟨ho, ho, rfl, fun i _ => ⟨rfl, fun _ => rfl, fun _ => rfl⟩⟩) (fun o q ⟨x1, x2, x3, x4⟩ => ⟨x2, x1, x3.symm, fun i hi => by
      have := x4 i (by rw [mn_eq hV x1 x2 x3]; exact hi)
      exact ⟨this.1.symm, fun e => (this.2.1 (by rw [this.1]; exact e)).symm, fun e => (this.2.2 (by rw [this.1]; exact e)).symm⟩⟩) (fun o q u ⟨x1, x2, x3, x4⟩ ⟨y1, y2, y3, y4⟩ => ⟨x1, y2, x3.trans y3, fun i hi => by
      have p := x4 i hi
      have r := y4 i (by rw [← mn_eq hV x1 x2 x3]; exact hi)
      exact ⟨p.1.trans r.1, fun e => (p.2.1 e).trans (r.2.1 (by rw [← p.1]; exact e)), fun e => (p.2.2 e).trans (r.2.2 (by rw [← p.1]; exact e))⟩⟩) (fun j hj => ⟨(a4 j hj).1, (a4 j hj).2.1, (a4 j hj).2.2.1, hF j hj⟩)
  intro o q ⟨ho, hq, e⟩
  obtain ⟨x1, x2, x3, x4⟩ := key o q ho hq e
  refine ⟨ho, hq, x3, fun i hi => ⟨(x4 i hi).1, fun e2 => ?_, (x4 i hi).2.2⟩⟩
  have hi' : i < mn q := by rw [← mn_eq hV ho hq x3]; exact hi
  exact ⟨((Vw_f hV ho hi).2 e2).1, ((Vw_f hV hq hi').2 (by rw [← (x4 i hi).1]; exact e2)).1, (x4 i hi).2.1 e2⟩
theorem e_ofRoots {σ : xS} {A : Nat → Prop} {pl mn kd : Nat → Nat} {hd : Nat → Int32} {fs fc : Nat → Nat → Int32} {fv : Nat → Nat → Nat} (hV : Vw (σ 28) (σ 29) A pl mn kd hd fs fc fv) {fw : Nat → Nat → Int32} (hfw : ∀ o i, A o → i < mn o → ¬ fs o i = 2 → fc o i = fw o i) {a b : Nat} (ha : a < 16) (hb : b < 16) {sa sb va vb : Int32} {ua ub : Nat} (e17a : σ 17 a = sa) (e17b : σ 17 b = sb) (hra : sa = 2 → A ua ∧ σ 18 a = nI (pl ua)) (hrb : sb = 2 → A ub ∧ σ 18 b = nI (pl ub)) (hva : ¬ sa = 2 → σ 18 a = va) (hvb : ¬ sb = 2 → σ 18 b = vb) (Q : Int32 → xS → Prop)
    (hy : AL A mn hd fs fw fv sa sb va vb ua ub → ∀ τ, (∀ d, d ≠ 14 → d ≠ 15 → d ≠ 16 → d ≠ 4 → τ d = σ d) → Q 1 τ) (hn : ¬ AL A mn hd fs fw fv sa sb va vb ua ub → ∀ τ, (∀ d, d ≠ 14 → d ≠ 15 → d ≠ 16 → d ≠ 4 → τ d = σ d) → Q 0 τ) : p_Lik_ofRoots_4_5 (nI a) (nI b) σ Q := by
  have fin0 : ∀ τ, (∀ d, d ≠ 14 → d ≠ 15 → d ≠ 16 → d ≠ 4 → τ d = σ d) → ¬ AL A mn hd fs fw fv sa sb va vb ua ub → ∀ f x, p_Lik_ofRoots_4_5_L43 Q (f + 1) 0 (nI x) τ := fun τ hf hna f x => by
    show b_Lik_ofRoots_4_5_L43 (p_Lik_ofRoots_4_5_L43 Q f) Q 0 (nI x) τ
    unfold b_Lik_ofRoots_4_5_L43
    exact ⟨fun _ => ⟨nar_01 0 (Or.inl rfl), hn hna τ hf⟩, fun h => absurd rfl h⟩
  unfold p_Lik_ofRoots_4_5
  have key := lpF (fun f i => p_Lik_ofRoots_4_5_L3 Q f (nI a) (nI b) (nI i) (va_up σ 14 (cw (fun _ => True) id (fun k => nI k) (σ 14) i))) 640 (by
    intro f i hi hk
    show b_Lik_ofRoots_4_5_L3 (p_Lik_ofRoots_4_5_L3 Q f) Q (nI a) (nI b) (nI i) _
    unfold b_Lik_ofRoots_4_5_L3
    have l1 : ¬ 640 ≤ i := by omega
    have y := cw_y (B := fun _ => True) id (fun k => nI k) (σ 14) (k := i) trivial
    dsimp only [id] at y
    rw [← y] at hk
    simp (disch := omega) only [forall_eq, true_and, and_true, and_self, not_true_eq_false, not_false_eq_true, false_imp_iff, true_imp_iff, imp_self, implies_true, ne_eq, reduceIte, cl, cl0, cl1, cl2, vpn, vp0, le8, le16, le40, le640, le1400, le6400, lt8, lt16, le15, le2, nI_leI, nI_ltI, nI_eq, nI_1, nI_add, n_le0, n_lt0, n_0le, n_eq0, n_eq1, n_eq2, n_m1, n_m1r, Nat.reduceEqDiff, Nat.reduceAdd, Int32.add_zero, nI_pred, div16, mul15, mul40, mul16, mul640, mulr16, xu_s, xu_c, xu_k, xu_cc, rows_xu, xf_s, xf_c, rows_xf, xul_c, rows_xul, xul_L, lgc, l1, xu_xf]
    exact hk) (by
    intro f
    show b_Lik_ofRoots_4_5_L3 (p_Lik_ofRoots_4_5_L3 Q f) Q (nI a) (nI b) (nI 640) _
    unfold b_Lik_ofRoots_4_5_L3
    simp (disch := omega) only [forall_eq, true_and, and_true, and_self, not_true_eq_false, not_false_eq_true, false_imp_iff, true_imp_iff, imp_self, implies_true, ne_eq, reduceIte, cl, cl0, cl1, cl2, vpn, vp0, le8, le16, le40, le640, le1400, le6400, lt8, lt16, le15, le2, nI_leI, nI_ltI, nI_eq, nI_1, nI_add, n_le0, n_lt0, n_0le, n_eq0, n_eq1, n_eq2, n_m1, n_m1r, Nat.reduceEqDiff, Nat.reduceAdd, Int32.add_zero, nI_pred, div16, mul15, mul40, mul16, mul640, mulr16, xu_s, xu_c, xu_k, xu_cc, rows_xu, xf_s, xf_c, rows_xf, xul_c, rows_xul, xul_L, lgc, Nat.le_refl]
    obtain ⟨τ0, e0⟩ : ∃ τ0, xu (va_up σ 14 (cw (fun _ => True) id (fun k => nI k) (σ 14) 640)) 4 4 0 = τ0 := ⟨_, rfl⟩
    rw [e0]
    have fr0 : ∀ d, d ≠ 14 → d ≠ 15 → d ≠ 16 → d ≠ 4 → τ0 d = σ d := fun d d1 d2 d3 d4 => by rw [← e0, xu_c _ _ _ _ d4, xf_c _ _ _ d1]
    have l14 : ∀ p, p < 640 → τ0 14 p = nI p := fun p hp => by
      rw [← e0, xu_c _ _ _ _ (by decide), xf_s]
      exact (cw_id (B := fun _ => True) (v := fun k => nI k) (f := σ 14) 640 p).1 hp trivial
    have A0 : AI σ τ0 A pl mn hd fs fw fv ua ub (fun _ => 0) (fun _ => 0) 0 (fun p => p) (fun _ => 0) := by
      refine ⟨fr0, ⟨fun p hp => ⟨p, hp, l14 p hp, rfl, fun _ => ⟨rfl, rfl⟩, fun h => absurd rfl h, Nat.le_refl _, hp, l14 p hp⟩, ?_⟩, by rw [← e0]; simp (disch := omega) only [forall_eq, true_and, and_true, and_self, not_true_eq_false, not_false_eq_true, false_imp_iff, true_imp_iff, imp_self, implies_true, ne_eq, reduceIte, cl, cl0, cl1, cl2, vpn, vp0, le8, le16, le40, le640, le1400, le6400, lt8, lt16, le15, le2, nI_leI, nI_ltI, nI_eq, nI_1, nI_add, n_le0, n_lt0, n_0le, n_eq0, n_eq1, n_eq2, n_m1, n_m1r, Nat.reduceEqDiff, Nat.reduceAdd, Int32.add_zero, nI_pred, div16, mul15, mul40, mul16, mul640, mulr16, xu_s, xu_c, xu_k, xu_cc, rows_xu, xf_s, xf_c, rows_xf, xul_c, rows_xul, xul_L, lgc]; rfl, fun j hj => by omega, fun S s1 _ _ _ o q ho hq e => ?_, fun _ _ _ j hj => by omega⟩
      · have ec : cnt (fun p => τ0 14 p = nI p) 640 = cnt (fun i => i < 640) 640 := cnt_iff (fun p hp => ⟨fun _ => hp, fun _ => l14 p hp⟩)
        rw [ec, cnt_below]; omega
      · rw [Vw_i hV o q ho hq e]; exact s1 q hq
    have walk : ∀ τ lf rt k rp dp, sa = 2 → sb = 2 → AI σ τ A pl mn hd fs fw fv ua ub lf rt k rp dp → rp (pl ua) = rp (pl ub) → ∃ n, p_Lik_ofRoots_4_5_L43 Q n 1 0 τ := fun τ lf rt k rp dp s2 s2' hA hroot => by
      obtain ⟨Aa, _⟩ := hra s2
      obtain ⟨Ab, _⟩ := hrb s2'
      refine lpS (S := Int32 × xS) (fun f x s => p_Lik_ofRoots_4_5_L43 Q f s.1 (nI x) s.2) (fun x s => (s.1 = 1 ∧ ∃ lf rt k rp dp, AI σ s.2 A pl mn hd fs fw fv ua ub lf rt k rp dp ∧ rp (pl ua) = rp (pl ub) ∧ ∀ j, j < x → j < k → ∀ i, i < mn (lf j) → fok pl fs fw fv rp (lf j) (rt j) i) ∨ (s.1 = 0 ∧ (∀ d, d ≠ 14 → d ≠ 15 → d ≠ 16 → d ≠ 4 → s.2 d = σ d) ∧ ¬ AL A mn hd fs fw fv sa sb va vb ua ub)) 640 ?_ ?_ (s := (1, τ)) (Or.inl ⟨rfl, lf, rt, k, rp, dp, hA, hroot, fun j hj => by omega⟩)
      · rintro f x ⟨y, τ1⟩ hx hs hnx
        dsimp only at hs hnx ⊢
        rcases hs with ⟨rfl, lf1, rt1, k1, rp1, dp1, A1, r1, F1⟩ | ⟨rfl, hf, hna⟩
        · show b_Lik_ofRoots_4_5_L43 (p_Lik_ofRoots_4_5_L43 Q f) Q 1 (nI x) τ1
          unfold b_Lik_ofRoots_4_5_L43
          have hk1 := UF_k A1.2.1
          by_cases hkx : x < k1
          · have l1 : ¬ k1 ≤ x := by omega
            have l2 : ¬ 640 ≤ x := by omega
            obtain ⟨p1, p2, p3, p4, p5, p6⟩ := A1.2.2.2.1 x hkx
            have q1 := (Vw_o hV p1).1
            have q2 := (Vw_o hV p2).1
            simp (disch := omega) only [forall_eq, true_and, and_true, and_self, not_true_eq_false, not_false_eq_true, false_imp_iff, true_imp_iff, imp_self, implies_true, ne_eq, reduceIte, cl, cl0, cl1, cl2, vpn, vp0, le8, le16, le40, le640, le1400, le6400, lt8, lt16, le15, le2, nI_leI, nI_ltI, nI_eq, nI_1, nI_add, n_le0, n_lt0, n_0le, n_eq0, n_eq1, n_eq2, n_m1, n_m1r, Nat.reduceEqDiff, Nat.reduceAdd, Int32.add_zero, nI_pred, div16, mul15, mul40, mul16, mul640, mulr16, xu_s, xu_c, xu_k, xu_cc, rows_xu, xf_s, xf_c, rows_xf, xul_c, rows_xul, xul_L, lgc, n10, A1.2.2.1, l1, l2, p4, p5]
            refine e_fields hV hfw A1 p1 p2 p3 (fun Rel hb hr => A1.2.2.2.2.2 Rel hb hr x hkx) _ (fun τ' lf' rt' k' rp' dp' x1 x2 x3 => ?_) (fun τ' x1 x2 => ?_)
            · refine hnx (1, τ') (Or.inl ⟨rfl, lf', rt', k', rp', dp', x1, x2.2.2 _ _ Aa Ab r1, fun j hj hjk i hi => ?_⟩)
              by_cases e : j = x
              · rw [e] at hi ⊢
                rw [(x2.2.1 x hkx).1] at hi ⊢
                rw [(x2.2.1 x hkx).2]
                exact x3 i hi
              · have hjk1 : j < k1 := by omega
                rw [(x2.2.1 j hjk1).1] at hi ⊢
                rw [(x2.2.1 j hjk1).2]
                obtain ⟨w1, w2, w3, _⟩ := A1.2.2.2.1 j hjk1
                have hi2 : i < mn (rt1 j) := by rw [← mn_eq hV w1 w2 w3]; exact hi
                exact fok_X x2 (fun e => ((Vw_f hV w1 hi).2 e).1) (fun e => ((Vw_f hV w2 hi2).2 e).1) (F1 j (by omega) hjk1 i hi)
            · refine hnx (0, τ') (Or.inr ⟨rfl, x1, fun hal => ?_⟩)
              obtain ⟨_, h2, _⟩ := hal
              obtain ⟨Rel, hb, hr⟩ := h2 s2
              exact x2 Rel hb hr
          · have l1 : k1 ≤ x := by omega
            have hal : AL A mn hd fs fw fv sa sb va vb ua ub := ⟨by rw [s2, s2'], fun _ => ⟨_, AI_bis hV A1 (fun j hj i hi => F1 j (by omega) hj i hi), Aa, Ab, r1⟩, fun h => absurd s2 h⟩
            have hh := hy hal τ1 A1.1
            simp (disch := omega) only [forall_eq, true_and, and_true, and_self, not_true_eq_false, not_false_eq_true, false_imp_iff, true_imp_iff, imp_self, implies_true, ne_eq, reduceIte, cl, cl0, cl1, cl2, vpn, vp0, le8, le16, le40, le640, le1400, le6400, lt8, lt16, le15, le2, nI_leI, nI_ltI, nI_eq, nI_1, nI_add, n_le0, n_lt0, n_0le, n_eq0, n_eq1, n_eq2, n_m1, n_m1r, Nat.reduceEqDiff, Nat.reduceAdd, Int32.add_zero, nI_pred, div16, mul15, mul40, mul16, mul640, mulr16, xu_s, xu_c, xu_k, xu_cc, rows_xu, xf_s, xf_c, rows_xf, xul_c, rows_xul, xul_L, lgc, n10, A1.2.2.1, l1]
            exact ⟨nar_01 1 (Or.inr rfl), hh⟩
        · exact fin0 τ1 hf hna f x
      · rintro f ⟨y, τ1⟩ hs
        dsimp only at hs ⊢
        rcases hs with ⟨rfl, lf1, rt1, k1, rp1, dp1, A1, r1, F1⟩ | ⟨rfl, hf, hna⟩
        · show b_Lik_ofRoots_4_5_L43 (p_Lik_ofRoots_4_5_L43 Q f) Q 1 (nI 640) τ1
          unfold b_Lik_ofRoots_4_5_L43
          have hk1 := UF_k A1.2.1
          have l1 : k1 ≤ 640 := by omega
          have hal : AL A mn hd fs fw fv sa sb va vb ua ub := ⟨by rw [s2, s2'], fun _ => ⟨_, AI_bis hV A1 (fun j hj i hi => F1 j (by omega) hj i hi), Aa, Ab, r1⟩, fun h => absurd s2 h⟩
          have hh := hy hal τ1 A1.1
          simp (disch := omega) only [forall_eq, true_and, and_true, and_self, not_true_eq_false, not_false_eq_true, false_imp_iff, true_imp_iff, imp_self, implies_true, ne_eq, reduceIte, cl, cl0, cl1, cl2, vpn, vp0, le8, le16, le40, le640, le1400, le6400, lt8, lt16, le15, le2, nI_leI, nI_ltI, nI_eq, nI_1, nI_add, n_le0, n_lt0, n_0le, n_eq0, n_eq1, n_eq2, n_m1, n_m1r, Nat.reduceEqDiff, Nat.reduceAdd, Int32.add_zero, nI_pred, div16, mul15, mul40, mul16, mul640, mulr16, xu_s, xu_c, xu_k, xu_cc, rows_xu, xf_s, xf_c, rows_xf, xul_c, rows_xul, xul_L, lgc, n10, A1.2.2.1, l1]
          exact ⟨nar_01 1 (Or.inr rfl), hh⟩
        · exact fin0 τ1 hf hna f 640
    have t17 := fr0 17 (by decide) (by decide) (by decide) (by decide)
    have t18 := fr0 18 (by decide) (by decide) (by decide) (by decide)
    unfold p_Lik_mayBeAlike_4_5 p_Val_sortOf_5 p_Val_contentOf_5 p_Val_isReference_5
    by_cases es : sa = sb
    · by_cases e2 : sb = 2
      · have e2' : sa = 2 := by rw [es]; exact e2
        obtain ⟨Aa, ca⟩ := hra e2'
        obtain ⟨Ab, cb⟩ := hrb e2
        have pa := (Vw_o hV Aa).1
        have pb := (Vw_o hV Ab).1
        have key := e_take hV A0 Aa Ab (fun Rel hb hr => hr) (fun r19 σ18 => (narrow .boolean (.int r19) = .int r19 ∧ ∃ n, p_Lik_ofRoots_4_5_L43 Q n r19 0 σ18)) (fun τ' lf' rt' k' rp' dp' x1 x2 x3 => ⟨nar_01 1 (Or.inr rfl), walk τ' lf' rt' k' rp' dp' e2' e2 x1 x3⟩) (fun τ' x1 x2 => ⟨nar_01 0 (Or.inl rfl), 1, fin0 τ' x1 (fun hal => by
          obtain ⟨Rel, hb, hr⟩ := hal.2.1 e2'
          exact x2 Rel hb hr) 0 0⟩)
        simp (disch := omega) only [forall_eq, true_and, and_true, and_self, not_true_eq_false, not_false_eq_true, false_imp_iff, true_imp_iff, imp_self, implies_true, ne_eq, reduceIte, cl, cl0, cl1, cl2, vpn, vp0, le8, le16, le40, le640, le1400, le6400, lt8, lt16, le15, le2, nI_leI, nI_ltI, nI_eq, nI_1, nI_add, n_le0, n_lt0, n_0le, n_eq0, n_eq1, n_eq2, n_m1, n_m1r, Nat.reduceEqDiff, Nat.reduceAdd, Int32.add_zero, nI_pred, div16, mul15, mul40, mul16, mul640, mulr16, xu_s, xu_c, xu_k, xu_cc, rows_xu, xf_s, xf_c, rows_xf, xul_c, rows_xul, xul_L, lgc, t17, t18, e17a, e17b, es, e2, n10, ca, cb]
        exact key
      · have e2' : ¬ sa = 2 := by rw [es]; exact e2
        have ca := hva e2'
        have cb := hvb e2
        by_cases ev : va = vb
        · have hal : AL A mn hd fs fw fv sa sb va vb ua ub := ⟨es, fun h => absurd h e2', fun _ => ev⟩
          have hh := hy hal τ0 fr0
          simp (disch := omega) only [forall_eq, true_and, and_true, and_self, not_true_eq_false, not_false_eq_true, false_imp_iff, true_imp_iff, imp_self, implies_true, ne_eq, reduceIte, cl, cl0, cl1, cl2, vpn, vp0, le8, le16, le40, le640, le1400, le6400, lt8, lt16, le15, le2, nI_leI, nI_ltI, nI_eq, nI_1, nI_add, n_le0, n_lt0, n_0le, n_eq0, n_eq1, n_eq2, n_m1, n_m1r, Nat.reduceEqDiff, Nat.reduceAdd, Int32.add_zero, nI_pred, div16, mul15, mul40, mul16, mul640, mulr16, xu_s, xu_c, xu_k, xu_cc, rows_xu, xf_s, xf_c, rows_xf, xul_c, rows_xul, xul_L, lgc, t17, t18, e17a, e17b, es, e2, ca, cb, ev]
          refine ⟨1, ?_⟩
          show b_Lik_ofRoots_4_5_L43 (p_Lik_ofRoots_4_5_L43 Q 0) Q 1 (nI 0) τ0
          unfold b_Lik_ofRoots_4_5_L43
          simp (disch := omega) only [forall_eq, true_and, and_true, and_self, not_true_eq_false, not_false_eq_true, false_imp_iff, true_imp_iff, imp_self, implies_true, ne_eq, reduceIte, cl, cl0, cl1, cl2, vpn, vp0, le8, le16, le40, le640, le1400, le6400, lt8, lt16, le15, le2, nI_leI, nI_ltI, nI_eq, nI_1, nI_add, n_le0, n_lt0, n_0le, n_eq0, n_eq1, n_eq2, n_m1, n_m1r, Nat.reduceEqDiff, Nat.reduceAdd, Int32.add_zero, nI_pred, div16, mul15, mul40, mul16, mul640, mulr16, xu_s, xu_c, xu_k, xu_cc, rows_xu, xf_s, xf_c, rows_xf, xul_c, rows_xul, xul_L, lgc, n10, A0.2.2.1, Nat.le_refl]
          exact ⟨nar_01 1 (Or.inr rfl), hh⟩
        · have hna : ¬ AL A mn hd fs fw fv sa sb va vb ua ub := fun h => ev (h.2.2 e2')
          have hh := fin0 τ0 fr0 hna 0 0
          simp (disch := omega) only [forall_eq, true_and, and_true, and_self, not_true_eq_false, not_false_eq_true, false_imp_iff, true_imp_iff, imp_self, implies_true, ne_eq, reduceIte, cl, cl0, cl1, cl2, vpn, vp0, le8, le16, le40, le640, le1400, le6400, lt8, lt16, le15, le2, nI_leI, nI_ltI, nI_eq, nI_1, nI_add, n_le0, n_lt0, n_0le, n_eq0, n_eq1, n_eq2, n_m1, n_m1r, Nat.reduceEqDiff, Nat.reduceAdd, Int32.add_zero, nI_pred, div16, mul15, mul40, mul16, mul640, mulr16, xu_s, xu_c, xu_k, xu_cc, rows_xu, xf_s, xf_c, rows_xf, xul_c, rows_xul, xul_L, lgc, t17, t18, e17a, e17b, es, e2, ca, cb, ev]
          exact ⟨1, hh⟩
    · have hna : ¬ AL A mn hd fs fw fv sa sb va vb ua ub := fun h => es h.1
      have hh := fin0 τ0 fr0 hna 0 0
      simp (disch := omega) only [forall_eq, true_and, and_true, and_self, not_true_eq_false, not_false_eq_true, false_imp_iff, true_imp_iff, imp_self, implies_true, ne_eq, reduceIte, cl, cl0, cl1, cl2, vpn, vp0, le8, le16, le40, le640, le1400, le6400, lt8, lt16, le15, le2, nI_leI, nI_ltI, nI_eq, nI_1, nI_add, n_le0, n_lt0, n_0le, n_eq0, n_eq1, n_eq2, n_m1, n_m1r, Nat.reduceEqDiff, Nat.reduceAdd, Int32.add_zero, nI_pred, div16, mul15, mul40, mul16, mul640, mulr16, xu_s, xu_c, xu_k, xu_cc, rows_xu, xf_s, xf_c, rows_xf, xul_c, rows_xul, xul_L, lgc, t17, e17a, e17b, es]
      exact ⟨1, hh⟩)
  rw [cw_0, xf_0] at key
  exact key
