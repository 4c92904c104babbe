def PM (σ τ : xS) (st : (Nat → Nat) × Nat) : Prop := τ 31 26 = nI st.2 ∧ (∀ k, k < st.2 → τ 57 k = nI (st.1 k)) ∧ (∀ o, o < 640 → (∃ k, k < st.2 ∧ st.1 k = o ∧ τ 58 o = nI k) ∨ (τ 58 o = -1 ∧ ∀ k, k < st.2 → st.1 k ≠ o)) ∧ (∀ d, d ≠ 31 → d ≠ 57 → d ≠ 58 → τ d = σ d) ∧ (∀ k, k ≠ 26 → τ 31 k = σ 31 k)
theorem e_addM {σ τ : xS} {B : Nat → Prop} {g : Nat → Nat} {r u : Nat} {s v : Int32} {st : (Nat → Nat) × Nat} (hr : r < 8) (hB : ∀ o, B o → o < 640 ∧ g o < 8 ∧ σ 43 o = nI (g o)) (hv : s = 2 → B u ∧ v = nI u) (hG : PG B g r st) (hC : PM σ τ st) (Q : xS → Prop) (h : ∀ τ', PM σ τ' (adP g r s u st) → Q τ') : p_Mod_addPart s v (nI r) τ Q := by
  obtain ⟨C1, C2, C3, C4, C5⟩ := id hC
  have t43 := C4 43 (by decide) (by decide) (by decide)
  unfold p_Mod_addPart
  by_cases e2 : s = 2
  · obtain ⟨f3, f4⟩ := hv e2
    obtain ⟨b1, b2, b3⟩ := hB u f3
    by_cases hg : g u ≤ r
    · have hh := h τ (by rw [adP_n (fun x => by omega)]; exact hC)
      simp (disch := omega) only [forall_eq, true_and, and_true, and_self, not_true_eq_false, not_false_eq_true, false_imp_iff, true_imp_iff, imp_self, implies_true, ne_eq, reduceIte, cl, cl0, cl1, cl2, vpn, vp0, le8, le16, le40, le640, le1400, le6400, lt8, lt16, le15, le2, nI_leI, nI_ltI, nI_eq, nI_1, nI_add, n_le0, n_lt0, n_0le, n_eq0, n_eq1, n_eq2, n_m1, n_m1r, Nat.reduceEqDiff, Nat.reduceAdd, Int32.add_zero, nI_pred, div16, mul15, mul40, mul16, mul640, mulr16, xu_s, xu_c, xu_k, xu_cc, rows_xu, xf_s, xf_c, rows_xf, xul_c, rows_xul, xul_L, lgc, e2, f4, t43, b3, hg]
      exact hh
    · rcases C3 u b1 with ⟨k, k1, k2, k3⟩ | ⟨e, hno⟩
      · have hle := PG_le hG (fun o ho => (hB o ho).1)
        have hh := h τ (by rw [adP_n (fun x => x.2.2 k k1 k2)]; exact hC)
        simp (disch := omega) only [forall_eq, true_and, and_true, and_self, not_true_eq_false, not_false_eq_true, false_imp_iff, true_imp_iff, imp_self, implies_true, ne_eq, reduceIte, cl, cl0, cl1, cl2, vpn, vp0, le8, le16, le40, le640, le1400, le6400, lt8, lt16, le15, le2, nI_leI, nI_ltI, nI_eq, nI_1, nI_add, n_le0, n_lt0, n_0le, n_eq0, n_eq1, n_eq2, n_m1, n_m1r, Nat.reduceEqDiff, Nat.reduceAdd, Int32.add_zero, nI_pred, div16, mul15, mul40, mul16, mul640, mulr16, xu_s, xu_c, xu_k, xu_cc, rows_xu, xf_s, xf_c, rows_xf, xul_c, rows_xul, xul_L, lgc, e2, f4, t43, b3, hg, k3]
        exact hh
      · have hy : s = 2 ∧ r < g u ∧ ∀ k, k < st.2 → st.1 k ≠ u := ⟨e2, by omega, hno⟩
        have hle : st.2 + 1 ≤ 640 := by
          have := PG_le (adP_G (s := s) (u := u) hG (fun _ => f3)) (fun o ho => (hB o ho).1)
          rw [adP_y hy] at this
          exact this
        simp (disch := omega) only [forall_eq, true_and, and_true, and_self, not_true_eq_false, not_false_eq_true, false_imp_iff, true_imp_iff, imp_self, implies_true, ne_eq, reduceIte, cl, cl0, cl1, cl2, vpn, vp0, le8, le16, le40, le640, le1400, le6400, lt8, lt16, le15, le2, nI_leI, nI_ltI, nI_eq, nI_1, nI_add, n_le0, n_lt0, n_0le, n_eq0, n_eq1, n_eq2, n_m1, n_m1r, Nat.reduceEqDiff, Nat.reduceAdd, Int32.add_zero, nI_pred, div16, mul15, mul40, mul16, mul640, mulr16, xu_s, xu_c, xu_k, xu_cc, rows_xu, xf_s, xf_c, rows_xf, xul_c, rows_xul, xul_L, lgc, e2, f4, t43, b3, hg, e, C1]
        refine h _ ?_
        rw [adP_y hy]
        refine ⟨?_, fun k hk => ?_, fun o ho => ?_, fun d d1 d2 d3 => ?_, fun k hk => ?_⟩
        · simp (disch := omega) only [forall_eq, true_and, and_true, and_self, not_true_eq_false, not_false_eq_true, false_imp_iff, true_imp_iff, imp_self, implies_true, ne_eq, reduceIte, cl, cl0, cl1, cl2, vpn, vp0, le8, le16, le40, le640, le1400, le6400, lt8, lt16, le15, le2, nI_leI, nI_ltI, nI_eq, nI_1, nI_add, n_le0, n_lt0, n_0le, n_eq0, n_eq1, n_eq2, n_m1, n_m1r, Nat.reduceEqDiff, Nat.reduceAdd, Int32.add_zero, nI_pred, div16, mul15, mul40, mul16, mul640, mulr16, xu_s, xu_c, xu_k, xu_cc, rows_xu, xf_s, xf_c, rows_xf, xul_c, rows_xul, xul_L, lgc]
        · simp (disch := omega) only [forall_eq, true_and, and_true, and_self, not_true_eq_false, not_false_eq_true, false_imp_iff, true_imp_iff, imp_self, implies_true, ne_eq, reduceIte, cl, cl0, cl1, cl2, vpn, vp0, le8, le16, le40, le640, le1400, le6400, lt8, lt16, le15, le2, nI_leI, nI_ltI, nI_eq, nI_1, nI_add, n_le0, n_lt0, n_0le, n_eq0, n_eq1, n_eq2, n_m1, n_m1r, Nat.reduceEqDiff, Nat.reduceAdd, Int32.add_zero, nI_pred, div16, mul15, mul40, mul16, mul640, mulr16, xu_s, xu_c, xu_k, xu_cc, rows_xu, xf_s, xf_c, rows_xf, xul_c, rows_xul, xul_L, lgc]
          by_cases e' : k = st.2
          · rw [e', upd_s, vu_s]
          · rw [upd_n _ _ e', vu_n _ _ e']; exact C2 k (by dsimp only at hk; omega)
        · simp (disch := omega) only [forall_eq, true_and, and_true, and_self, not_true_eq_false, not_false_eq_true, false_imp_iff, true_imp_iff, imp_self, implies_true, ne_eq, reduceIte, cl, cl0, cl1, cl2, vpn, vp0, le8, le16, le40, le640, le1400, le6400, lt8, lt16, le15, le2, nI_leI, nI_ltI, nI_eq, nI_1, nI_add, n_le0, n_lt0, n_0le, n_eq0, n_eq1, n_eq2, n_m1, n_m1r, Nat.reduceEqDiff, Nat.reduceAdd, Int32.add_zero, nI_pred, div16, mul15, mul40, mul16, mul640, mulr16, xu_s, xu_c, xu_k, xu_cc, rows_xu, xf_s, xf_c, rows_xf, xul_c, rows_xul, xul_L, lgc]
          by_cases eo : o = u
          · left
            exact ⟨st.2, by omega, by rw [vu_s, eo], by rw [eo, upd_s]⟩
          · rw [upd_n _ _ eo]
            rcases C3 o ho with ⟨k, k1, k2, k3⟩ | ⟨y, y'⟩
            · left; exact ⟨k, by omega, by rw [vu_n _ _ (by omega)]; exact k2, k3⟩
            · right
              refine ⟨y, fun k hk => ?_⟩
              by_cases e' : k = st.2
              · rw [e', vu_s]; exact fun z => eo z.symm
              · rw [vu_n _ _ e']; exact y' k (by omega)
        · simp (disch := omega) only [forall_eq, true_and, and_true, and_self, not_true_eq_false, not_false_eq_true, false_imp_iff, true_imp_iff, imp_self, implies_true, ne_eq, reduceIte, cl, cl0, cl1, cl2, vpn, vp0, le8, le16, le40, le640, le1400, le6400, lt8, lt16, le15, le2, nI_leI, nI_ltI, nI_eq, nI_1, nI_add, n_le0, n_lt0, n_0le, n_eq0, n_eq1, n_eq2, n_m1, n_m1r, Nat.reduceEqDiff, Nat.reduceAdd, Int32.add_zero, nI_pred, div16, mul15, mul40, mul16, mul640, mulr16, xu_s, xu_c, xu_k, xu_cc, rows_xu, xf_s, xf_c, rows_xf, xul_c, rows_xul, xul_L, lgc]; exact C4 d d1 d2 d3
        · simp (disch := omega) only [forall_eq, true_and, and_true, and_self, not_true_eq_false, not_false_eq_true, false_imp_iff, true_imp_iff, imp_self, implies_true, ne_eq, reduceIte, cl, cl0, cl1, cl2, vpn, vp0, le8, le16, le40, le640, le1400, le6400, lt8, lt16, le15, le2, nI_leI, nI_ltI, nI_eq, nI_1, nI_add, n_le0, n_lt0, n_0le, n_eq0, n_eq1, n_eq2, n_m1, n_m1r, Nat.reduceEqDiff, Nat.reduceAdd, Int32.add_zero, nI_pred, div16, mul15, mul40, mul16, mul640, mulr16, xu_s, xu_c, xu_k, xu_cc, rows_xu, xf_s, xf_c, rows_xf, xul_c, rows_xul, xul_L, lgc]; exact C5 k hk
  · have hh := h τ (by rw [adP_n (fun x => e2 x.1)]; exact hC)
    simp (disch := omega) only [forall_eq, true_and, and_true, and_self, not_true_eq_false, not_false_eq_true, false_imp_iff, true_imp_iff, imp_self, implies_true, ne_eq, reduceIte, cl, cl0, cl1, cl2, vpn, vp0, le8, le16, le40, le640, le1400, le6400, lt8, lt16, le15, le2, nI_leI, nI_ltI, nI_eq, nI_1, nI_add, n_le0, n_lt0, n_0le, n_eq0, n_eq1, n_eq2, n_m1, n_m1r, Nat.reduceEqDiff, Nat.reduceAdd, Int32.add_zero, nI_pred, div16, mul15, mul40, mul16, mul640, mulr16, xu_s, xu_c, xu_k, xu_cc, rows_xu, xf_s, xf_c, rows_xf, xul_c, rows_xul, xul_L, lgc, e2]
    exact hh
theorem e_findM {σ : xS} {B : Nat → Prop} {g mn : Nat → Nat} {fs : Nat → Nat → Int32} {fv : Nat → Nat → Nat} {r j rt : Nat} (hr : r < 8) (hj : j < 16) (hB : ∀ o, B o → o < 640 ∧ g o < 8 ∧ σ 43 o = nI (g o)) (hM : ∀ o, B o → σ 42 o = nI (mn o) ∧ mn o < 16 ∧ ∀ i, i < mn o → σ 46 (15 * o + i) = fs o i ∧ (fs o i = 2 → B (fv o i) ∧ σ 47 (15 * o + i) = nI (fv o i))) (hrt : σ 54 j = 2 → B rt ∧ σ 55 j = nI rt) (Q : xS → Prop)
    (h : ∀ τ, PM σ τ (adK g mn r fs fv (adP g r (σ 54 j) rt (fun _ => 0, 0)) 640) → Q τ) : p_Mod_findParts (nI j) (nI r) σ Q := by
  have hf : ∀ o i, B o → i < mn o → fs o i = 2 → B (fv o i) := fun o i ho hi e => (((hM o ho).2.2 i hi).2 e).1
  have G0 : PG B g r ((fun _ => 0, 0) : (Nat → Nat) × Nat) := ⟨fun k hk => by dsimp only at hk; omega, fun i k _ hk => by dsimp only at hk; omega⟩
  have G1 : PG B g r (adP g r (σ 54 j) rt (fun _ => 0, 0)) := adP_G G0 (fun e => (hrt e).1)
  have walk : ∀ τ, PM σ τ (adP g r (σ 54 j) rt (fun _ => 0, 0)) → ∃ n, p_Mod_findParts_L46 Q n (nI r) 0 τ := fun τ hC => by
    have hle6 := PG_le (adK_G G1 hf 640).1 (fun o ho => (hB o ho).1)
    refine lpM (S := Nat × xS) (fun f s => p_Mod_findParts_L46 Q f (nI r) (nI s.1) s.2) (fun s => s.1 ≤ 640 ∧ PM σ s.2 (adK g mn r fs fv (adP g r (σ 54 j) rt (fun _ => 0, 0)) s.1)) (fun s => 640 - s.1) ?_ (s := (0, τ)) ⟨Nat.zero_le _, hC⟩
    rintro f ⟨k, x⟩ ⟨hk6, hx⟩ hnext
    dsimp only at hk6 hx hnext ⊢
    show b_Mod_findParts_L46 (p_Mod_findParts_L46 Q f) Q (nI r) (nI k) x
    unfold b_Mod_findParts_L46
    obtain ⟨K1, K2⟩ := adK_G G1 hf k
    have hle := PG_le K1 (fun o ho => (hB o ho).1)
    by_cases hkc : k < (adK g mn r fs fv (adP g r (σ 54 j) rt (fun _ => 0, 0)) k).2
    · have l1 : ¬ (adK g mn r fs fv (adP g r (σ 54 j) rt (fun _ => 0, 0)) k).2 ≤ k := by omega
      obtain ⟨b0, _⟩ := K1.1 k hkc
      obtain ⟨o, eo⟩ : ∃ o, (adK g mn r fs fv (adP g r (σ 54 j) rt (fun _ => 0, 0)) k).1 k = o := ⟨_, rfl⟩
      have ey := adK_y hkc
      rw [eo] at b0 ey
      obtain ⟨b1, b2, b3⟩ := hB o b0
      obtain ⟨m1, m2, m3⟩ := hM o b0
      have e57 := hx.2.1 k hkc
      rw [eo] at e57
      simp (disch := omega) only [forall_eq, true_and, and_true, and_self, not_true_eq_false, not_false_eq_true, false_imp_iff, true_imp_iff, imp_self, implies_true, ne_eq, reduceIte, cl, cl0, cl1, cl2, vpn, vp0, le8, le16, le40, le640, le1400, le6400, lt8, lt16, le15, le2, nI_leI, nI_ltI, nI_eq, nI_1, nI_add, n_le0, n_lt0, n_0le, n_eq0, n_eq1, n_eq2, n_m1, n_m1r, Nat.reduceEqDiff, Nat.reduceAdd, Int32.add_zero, nI_pred, div16, mul15, mul40, mul16, mul640, mulr16, xu_s, xu_c, xu_k, xu_cc, rows_xu, xf_s, xf_c, rows_xf, xul_c, rows_xul, xul_L, lgc, hx.1, l1, e57]
      refine lpS (S := xS) (fun f' i y => p_Mod_findParts_L65 (p_Mod_findParts_L46 Q f) Q f' (nI r) (nI k) (nI o) (nI i) y) (fun i y => PM σ y (adF g r fs fv o (adK g mn r fs fv (adP g r (σ 54 j) rt (fun _ => 0, 0)) k) i)) (mn o) ?_ ?_ (s := x) hx
      · intro f' i y hi hy hn'
        show b_Mod_findParts_L65 (p_Mod_findParts_L46 Q f) (p_Mod_findParts_L65 (p_Mod_findParts_L46 Q f) Q f') Q (nI r) (nI k) (nI o) (nI i) y
        unfold b_Mod_findParts_L65
        have l2 : ¬ mn o ≤ i := by omega
        have t42 := hy.2.2.2.1 42 (by decide) (by decide) (by decide)
        have t46 := hy.2.2.2.1 46 (by decide) (by decide) (by decide)
        have t47 := hy.2.2.2.1 47 (by decide) (by decide) (by decide)
        simp (disch := omega) only [forall_eq, true_and, and_true, and_self, not_true_eq_false, not_false_eq_true, false_imp_iff, true_imp_iff, imp_self, implies_true, ne_eq, reduceIte, cl, cl0, cl1, cl2, vpn, vp0, le8, le16, le40, le640, le1400, le6400, lt8, lt16, le15, le2, nI_leI, nI_ltI, nI_eq, nI_1, nI_add, n_le0, n_lt0, n_0le, n_eq0, n_eq1, n_eq2, n_m1, n_m1r, Nat.reduceEqDiff, Nat.reduceAdd, Int32.add_zero, nI_pred, div16, mul15, mul40, mul16, mul640, mulr16, xu_s, xu_c, xu_k, xu_cc, rows_xu, xf_s, xf_c, rows_xf, xul_c, rows_xul, xul_L, lgc, t42, m1, l2, t46, t47, (m3 i hi).1]
        exact e_addM hr hB (u := fv o i) (fun e => (m3 i hi).2 e) (adF_G K1 (fun i hi e => hf o i b0 hi e) i (by omega)) hy _ (fun τ' h' => hn' τ' h')
      · intro f' y hy
        show b_Mod_findParts_L65 (p_Mod_findParts_L46 Q f) (p_Mod_findParts_L65 (p_Mod_findParts_L46 Q f) Q f') Q (nI r) (nI k) (nI o) (nI (mn o)) y
        unfold b_Mod_findParts_L65
        have t42 := hy.2.2.2.1 42 (by decide) (by decide) (by decide)
        simp (disch := omega) only [forall_eq, true_and, and_true, and_self, not_true_eq_false, not_false_eq_true, false_imp_iff, true_imp_iff, imp_self, implies_true, ne_eq, reduceIte, cl, cl0, cl1, cl2, vpn, vp0, le8, le16, le40, le640, le1400, le6400, lt8, lt16, le15, le2, nI_leI, nI_ltI, nI_eq, nI_1, nI_add, n_le0, n_lt0, n_0le, n_eq0, n_eq1, n_eq2, n_m1, n_m1r, Nat.reduceEqDiff, Nat.reduceAdd, Int32.add_zero, nI_pred, div16, mul15, mul40, mul16, mul640, mulr16, xu_s, xu_c, xu_k, xu_cc, rows_xu, xf_s, xf_c, rows_xf, xul_c, rows_xul, xul_L, lgc, t42, m1, Nat.le_refl]
        refine hnext (k + 1, y) ⟨by dsimp only; omega, ?_⟩ (by dsimp only; omega)
        dsimp only
        rw [ey]; exact hy
    · have l1 : (adK g mn r fs fv (adP g r (σ 54 j) rt (fun _ => 0, 0)) k).2 ≤ k := by omega
      simp (disch := omega) only [forall_eq, true_and, and_true, and_self, not_true_eq_false, not_false_eq_true, false_imp_iff, true_imp_iff, imp_self, implies_true, ne_eq, reduceIte, cl, cl0, cl1, cl2, vpn, vp0, le8, le16, le40, le640, le1400, le6400, lt8, lt16, le15, le2, nI_leI, nI_ltI, nI_eq, nI_1, nI_add, n_le0, n_lt0, n_0le, n_eq0, n_eq1, n_eq2, n_m1, n_m1r, Nat.reduceEqDiff, Nat.reduceAdd, Int32.add_zero, nI_pred, div16, mul15, mul40, mul16, mul640, mulr16, xu_s, xu_c, xu_k, xu_cc, rows_xu, xf_s, xf_c, rows_xf, xul_c, rows_xul, xul_L, lgc, hx.1, l1]
      refine h x ?_
      have : ∀ d, adK g mn r fs fv (adP g r (σ 54 j) rt (fun _ => 0, 0)) (k + d) = adK g mn r fs fv (adP g r (σ 54 j) rt (fun _ => 0, 0)) k := fun d => by
        induction d with
        | zero => rfl
        | succ d ih =>
          have e := adK_n (g := g) (mn := mn) (r := r) (fs := fs) (fv := fv) (st := adP g r (σ 54 j) rt (fun _ => 0, 0)) (k := k + d) (by rw [ih]; omega)
          rw [show k + (d + 1) = k + d + 1 by omega, e, ih]
      rw [show 640 = k + (640 - k) by omega, this]
      exact hx
  unfold p_Mod_findParts
  have key := lpF (fun f i => p_Mod_findParts_L7 Q f (nI j) (nI r) (nI i) (va_up (xu σ 31 26 0) 58 (cw (fun _ => True) id (fun _ => -1) (σ 58) i))) 640 (by
    intro f i hi hk
    show b_Mod_findParts_L7 (p_Mod_findParts_L7 Q f) Q (nI j) (nI r) (nI i) _
    unfold b_Mod_findParts_L7
    have l1 : ¬ 640 ≤ i := by omega
    have y := cw_y (B := fun _ => True) id (fun _ => -1) (σ 58) (k := i) trivial
    dsimp only [id] at y
    rw [← y] at hk
    simp (disch := omega) only [forall_eq, true_and, and_true, and_self, not_true_eq_false, not_false_eq_true, false_imp_iff, true_imp_iff, imp_self, implies_true, ne_eq, reduceIte, cl, cl0, cl1, cl2, vpn, vp0, le8, le16, le40, le640, le1400, le6400, lt8, lt16, le15, le2, nI_leI, nI_ltI, nI_eq, nI_1, nI_add, n_le0, n_lt0, n_0le, n_eq0, n_eq1, n_eq2, n_m1, n_m1r, Nat.reduceEqDiff, Nat.reduceAdd, Int32.add_zero, nI_pred, div16, mul15, mul40, mul16, mul640, mulr16, xu_s, xu_c, xu_k, xu_cc, rows_xu, xf_s, xf_c, rows_xf, xul_c, rows_xul, xul_L, lgc, l1, xu_xf]
    exact hk) (by
    intro f
    show b_Mod_findParts_L7 (p_Mod_findParts_L7 Q f) Q (nI j) (nI r) (nI 640) _
    unfold b_Mod_findParts_L7
    simp (disch := omega) only [forall_eq, true_and, and_true, and_self, not_true_eq_false, not_false_eq_true, false_imp_iff, true_imp_iff, imp_self, implies_true, ne_eq, reduceIte, cl, cl0, cl1, cl2, vpn, vp0, le8, le16, le40, le640, le1400, le6400, lt8, lt16, le15, le2, nI_leI, nI_ltI, nI_eq, nI_1, nI_add, n_le0, n_lt0, n_0le, n_eq0, n_eq1, n_eq2, n_m1, n_m1r, Nat.reduceEqDiff, Nat.reduceAdd, Int32.add_zero, nI_pred, div16, mul15, mul40, mul16, mul640, mulr16, xu_s, xu_c, xu_k, xu_cc, rows_xu, xf_s, xf_c, rows_xf, xul_c, rows_xul, xul_L, lgc, Nat.le_refl]
    refine e_addM (B := B) (g := g) (u := rt) (st := (fun _ => 0, 0)) hr hB hrt G0 ⟨?_, fun k hk => by dsimp only at hk; omega, fun o ho => Or.inr ⟨?_, fun k hk => by dsimp only at hk; omega⟩, fun d d1 d2 d3 => ?_, fun k hk => ?_⟩ _ walk
    · simp (disch := omega) only [forall_eq, true_and, and_true, and_self, not_true_eq_false, not_false_eq_true, false_imp_iff, true_imp_iff, imp_self, implies_true, ne_eq, reduceIte, cl, cl0, cl1, cl2, vpn, vp0, le8, le16, le40, le640, le1400, le6400, lt8, lt16, le15, le2, nI_leI, nI_ltI, nI_eq, nI_1, nI_add, n_le0, n_lt0, n_0le, n_eq0, n_eq1, n_eq2, n_m1, n_m1r, Nat.reduceEqDiff, Nat.reduceAdd, Int32.add_zero, nI_pred, div16, mul15, mul40, mul16, mul640, mulr16, xu_s, xu_c, xu_k, xu_cc, rows_xu, xf_s, xf_c, rows_xf, xul_c, rows_xul, xul_L, lgc]; rfl
    · simp (disch := omega) only [forall_eq, true_and, and_true, and_self, not_true_eq_false, not_false_eq_true, false_imp_iff, true_imp_iff, imp_self, implies_true, ne_eq, reduceIte, cl, cl0, cl1, cl2, vpn, vp0, le8, le16, le40, le640, le1400, le6400, lt8, lt16, le15, le2, nI_leI, nI_ltI, nI_eq, nI_1, nI_add, n_le0, n_lt0, n_0le, n_eq0, n_eq1, n_eq2, n_m1, n_m1r, Nat.reduceEqDiff, Nat.reduceAdd, Int32.add_zero, nI_pred, div16, mul15, mul40, mul16, mul640, mulr16, xu_s, xu_c, xu_k, xu_cc, rows_xu, xf_s, xf_c, rows_xf, xul_c, rows_xul, xul_L, lgc]; exact (cw_id (B := fun _ => True) (v := fun _ => -1) (f := σ 58) 640 o).1 ho trivial
    · simp (disch := omega) only [forall_eq, true_and, and_true, and_self, not_true_eq_false, not_false_eq_true, false_imp_iff, true_imp_iff, imp_self, implies_true, ne_eq, reduceIte, cl, cl0, cl1, cl2, vpn, vp0, le8, le16, le40, le640, le1400, le6400, lt8, lt16, le15, le2, nI_leI, nI_ltI, nI_eq, nI_1, nI_add, n_le0, n_lt0, n_0le, n_eq0, n_eq1, n_eq2, n_m1, n_m1r, Nat.reduceEqDiff, Nat.reduceAdd, Int32.add_zero, nI_pred, div16, mul15, mul40, mul16, mul640, mulr16, xu_s, xu_c, xu_k, xu_cc, rows_xu, xf_s, xf_c, rows_xf, xul_c, rows_xul, xul_L, lgc]
    · simp (disch := omega) only [forall_eq, true_and, and_true, and_self, not_true_eq_false, not_false_eq_true, false_imp_iff, true_imp_iff, imp_self, implies_true, ne_eq, reduceIte, cl, cl0, cl1, cl2, vpn, vp0, le8, le16, le40, le640, le1400, le6400, lt8, lt16, le15, le2, nI_leI, nI_ltI, nI_eq, nI_1, nI_add, n_le0, n_lt0, n_0le, n_eq0, n_eq1, n_eq2, n_m1, n_m1r, Nat.reduceEqDiff, Nat.reduceAdd, Int32.add_zero, nI_pred, div16, mul15, mul40, mul16, mul640, mulr16, xu_s, xu_c, xu_k, xu_cc, rows_xu, xf_s, xf_c, rows_xf, xul_c, rows_xul, xul_L, lgc])
  have e0 : va_up (xu σ 31 26 0) 58 (cw (fun _ => True) id (fun _ => -1) (σ 58) 0) = xu σ 31 26 0 := by
    rw [cw_0]
    have := xf_0 (xu σ 31 26 0) 58
    rw [xu_c _ _ _ _ (by decide)] at this
    exact this
  rw [e0] at key
  exact key
def fmK (f0 : Nat) (sz : Nat → Nat) : Nat → Nat × Nat := fun k => Nat.rec (f0, 0) (fun k x => if x.1 + sz k ≤ 16 then (x.1 + sz k, x.2) else (sz k, x.2 + 1)) k
theorem fmK_y {f0 : Nat} {sz : Nat → Nat} {k : Nat} (h : (fmK f0 sz k).1 + sz k ≤ 16) : fmK f0 sz (k + 1) = ((fmK f0 sz k).1 + sz k, (fmK f0 sz k).2) := if_pos h
theorem fmK_n {f0 : Nat} {sz : Nat → Nat} {k : Nat} (h : ¬ (fmK f0 sz k).1 + sz k ≤ 16) : fmK f0 sz (k + 1) = (sz k, (fmK f0 sz k).2 + 1) := if_neg h
theorem fmK_le {f0 : Nat} {sz : Nat → Nat} (hf : f0 ≤ 16) : ∀ k, (∀ j, j < k → sz j ≤ 16) → (fmK f0 sz k).1 ≤ 16 ∧ (fmK f0 sz k).2 ≤ k := by
  intro k
  induction k with
  | zero => intro _; exact ⟨hf, Nat.le_refl _⟩
  | succ k ih =>
    intro h
    have := ih (fun j hj => h j (by omega))
    by_cases x : (fmK f0 sz k).1 + sz k ≤ 16
    · rw [fmK_y x]; exact ⟨x, by dsimp only; omega⟩
    · rw [fmK_n x]; exact ⟨h k (by omega), by dsimp only; omega⟩
theorem fmK_m {f0 : Nat} {sz : Nat → Nat} (k : Nat) : (fmK f0 sz k).2 ≤ (fmK f0 sz (k + 1)).2 := by
  by_cases x : (fmK f0 sz k).1 + sz k ≤ 16
  · rw [fmK_y x]; exact Nat.le_refl _
  · rw [fmK_n x]; exact Nat.le_succ _
theorem fmK_mono {f0 : Nat} {sz : Nat → Nat} {i : Nat} : ∀ d, (fmK f0 sz i).2 ≤ (fmK f0 sz (i + d)).2 := by
  intro d
  induction d with
  | zero => exact Nat.le_refl _
  | succ d ih => exact Nat.le_trans ih (fmK_m (i + d))
theorem sub_nI {a b : Nat} (h : b ≤ a) : nI a - nI b = nI (a - b) := by
  have e : nI a = nI (a - b) + nI b := by rw [nI_add]; congr 1; omega
  rw [e, Int32.add_sub_cancel]
theorem dec_nI {x : Int32} (k : Nat) : x - nI k + (-1) = x - nI (k + 1) := by
  have h1 : x - nI k = x + -nI k := Int32.sub_eq_add_neg _ _
  have h2 : x - (nI k + 1) = x + (-nI k + -1) := by rw [Int32.sub_eq_add_neg, Int32.neg_add, Int32.sub_eq_add_neg]
  rw [← nI_1, h1, h2, ← Int32.add_assoc]
theorem neg_lt {a b : Nat} (ha : a < 100000) (hb : b < 100000) : nI a - nI b < 0 ↔ a < b := by
  by_cases h : b ≤ a
  · rw [sub_nI h]
    exact ⟨fun x => absurd x (nI_pos (by omega)), fun x => by omega⟩
  · have e : nI a - nI b = - nI (b - a) := by
      have : nI b = nI (b - a) + nI a := by rw [nI_add]; congr 1; omega
      rw [this, Int32.sub_eq_add_neg, Int32.neg_add, Int32.sub_eq_add_neg, Int32.add_comm, Int32.add_assoc, Int32.add_left_neg, Int32.add_zero]
    refine ⟨fun _ => by omega, fun _ => ?_⟩
    rw [e, Int32.lt_iff_toInt_lt, Int32.toInt_neg, nI_toInt (by omega)]
    have : Int.bmod (-((b - a : Nat) : Int)) (2 ^ 32) = -((b - a : Nat) : Int) := by
      apply Int.bmod_eq_of_le <;> omega
    rw [this]
    show _ < (0 : Int)
    omega
