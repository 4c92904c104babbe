theorem i_gt {c : Nat} (hc : c < 100000) {x : Int32} (h : nI (c + 1) ≤ x) : ¬ x ≤ nI c := by
  rw [Int32.le_iff_toInt_le, nI_toInt (by omega)] at h ⊢
  omega
def badShape (a b c : Int32) : Prop := a < 0 ∨ (¬ a < 0 ∧ 3 ≤ a ∧ ¬ a ≤ 2) ∨ ∃ k, k < 3 ∧ a = nI k ∧ (b < 0 ∨ (¬ b < 0 ∧ 1000 ≤ b ∧ ¬ b ≤ 999) ∨ ∃ g, g < 1000 ∧ b = nI g ∧ (c < 0 ∨ (¬ c < 0 ∧ ¬ c < 1 ∧ 16 ≤ c ∧ ¬ c ≤ 15) ∨ (k = 2 ∧ c = 0)))
theorem shape_cases (a b c : Int32) : badShape a b c ∨ ∃ k g n, k < 3 ∧ g < 1000 ∧ n < 16 ∧ (k = 2 → 0 < n) ∧ a = nI k ∧ b = nI g ∧ c = nI n := by
  rcases pk_ix a (n := 3) (by decide) with h | h | ⟨k, hk, rfl⟩
  · exact Or.inl (Or.inl h)
  · by_cases h0 : a < 0
    · exact Or.inl (Or.inl h0)
    · exact Or.inl (Or.inr (Or.inl ⟨h0, h, i_gt (c := 2) (by decide) h⟩))
  rcases pk_ix b (n := 1000) (by decide) with h | h | ⟨g, hg, rfl⟩
  · exact Or.inl (Or.inr (Or.inr ⟨k, hk, rfl, Or.inl h⟩))
  · by_cases h0 : b < 0
    · exact Or.inl (Or.inr (Or.inr ⟨k, hk, rfl, Or.inl h0⟩))
    · exact Or.inl (Or.inr (Or.inr ⟨k, hk, rfl, Or.inr (Or.inl ⟨h0, h, i_gt (c := 999) (by decide) h⟩)⟩))
  rcases pk_ix c (n := 16) (by decide) with h | h | ⟨n, hn, rfl⟩
  · exact Or.inl (Or.inr (Or.inr ⟨k, hk, rfl, Or.inr (Or.inr ⟨g, hg, rfl, Or.inl h⟩)⟩))
  · by_cases h0 : c < 0
    · exact Or.inl (Or.inr (Or.inr ⟨k, hk, rfl, Or.inr (Or.inr ⟨g, hg, rfl, Or.inl h0⟩)⟩))
    · refine Or.inl (Or.inr (Or.inr ⟨k, hk, rfl, Or.inr (Or.inr ⟨g, hg, rfl, Or.inr (Or.inl ⟨h0, ?_, h, i_gt (c := 15) (by decide) h⟩)⟩)⟩))
      intro h1
      have h1' : c < nI 1 := h1
      rw [Int32.lt_iff_toInt_lt, nI_toInt (by decide)] at h1'
      have h' : nI 16 ≤ c := h
      rw [Int32.le_iff_toInt_le, nI_toInt (by decide)] at h'
      omega
  · by_cases hb : k = 2 ∧ n = 0
    · exact Or.inl (Or.inr (Or.inr ⟨k, hk, rfl, Or.inr (Or.inr ⟨g, hg, rfl, Or.inr (Or.inr ⟨hb.1, by rw [hb.2]; rfl⟩)⟩)⟩))
    · exact Or.inr ⟨k, g, n, hk, hg, hn, fun e => by omega, rfl, rfl, rfl⟩
theorem le_2 {i : Nat} (h : i < 2147483648) : nI i ≤ (2 : Int32) ↔ i ≤ 2 := nI_leI (b := 2) h (by decide)
theorem le_3 {i : Nat} (h : i < 2147483648) : (3 : Int32) ≤ nI i ↔ 3 ≤ i := nI_leI (a := 3) (by decide) h
theorem le_999 {i : Nat} (h : i < 2147483648) : nI i ≤ (999 : Int32) ↔ i ≤ 999 := nI_leI (b := 999) h (by decide)
theorem le_1000 {i : Nat} (h : i < 2147483648) : (1000 : Int32) ≤ nI i ↔ 1000 ≤ i := nI_leI (a := 1000) (by decide) h
theorem le_15 {i : Nat} (h : i < 2147483648) : nI i ≤ (15 : Int32) ↔ i ≤ 15 := nI_leI (b := 15) h (by decide)
theorem lt_1 {i : Nat} (h : i < 2147483648) : nI i < (1 : Int32) ↔ i < 1 := nI_ltI (b := 1) h (by decide)
theorem e_cs {k g n : Nat} (hk : k < 3) (hg : g < 1000) (hn : n < 16) (h2 : k = 2 → 0 < n) (σ : xS) (Q : xS → Prop) : p_Rp_checkShape (nI k) (nI g) (nI n) σ Q ↔ Q σ := by
  unfold p_Rp_checkShape p_Rp_checkShape_J50
  have a1 : k ≤ 2 := by omega
  have a2 : g ≤ 999 := by omega
  have a3 : n ≤ 15 := by omega
  by_cases e : k = 2
  · have : ¬ n < 1 := by have := h2 e; omega
    simp (disch := omega) only [forall_eq, true_and, and_true, and_self, not_true_eq_false, not_false_eq_true, false_imp_iff, true_imp_iff, imp_self, implies_true, ne_eq, reduceIte, cl, cl0, cl1, cl2, vpn, vp0, le8, le16, le40, le640, le1400, le6400, lt8, lt16, le15, le2, nI_leI, nI_ltI, nI_eq, nI_1, nI_add, n_le0, n_lt0, n_0le, n_eq0, n_eq1, n_eq2, n_m1, n_m1r, Nat.reduceEqDiff, Nat.reduceAdd, Int32.add_zero, nI_pred, div16, mul15, mul40, mul16, mul640, mulr16, xu_s, xu_c, xu_k, xu_cc, rows_xu, xf_s, xf_c, rows_xf, xul_c, rows_xul, xul_L, lgc, le_2, le_999, le_15, lt_1, a1, a2, a3, e, this, Nat.le_refl]
  · simp (disch := omega) only [forall_eq, true_and, and_true, and_self, not_true_eq_false, not_false_eq_true, false_imp_iff, true_imp_iff, imp_self, implies_true, ne_eq, reduceIte, cl, cl0, cl1, cl2, vpn, vp0, le8, le16, le40, le640, le1400, le6400, lt8, lt16, le15, le2, nI_leI, nI_ltI, nI_eq, nI_1, nI_add, n_le0, n_lt0, n_0le, n_eq0, n_eq1, n_eq2, n_m1, n_m1r, Nat.reduceEqDiff, Nat.reduceAdd, Int32.add_zero, nI_pred, div16, mul15, mul40, mul16, mul640, mulr16, xu_s, xu_c, xu_k, xu_cc, rows_xu, xf_s, xf_c, rows_xf, xul_c, rows_xul, xul_L, lgc, le_2, le_999, le_15, lt_1, a1, a2, a3, e]
theorem e_qs {k g n : Nat} (hk : k < 3) (hg : g < 1000) (hn : n < 16) (h2 : k = 2 → 0 < n) (σ : xS) (E : String) : q_Rp_checkShape (nI k) (nI g) (nI n) σ E ↔ False := by
  unfold q_Rp_checkShape
  have a1 : k ≤ 2 := by omega
  have a2 : g ≤ 999 := by omega
  have a3 : n ≤ 15 := by omega
  by_cases e : k = 2
  · have : ¬ n < 1 := by have := h2 e; omega
    simp (disch := omega) only [forall_eq, true_and, and_true, and_self, not_true_eq_false, not_false_eq_true, false_imp_iff, true_imp_iff, imp_self, implies_true, ne_eq, reduceIte, cl, cl0, cl1, cl2, vpn, vp0, le8, le16, le40, le640, le1400, le6400, lt8, lt16, le15, le2, nI_leI, nI_ltI, nI_eq, nI_1, nI_add, n_le0, n_lt0, n_0le, n_eq0, n_eq1, n_eq2, n_m1, n_m1r, Nat.reduceEqDiff, Nat.reduceAdd, Int32.add_zero, nI_pred, div16, mul15, mul40, mul16, mul640, mulr16, xu_s, xu_c, xu_k, xu_cc, rows_xu, xf_s, xf_c, rows_xf, xul_c, rows_xul, xul_L, lgc, le_2, le_999, le_15, lt_1, a1, a2, a3, e, this, Nat.le_refl]
  · simp (disch := omega) only [forall_eq, true_and, and_true, and_self, not_true_eq_false, not_false_eq_true, false_imp_iff, true_imp_iff, imp_self, implies_true, ne_eq, reduceIte, cl, cl0, cl1, cl2, vpn, vp0, le8, le16, le40, le640, le1400, le6400, lt8, lt16, le15, le2, nI_leI, nI_ltI, nI_eq, nI_1, nI_add, n_le0, n_lt0, n_0le, n_eq0, n_eq1, n_eq2, n_m1, n_m1r, Nat.reduceEqDiff, Nat.reduceAdd, Int32.add_zero, nI_pred, div16, mul15, mul40, mul16, mul640, mulr16, xu_s, xu_c, xu_k, xu_cc, rows_xu, xf_s, xf_c, rows_xf, xul_c, rows_xul, xul_L, lgc, le_2, le_999, le_15, lt_1, a1, a2, a3, e]
theorem e_qsN {a b c : Int32} (h : badShape a b c) (σ : xS) : q_Rp_checkShape a b c σ "java/lang/IllegalArgumentException" := by
  unfold q_Rp_checkShape
  rcases h with h | ⟨h, h', h''⟩ | ⟨k, hk, rfl, h⟩
  · simp (disch := omega) only [forall_eq, true_and, and_true, and_self, not_true_eq_false, not_false_eq_true, false_imp_iff, true_imp_iff, imp_self, implies_true, ne_eq, reduceIte, cl, cl0, cl1, cl2, vpn, vp0, le8, le16, le40, le640, le1400, le6400, lt8, lt16, le15, le2, nI_leI, nI_ltI, nI_eq, nI_1, nI_add, n_le0, n_lt0, n_0le, n_eq0, n_eq1, n_eq2, n_m1, n_m1r, Nat.reduceEqDiff, Nat.reduceAdd, Int32.add_zero, nI_pred, div16, mul15, mul40, mul16, mul640, mulr16, xu_s, xu_c, xu_k, xu_cc, rows_xu, xf_s, xf_c, rows_xf, xul_c, rows_xul, xul_L, lgc, h]
  · simp (disch := omega) only [forall_eq, true_and, and_true, and_self, not_true_eq_false, not_false_eq_true, false_imp_iff, true_imp_iff, imp_self, implies_true, ne_eq, reduceIte, cl, cl0, cl1, cl2, vpn, vp0, le8, le16, le40, le640, le1400, le6400, lt8, lt16, le15, le2, nI_leI, nI_ltI, nI_eq, nI_1, nI_add, n_le0, n_lt0, n_0le, n_eq0, n_eq1, n_eq2, n_m1, n_m1r, Nat.reduceEqDiff, Nat.reduceAdd, Int32.add_zero, nI_pred, div16, mul15, mul40, mul16, mul640, mulr16, xu_s, xu_c, xu_k, xu_cc, rows_xu, xf_s, xf_c, rows_xf, xul_c, rows_xul, xul_L, lgc, h, h'']
  · have a1 : k ≤ 2 := by omega
    rcases h with h | ⟨h, h', h''⟩ | ⟨g, hg, rfl, h⟩
    · simp (disch := omega) only [forall_eq, true_and, and_true, and_self, not_true_eq_false, not_false_eq_true, false_imp_iff, true_imp_iff, imp_self, implies_true, ne_eq, reduceIte, cl, cl0, cl1, cl2, vpn, vp0, le8, le16, le40, le640, le1400, le6400, lt8, lt16, le15, le2, nI_leI, nI_ltI, nI_eq, nI_1, nI_add, n_le0, n_lt0, n_0le, n_eq0, n_eq1, n_eq2, n_m1, n_m1r, Nat.reduceEqDiff, Nat.reduceAdd, Int32.add_zero, nI_pred, div16, mul15, mul40, mul16, mul640, mulr16, xu_s, xu_c, xu_k, xu_cc, rows_xu, xf_s, xf_c, rows_xf, xul_c, rows_xul, xul_L, lgc, le_2, a1, h]
    · simp (disch := omega) only [forall_eq, true_and, and_true, and_self, not_true_eq_false, not_false_eq_true, false_imp_iff, true_imp_iff, imp_self, implies_true, ne_eq, reduceIte, cl, cl0, cl1, cl2, vpn, vp0, le8, le16, le40, le640, le1400, le6400, lt8, lt16, le15, le2, nI_leI, nI_ltI, nI_eq, nI_1, nI_add, n_le0, n_lt0, n_0le, n_eq0, n_eq1, n_eq2, n_m1, n_m1r, Nat.reduceEqDiff, Nat.reduceAdd, Int32.add_zero, nI_pred, div16, mul15, mul40, mul16, mul640, mulr16, xu_s, xu_c, xu_k, xu_cc, rows_xu, xf_s, xf_c, rows_xf, xul_c, rows_xul, xul_L, lgc, le_2, a1, h, h'']
    · have a2 : g ≤ 999 := by omega
      rcases h with h | ⟨h, h1, h', h''⟩ | ⟨h, h'⟩
      · have h1 : c < 1 := by
          have h0 : c < nI 0 := h
          show c < nI 1
          rw [Int32.lt_iff_toInt_lt, nI_toInt (by decide)] at h0 ⊢
          omega
        simp (disch := omega) only [forall_eq, true_and, and_true, and_self, not_true_eq_false, not_false_eq_true, false_imp_iff, true_imp_iff, imp_self, implies_true, ne_eq, reduceIte, cl, cl0, cl1, cl2, vpn, vp0, le8, le16, le40, le640, le1400, le6400, lt8, lt16, le15, le2, nI_leI, nI_ltI, nI_eq, nI_1, nI_add, n_le0, n_lt0, n_0le, n_eq0, n_eq1, n_eq2, n_m1, n_m1r, Nat.reduceEqDiff, Nat.reduceAdd, Int32.add_zero, nI_pred, div16, mul15, mul40, mul16, mul640, mulr16, xu_s, xu_c, xu_k, xu_cc, rows_xu, xf_s, xf_c, rows_xf, xul_c, rows_xul, xul_L, lgc, le_2, a1, le_999, a2, h, h1]
      · simp (disch := omega) only [forall_eq, true_and, and_true, and_self, not_true_eq_false, not_false_eq_true, false_imp_iff, true_imp_iff, imp_self, implies_true, ne_eq, reduceIte, cl, cl0, cl1, cl2, vpn, vp0, le8, le16, le40, le640, le1400, le6400, lt8, lt16, le15, le2, nI_leI, nI_ltI, nI_eq, nI_1, nI_add, n_le0, n_lt0, n_0le, n_eq0, n_eq1, n_eq2, n_m1, n_m1r, Nat.reduceEqDiff, Nat.reduceAdd, Int32.add_zero, nI_pred, div16, mul15, mul40, mul16, mul640, mulr16, xu_s, xu_c, xu_k, xu_cc, rows_xu, xf_s, xf_c, rows_xf, xul_c, rows_xul, xul_L, lgc, le_2, a1, le_999, a2, h, h1, h'']
      · subst h h'
        have z : (0 : Int32) < 1 := by decide
        simp (disch := omega) only [forall_eq, true_and, and_true, and_self, not_true_eq_false, not_false_eq_true, false_imp_iff, true_imp_iff, imp_self, implies_true, ne_eq, reduceIte, cl, cl0, cl1, cl2, vpn, vp0, le8, le16, le40, le640, le1400, le6400, lt8, lt16, le15, le2, nI_leI, nI_ltI, nI_eq, nI_1, nI_add, n_le0, n_lt0, n_0le, n_eq0, n_eq1, n_eq2, n_m1, n_m1r, Nat.reduceEqDiff, Nat.reduceAdd, Int32.add_zero, nI_pred, div16, mul15, mul40, mul16, mul640, mulr16, xu_s, xu_c, xu_k, xu_cc, rows_xu, xf_s, xf_c, rows_xf, xul_c, rows_xul, xul_L, lgc, le_2, le_999, a2, z]
theorem mk_any {x1 x2 x3 x4 x5 : Int32} {σ : xS} (Q : Int32 → xS → Prop) (h : ∀ y, p_Mod_make_J57 Q x1 x2 x3 x4 x5 y σ) : p_Mod_make x1 x2 x3 x4 x5 σ Q := by
  unfold p_Mod_make p_Mod_isRegion p_Mod_make_J56 p_Mod_make_J42 p_Mod_make_J56
  have a := h 0
  have b := h 1
  refine ⟨fun _ => ⟨fun _ => a, fun _ => ⟨fun _ => a, fun _ => ⟨fun _ => a, fun _ => ⟨fun _ => a, fun _ => ⟨fun _ => a, fun _ => ⟨fun _ => ⟨fun _ => a, fun _ => ⟨fun _ => a, fun _ => b⟩⟩, fun _ => ⟨fun _ => a, fun _ => ⟨fun _ => a, fun _ => b⟩⟩⟩⟩⟩⟩⟩⟩, fun _ => ⟨fun _ => ⟨fun _ => a, fun _ => ⟨fun _ => a, fun _ => ⟨fun _ => a, fun _ => ⟨fun _ => a, fun _ => ⟨fun _ => a, fun _ => ⟨fun _ => ⟨fun _ => a, fun _ => ⟨fun _ => a, fun _ => b⟩⟩, fun _ => ⟨fun _ => a, fun _ => ⟨fun _ => a, fun _ => b⟩⟩⟩⟩⟩⟩⟩⟩, fun _ => ⟨fun _ => a, fun _ => ⟨fun _ => a, fun _ => ⟨fun _ => a, fun _ => ⟨fun _ => a, fun _ => ⟨fun _ => a, fun _ => ⟨fun _ => ⟨fun _ => a, fun _ => ⟨fun _ => a, fun _ => b⟩⟩, fun _ => ⟨fun _ => a, fun _ => ⟨fun _ => a, fun _ => b⟩⟩⟩⟩⟩⟩⟩⟩⟩⟩
theorem mk_bad {x1 x2 x3 x4 x5 : Int32} {R : Nat} {σ : xS} (e : σ 31 13 = nI R) (hb : badReg x2 R ∨ badShape x3 x4 x5) (Q : Int32 → xS → Prop) (a : p_Mod_make_J57 Q x1 x2 x3 x4 x5 0 σ) : p_Mod_make x1 x2 x3 x4 x5 σ Q := by
  unfold p_Mod_make
  rcases hb with hb | h
  · rw [e_mrgN hb e]
    exact ⟨fun _ => a, fun x => absurd rfl x⟩
  · have sh : ((x3 < 0 → p_Mod_make_J56 Q x1 x2 x3 x4 x5 σ) ∧ (¬ x3 < 0 → ((3 ≤ x3 → p_Mod_make_J56 Q x1 x2 x3 x4 x5 σ) ∧ (¬ 3 ≤ x3 → ((x4 < 0 → p_Mod_make_J56 Q x1 x2 x3 x4 x5 σ) ∧ (¬ x4 < 0 → ((1000 ≤ x4 → p_Mod_make_J56 Q x1 x2 x3 x4 x5 σ) ∧ (¬ 1000 ≤ x4 → ((¬ x3 = 2 → p_Mod_make_J42 Q x1 x2 x3 x4 x5 0 x5 σ) ∧ (x3 = 2 → p_Mod_make_J42 Q x1 x2 x3 x4 x5 1 x5 σ)))))))))) := by
      unfold p_Mod_make_J42 p_Mod_make_J56
      rcases h with h | ⟨h, h', h''⟩ | ⟨k, hk, rfl, h⟩
      · exact ⟨fun _ => a, fun x => absurd h x⟩
      · exact ⟨fun x => absurd x h, fun _ => ⟨fun _ => a, fun x => absurd h' x⟩⟩
      · have a1 : ¬ 3 ≤ k := by omega
        rcases h with h | ⟨h, h', h''⟩ | ⟨g, hg, rfl, h⟩
        · simp (disch := omega) only [forall_eq, true_and, and_true, and_self, not_true_eq_false, not_false_eq_true, false_imp_iff, true_imp_iff, imp_self, implies_true, ne_eq, reduceIte, cl, cl0, cl1, cl2, vpn, vp0, le8, le16, le40, le640, le1400, le6400, lt8, lt16, le15, le2, nI_leI, nI_ltI, nI_eq, nI_1, nI_add, n_le0, n_lt0, n_0le, n_eq0, n_eq1, n_eq2, n_m1, n_m1r, Nat.reduceEqDiff, Nat.reduceAdd, Int32.add_zero, nI_pred, div16, mul15, mul40, mul16, mul640, mulr16, xu_s, xu_c, xu_k, xu_cc, rows_xu, xf_s, xf_c, rows_xf, xul_c, rows_xul, xul_L, lgc, le_3, a1, h]; exact a
        · simp (disch := omega) only [forall_eq, true_and, and_true, and_self, not_true_eq_false, not_false_eq_true, false_imp_iff, true_imp_iff, imp_self, implies_true, ne_eq, reduceIte, cl, cl0, cl1, cl2, vpn, vp0, le8, le16, le40, le640, le1400, le6400, lt8, lt16, le15, le2, nI_leI, nI_ltI, nI_eq, nI_1, nI_add, n_le0, n_lt0, n_0le, n_eq0, n_eq1, n_eq2, n_m1, n_m1r, Nat.reduceEqDiff, Nat.reduceAdd, Int32.add_zero, nI_pred, div16, mul15, mul40, mul16, mul640, mulr16, xu_s, xu_c, xu_k, xu_cc, rows_xu, xf_s, xf_c, rows_xf, xul_c, rows_xul, xul_L, lgc, le_3, a1, h, h']; exact a
        · have a2 : ¬ 1000 ≤ g := by omega
          rcases h with h | ⟨h, h1, h', h''⟩ | ⟨h, h'⟩
          · have h1 : x5 < 1 := by
              have h0 : x5 < nI 0 := h
              show x5 < nI 1
              rw [Int32.lt_iff_toInt_lt, nI_toInt (by decide)] at h0 ⊢
              omega
            simp (disch := omega) only [forall_eq, true_and, and_true, and_self, not_true_eq_false, not_false_eq_true, false_imp_iff, true_imp_iff, imp_self, implies_true, ne_eq, reduceIte, cl, cl0, cl1, cl2, vpn, vp0, le8, le16, le40, le640, le1400, le6400, lt8, lt16, le15, le2, nI_leI, nI_ltI, nI_eq, nI_1, nI_add, n_le0, n_lt0, n_0le, n_eq0, n_eq1, n_eq2, n_m1, n_m1r, Nat.reduceEqDiff, Nat.reduceAdd, Int32.add_zero, nI_pred, div16, mul15, mul40, mul16, mul640, mulr16, xu_s, xu_c, xu_k, xu_cc, rows_xu, xf_s, xf_c, rows_xf, xul_c, rows_xul, xul_L, lgc, le_3, a1, le_1000, a2, h, h1]
            exact ⟨fun _ => a, fun _ => a⟩
          · simp (disch := omega) only [forall_eq, true_and, and_true, and_self, not_true_eq_false, not_false_eq_true, false_imp_iff, true_imp_iff, imp_self, implies_true, ne_eq, reduceIte, cl, cl0, cl1, cl2, vpn, vp0, le8, le16, le40, le640, le1400, le6400, lt8, lt16, le15, le2, nI_leI, nI_ltI, nI_eq, nI_1, nI_add, n_le0, n_lt0, n_0le, n_eq0, n_eq1, n_eq2, n_m1, n_m1r, Nat.reduceEqDiff, Nat.reduceAdd, Int32.add_zero, nI_pred, div16, mul15, mul40, mul16, mul640, mulr16, xu_s, xu_c, xu_k, xu_cc, rows_xu, xf_s, xf_c, rows_xf, xul_c, rows_xul, xul_L, lgc, le_3, a1, le_1000, a2, h, h1, h']
            exact ⟨fun _ => a, fun _ => a⟩
          · subst h h'
            have z : (0 : Int32) < 1 := by decide
            simp (disch := omega) only [forall_eq, true_and, and_true, and_self, not_true_eq_false, not_false_eq_true, false_imp_iff, true_imp_iff, imp_self, implies_true, ne_eq, reduceIte, cl, cl0, cl1, cl2, vpn, vp0, le8, le16, le40, le640, le1400, le6400, lt8, lt16, le15, le2, nI_leI, nI_ltI, nI_eq, nI_1, nI_add, n_le0, n_lt0, n_0le, n_eq0, n_eq1, n_eq2, n_m1, n_m1r, Nat.reduceEqDiff, Nat.reduceAdd, Int32.add_zero, nI_pred, div16, mul15, mul40, mul16, mul640, mulr16, xu_s, xu_c, xu_k, xu_cc, rows_xu, xf_s, xf_c, rows_xf, xul_c, rows_xul, xul_L, lgc, le_3, le_1000, a2, z]
            exact ⟨fun x => absurd x (by decide), fun _ => a⟩
    unfold p_Mod_isRegion
    refine ⟨fun _ => ⟨fun _ => a, fun _ => sh⟩, fun _ => ⟨fun _ => ⟨fun _ => a, fun _ => sh⟩, fun _ => ⟨fun _ => a, fun _ => sh⟩⟩⟩
theorem mk_good {x1 : Int32} {j k g n R : Nat} {σ : xS} (hR : R ≤ 8) (hj : j < R) (e : σ 31 13 = nI R) (hk : k < 3) (hg : g < 1000) (hn : n < 16) (h2 : k = 2 → 0 < n) (Q : Int32 → xS → Prop) (a : p_Mod_make_J57 Q x1 (nI j) (nI k) (nI g) (nI n) 1 σ) : p_Mod_make x1 (nI j) (nI k) (nI g) (nI n) σ Q := by
  unfold p_Mod_make p_Mod_make_J42
  rw [e_mrg hR hj e]
  have a1 : ¬ 3 ≤ k := by omega
  have a2 : ¬ 1000 ≤ g := by omega
  have a3 : ¬ 16 ≤ n := by omega
  by_cases ek : k = 2
  · have : ¬ n < 1 := by have := h2 ek; omega
    rw [ek] at a ⊢
    have e2 : nI 2 = 2 := rfl
    simp (disch := omega) only [forall_eq, true_and, and_true, and_self, not_true_eq_false, not_false_eq_true, false_imp_iff, true_imp_iff, imp_self, implies_true, ne_eq, reduceIte, cl, cl0, cl1, cl2, vpn, vp0, le8, le16, le40, le640, le1400, le6400, lt8, lt16, le15, le2, nI_leI, nI_ltI, nI_eq, nI_1, nI_add, n_le0, n_lt0, n_0le, n_eq0, n_eq1, n_eq2, n_m1, n_m1r, Nat.reduceEqDiff, Nat.reduceAdd, Int32.add_zero, nI_pred, div16, mul15, mul40, mul16, mul640, mulr16, xu_s, xu_c, xu_k, xu_cc, rows_xu, xf_s, xf_c, rows_xf, xul_c, rows_xul, xul_L, lgc, le_3, le_1000, lt_1, a2, a3, n10, this] at a ⊢
    first
      | exact a
      | exact ⟨fun x => absurd x (by decide), fun _ => a⟩
  · simp (disch := omega) only [forall_eq, true_and, and_true, and_self, not_true_eq_false, not_false_eq_true, false_imp_iff, true_imp_iff, imp_self, implies_true, ne_eq, reduceIte, cl, cl0, cl1, cl2, vpn, vp0, le8, le16, le40, le640, le1400, le6400, lt8, lt16, le15, le2, nI_leI, nI_ltI, nI_eq, nI_1, nI_add, n_le0, n_lt0, n_0le, n_eq0, n_eq1, n_eq2, n_m1, n_m1r, Nat.reduceEqDiff, Nat.reduceAdd, Int32.add_zero, nI_pred, div16, mul15, mul40, mul16, mul640, mulr16, xu_s, xu_c, xu_k, xu_cc, rows_xu, xf_s, xf_c, rows_xf, xul_c, rows_xul, xul_L, lgc, le_3, le_1000, lt_1, a1, a2, a3, n10, ek]
    exact a
