theorem upd_s (f : Nat → Int32) (k : Nat) (v : Int32) : upd f k v k = v := pk_us
theorem upd_n (f : Nat → Int32) {k j : Nat} (v : Int32) (h : j ≠ k) : upd f k v j = f j := pk_un h
theorem xul_c (σ : xS) (c k : Nat) (x : Int64) {d : Nat} (h : d ≠ c) : xul σ c k x d = σ d := xf_c σ c _ h
theorem rows_xul (σ : xS) (c k : Nat) (x : Int64) (h : c < 32 ∨ 40 ≤ c) : rowsF (xul σ c k x) = rowsF σ := rows_xf σ c _ h
theorem xul_L (σ : xS) (c k : Nat) (x : Int64) : xL (xul σ c k x c) k = x := by
  unfold xul
  rw [xf_s]
  rw [xL_up]; exact pk_uLs
theorem lgc (x y : Int64) : lg_cmp x y = 0 ↔ x = y := by
  unfold lg_cmp
  by_cases h : x > y
  · rw [if_pos h]
    exact ⟨fun e => absurd e (by decide), fun e => (Int64.lt_irrefl (e ▸ h)).elim⟩
  · rw [if_neg h]
    by_cases e : x = y
    · rw [if_pos e]; exact ⟨fun _ => e, fun _ => rfl⟩
    · rw [if_neg e]; exact ⟨fun e => absurd e (by decide), fun h => absurd h e⟩
theorem Inv_thr (t : Nat) (σ : xS) (v : Int32) (h : Inv t σ) : Inv t (xu σ 31 0 v) := by
  unfold Inv Ref Cls at h ⊢
  simp (disch := omega) only [forall_eq, true_and, and_true, and_self, not_true_eq_false, not_false_eq_true, false_imp_iff, true_imp_iff, imp_self, implies_true, ne_eq, reduceIte, cl, cl0, cl1, cl2, vpn, vp0, le8, le16, le40, le640, le1400, le6400, lt8, lt16, le15, le2, nI_leI, nI_ltI, nI_eq, nI_1, nI_add, n_le0, n_lt0, n_0le, n_eq0, n_eq1, n_eq2, n_m1, n_m1r, Nat.reduceEqDiff, Nat.reduceAdd, Int32.add_zero, nI_pred, div16, mul15, mul40, mul16, mul640, mulr16, xu_s, xu_c, xu_k, xu_cc, rows_xu, xf_s, xf_c, rows_xf, xul_c, rows_xul, xul_L, lgc]
  exact h
theorem Inv_out (t : Nat) (σ : xS) (k : Nat) (v : Int64) (h : Inv t σ) : Inv t (xul σ 30 k v) := by
  unfold Inv Ref Cls at h ⊢
  simp (disch := omega) only [forall_eq, true_and, and_true, and_self, not_true_eq_false, not_false_eq_true, false_imp_iff, true_imp_iff, imp_self, implies_true, ne_eq, reduceIte, cl, cl0, cl1, cl2, vpn, vp0, le8, le16, le40, le640, le1400, le6400, lt8, lt16, le15, le2, nI_leI, nI_ltI, nI_eq, nI_1, nI_add, n_le0, n_lt0, n_0le, n_eq0, n_eq1, n_eq2, n_m1, n_m1r, Nat.reduceEqDiff, Nat.reduceAdd, Int32.add_zero, nI_pred, div16, mul15, mul40, mul16, mul640, mulr16, xu_s, xu_c, xu_k, xu_cc, rows_xu, xf_s, xf_c, rows_xf, xul_c, rows_xul, xul_L, lgc]
  exact h
theorem k_0 (xs : Nat → Int32) (L : Nat) (x4 : Int32) (t : Nat) (σ : xS) (ht : t < 512) (hI : Inv t σ) (hL : lawOk L x4) : o_0 xs L x4 σ (Inv (t + 1)) := by
  have hI' := Inv_nop t σ ht hI
  obtain ⟨⟨h1, h2, h3, h4, h5, h6, h7, h8, h9⟩, c1, c2, c3, c4, c5, c6, c7⟩ := id hI'
  obtain ⟨r, hr, hr8⟩ : ∃ r, σ 31 13 = nI r ∧ r ≤ 8 := ⟨_, h6.1, h6.2.1⟩
  have hr7 : σ 7 4 = nI r := by rw [c3.1, hr]
  unfold o_0 p_Rp_open p_Reg_begin p_Mod_open
  by_cases hlt : r < 8
  · have h8' : ¬ nI r = 8 := fun e => by have := (nI_eq (a := r) (b := 8) (by omega) (by decide)).mp e; omega
    simp (disch := omega) only [forall_eq, true_and, and_true, and_self, not_true_eq_false, not_false_eq_true, false_imp_iff, true_imp_iff, imp_self, implies_true, ne_eq, reduceIte, cl, cl0, cl1, cl2, vpn, vp0, le8, le16, le40, le640, le1400, le6400, lt8, lt16, le15, le2, nI_leI, nI_ltI, nI_eq, nI_1, nI_add, n_le0, n_lt0, n_0le, n_eq0, n_eq1, n_eq2, n_m1, n_m1r, Nat.reduceEqDiff, Nat.reduceAdd, Int32.add_zero, nI_pred, div16, mul15, mul40, mul16, mul640, mulr16, xu_s, xu_c, xu_k, xu_cc, rows_xu, xf_s, xf_c, rows_xf, xul_c, rows_xul, xul_L, lgc, hr7, hr, p_Reg_emptyRow, hlt, h8']
    unfold Inv Ref Cls
    simp (disch := omega) only [forall_eq, true_and, and_true, and_self, not_true_eq_false, not_false_eq_true, false_imp_iff, true_imp_iff, imp_self, implies_true, ne_eq, reduceIte, cl, cl0, cl1, cl2, vpn, vp0, le8, le16, le40, le640, le1400, le6400, lt8, lt16, le15, le2, nI_leI, nI_ltI, nI_eq, nI_1, nI_add, n_le0, n_lt0, n_0le, n_eq0, n_eq1, n_eq2, n_m1, n_m1r, Nat.reduceEqDiff, Nat.reduceAdd, Int32.add_zero, nI_pred, div16, mul15, mul40, mul16, mul640, mulr16, xu_s, xu_c, xu_k, xu_cc, rows_xu, xf_s, xf_c, rows_xf, xul_c, rows_xul, xul_L, lgc, hr7, hr]
    rw [hr] at h1 h6 h7 c3
    have e1 : (nI r).toNatClampNeg = r := cl (by omega)
    have e2 : (nI (r + 1)).toNatClampNeg = r + 1 := cl (by omega)
    refine ⟨⟨?_, h2, h3, h4, h5, ?_, ?_, ?_, h9⟩, c1, c2, ?_, c4, c5, c6, c7⟩
    · intro o ho
      obtain ⟨a1, a2, a3, a4, ⟨a5, a6⟩, a7⟩ := h1 o ho
      exact ⟨a1, a2, a3, a4, ⟨a5, by simp (disch := omega) only [forall_eq, true_and, and_true, and_self, not_true_eq_false, not_false_eq_true, false_imp_iff, true_imp_iff, imp_self, implies_true, ne_eq, reduceIte, cl, cl0, cl1, cl2, vpn, vp0, le8, le16, le40, le640, le1400, le6400, lt8, lt16, le15, le2, nI_leI, nI_ltI, nI_eq, nI_1, nI_add, n_le0, n_lt0, n_0le, n_eq0, n_eq1, n_eq2, n_m1, n_m1r, Nat.reduceEqDiff, Nat.reduceAdd, Int32.add_zero, nI_pred, div16, mul15, mul40, mul16, mul640, mulr16, xu_s, xu_c, xu_k, xu_cc, rows_xu, xf_s, xf_c, rows_xf, xul_c, rows_xul, xul_L, lgc] at a6 ⊢; omega⟩, a7⟩
    · refine ⟨by rw [e2], by omega, fun q hq => ?_⟩
      by_cases e : q = r
      · rw [e, upd_s, upd_s]
        exact ⟨⟨rfl, Nat.zero_le _⟩, ⟨rfl, Nat.zero_le _⟩, Iff.rfl, fun k hk => absurd hk (Nat.not_lt_zero _), fun j k _ hk => absurd hk (Nat.not_lt_zero _)⟩
      · rw [upd_n _ _ e, upd_n _ _ e]
        exact h6.2.2 q (by omega)
    · intro p hp
      rcases h7 p hp with h | ⟨ha, q, k, hq, hk, hb⟩
      · exact Or.inl h
      · exact Or.inr ⟨ha, q, k, by omega, by rw [upd_n _ _ (by omega)]; exact hk, hb⟩
    · refine ⟨fun o ho => ?_, h8.2⟩
      have hg : (σ 43 o).toNatClampNeg < r := by have := (h1 o ho).2.2.2.2.1.2; omega
      rw [upd_n _ _ (by omega), upd_n _ _ (by omega)]
      exact h8.1 o ho
    · refine ⟨rfl, fun q hq => ?_⟩
      by_cases e : q = r
      · rw [e, upd_s, upd_s, upd_s, upd_s]
        exact ⟨rfl, rfl, fun k hk => absurd hk (Nat.not_lt_zero _)⟩
      · rw [upd_n _ _ e, upd_n _ _ e, upd_n _ _ e, upd_n _ _ e]
        exact c3.2 q (by omega)
  · have h8' : r = 8 := by omega
    rw [h8'] at hr hr7
    have e8 : nI 8 = 8 := rfl
    simp (disch := omega) only [forall_eq, true_and, and_true, and_self, not_true_eq_false, not_false_eq_true, false_imp_iff, true_imp_iff, imp_self, implies_true, ne_eq, reduceIte, cl, cl0, cl1, cl2, vpn, vp0, le8, le16, le40, le640, le1400, le6400, lt8, lt16, le15, le2, nI_leI, nI_ltI, nI_eq, nI_1, nI_add, n_le0, n_lt0, n_0le, n_eq0, n_eq1, n_eq2, n_m1, n_m1r, Nat.reduceEqDiff, Nat.reduceAdd, Int32.add_zero, nI_pred, div16, mul15, mul40, mul16, mul640, mulr16, xu_s, xu_c, xu_k, xu_cc, rows_xu, xf_s, xf_c, rows_xf, xul_c, rows_xul, xul_L, lgc, hr7, hr, e8]
    exact ⟨fun h => absurd h (by decide), fun _ => Inv_thr _ _ _ hI'⟩

theorem root_cases (x : Int32) : (x < 0 ∨ ¬ x < 0 ∧ 16 ≤ x ∧ ¬ x < 16) ∨ ∃ j, j < 16 ∧ x = nI j := by
  rcases pk_ix x (n := 16) (by decide) with h | h | h
  · exact Or.inl (Or.inl h)
  · by_cases h0 : x < 0
    · exact Or.inl (Or.inl h0)
    · exact Or.inl (Or.inr ⟨h0, h, Int32.not_lt.mpr h⟩)
  · exact Or.inr h
def badRoot (x : Int32) : Prop := x < 0 ∨ ¬ x < 0 ∧ 16 ≤ x ∧ ¬ x < 16
theorem e_isRoot {j : Nat} (h : j < 16) (σ : xS) (Q : Int32 → xS → Prop) : p_Mod_isRoot (nI j) σ Q ↔ Q 1 σ := by
  unfold p_Mod_isRoot
  have : ¬ 16 ≤ j := by omega
  simp (disch := omega) only [forall_eq, true_and, and_true, and_self, not_true_eq_false, not_false_eq_true, false_imp_iff, true_imp_iff, imp_self, implies_true, ne_eq, reduceIte, cl, cl0, cl1, cl2, vpn, vp0, le8, le16, le40, le640, le1400, le6400, lt8, lt16, le15, le2, nI_leI, nI_ltI, nI_eq, nI_1, nI_add, n_le0, n_lt0, n_0le, n_eq0, n_eq1, n_eq2, n_m1, n_m1r, Nat.reduceEqDiff, Nat.reduceAdd, Int32.add_zero, nI_pred, div16, mul15, mul40, mul16, mul640, mulr16, xu_s, xu_c, xu_k, xu_cc, rows_xu, xf_s, xf_c, rows_xf, xul_c, rows_xul, xul_L, lgc, this]
theorem e_isRootN {x : Int32} (h : badRoot x) (σ : xS) (Q : Int32 → xS → Prop) : p_Mod_isRoot x σ Q ↔ Q 0 σ := by
  unfold p_Mod_isRoot
  rcases h with h | ⟨h, h', _⟩
  · simp (disch := omega) only [forall_eq, true_and, and_true, and_self, not_true_eq_false, not_false_eq_true, false_imp_iff, true_imp_iff, imp_self, implies_true, ne_eq, reduceIte, cl, cl0, cl1, cl2, vpn, vp0, le8, le16, le40, le640, le1400, le6400, lt8, lt16, le15, le2, nI_leI, nI_ltI, nI_eq, nI_1, nI_add, n_le0, n_lt0, n_0le, n_eq0, n_eq1, n_eq2, n_m1, n_m1r, Nat.reduceEqDiff, Nat.reduceAdd, Int32.add_zero, nI_pred, div16, mul15, mul40, mul16, mul640, mulr16, xu_s, xu_c, xu_k, xu_cc, rows_xu, xf_s, xf_c, rows_xf, xul_c, rows_xul, xul_L, lgc, h]
  · simp (disch := omega) only [forall_eq, true_and, and_true, and_self, not_true_eq_false, not_false_eq_true, false_imp_iff, true_imp_iff, imp_self, implies_true, ne_eq, reduceIte, cl, cl0, cl1, cl2, vpn, vp0, le8, le16, le40, le640, le1400, le6400, lt8, lt16, le15, le2, nI_leI, nI_ltI, nI_eq, nI_1, nI_add, n_le0, n_lt0, n_0le, n_eq0, n_eq1, n_eq2, n_m1, n_m1r, Nat.reduceEqDiff, Nat.reduceAdd, Int32.add_zero, nI_pred, div16, mul15, mul40, mul16, mul640, mulr16, xu_s, xu_c, xu_k, xu_cc, rows_xu, xf_s, xf_c, rows_xf, xul_c, rows_xul, xul_L, lgc, h, h']
theorem e_goes (σ : xS) (Q : Int32 → xS → Prop) : p_Mod_goes 1 1 σ Q ↔ Q 1 (xu σ 31 0 0) := by
  have : ¬ (1 : Int32) = 0 := by decide
  unfold p_Mod_goes p_Mod_goes_J18
  simp (disch := omega) only [forall_eq, true_and, and_true, and_self, not_true_eq_false, not_false_eq_true, false_imp_iff, true_imp_iff, imp_self, implies_true, ne_eq, reduceIte, cl, cl0, cl1, cl2, vpn, vp0, le8, le16, le40, le640, le1400, le6400, lt8, lt16, le15, le2, nI_leI, nI_ltI, nI_eq, nI_1, nI_add, n_le0, n_lt0, n_0le, n_eq0, n_eq1, n_eq2, n_m1, n_m1r, Nat.reduceEqDiff, Nat.reduceAdd, Int32.add_zero, nI_pred, div16, mul15, mul40, mul16, mul640, mulr16, xu_s, xu_c, xu_k, xu_cc, rows_xu, xf_s, xf_c, rows_xf, xul_c, rows_xul, xul_L, lgc, this]
theorem e_goes1 (y : Int32) (σ : xS) (Q : Int32 → xS → Prop) : p_Mod_goes 0 y σ Q ↔ Q 0 (xu σ 31 0 1) := by
  have : ¬ (1 : Int32) = 0 := by decide
  unfold p_Mod_goes p_Mod_goes_J18
  simp (disch := omega) only [forall_eq, true_and, and_true, and_self, not_true_eq_false, not_false_eq_true, false_imp_iff, true_imp_iff, imp_self, implies_true, ne_eq, reduceIte, cl, cl0, cl1, cl2, vpn, vp0, le8, le16, le40, le640, le1400, le6400, lt8, lt16, le15, le2, nI_leI, nI_ltI, nI_eq, nI_1, nI_add, n_le0, n_lt0, n_0le, n_eq0, n_eq1, n_eq2, n_m1, n_m1r, Nat.reduceEqDiff, Nat.reduceAdd, Int32.add_zero, nI_pred, div16, mul15, mul40, mul16, mul640, mulr16, xu_s, xu_c, xu_k, xu_cc, rows_xu, xf_s, xf_c, rows_xf, xul_c, rows_xul, xul_L, lgc, this]
theorem e_goes2 (σ : xS) (Q : Int32 → xS → Prop) : p_Mod_goes 1 0 σ Q ↔ Q 0 (xu σ 31 0 2) := by
  have : ¬ (1 : Int32) = 0 := by decide
  have : ¬ (2 : Int32) = 0 := by decide
  unfold p_Mod_goes p_Mod_goes_J18
  simp (disch := omega) only [forall_eq, true_and, and_true, and_self, not_true_eq_false, not_false_eq_true, false_imp_iff, true_imp_iff, imp_self, implies_true, ne_eq, reduceIte, cl, cl0, cl1, cl2, vpn, vp0, le8, le16, le40, le640, le1400, le6400, lt8, lt16, le15, le2, nI_leI, nI_ltI, nI_eq, nI_1, nI_add, n_le0, n_lt0, n_0le, n_eq0, n_eq1, n_eq2, n_m1, n_m1r, Nat.reduceEqDiff, Nat.reduceAdd, Int32.add_zero, nI_pred, div16, mul15, mul40, mul16, mul640, mulr16, xu_s, xu_c, xu_k, xu_cc, rows_xu, xf_s, xf_c, rows_xf, xul_c, rows_xul, xul_L, lgc, *]
theorem e_cr {j : Nat} (h : j < 16) (σ : xS) (Q : xS → Prop) : p_Rp_checkRoot (nI j) σ Q ↔ Q σ := by
  unfold p_Rp_checkRoot
  simp (disch := omega) only [forall_eq, true_and, and_true, and_self, not_true_eq_false, not_false_eq_true, false_imp_iff, true_imp_iff, imp_self, implies_true, ne_eq, reduceIte, cl, cl0, cl1, cl2, vpn, vp0, le8, le16, le40, le640, le1400, le6400, lt8, lt16, le15, le2, nI_leI, nI_ltI, nI_eq, nI_1, nI_add, n_le0, n_lt0, n_0le, n_eq0, n_eq1, n_eq2, n_m1, n_m1r, Nat.reduceEqDiff, Nat.reduceAdd, Int32.add_zero, nI_pred, div16, mul15, mul40, mul16, mul640, mulr16, xu_s, xu_c, xu_k, xu_cc, rows_xu, xf_s, xf_c, rows_xf, xul_c, rows_xul, xul_L, lgc, h]
theorem e_crN {x : Int32} (h : badRoot x) (σ : xS) (Q : xS → Prop) : p_Rp_checkRoot x σ Q ↔ False := by
  unfold p_Rp_checkRoot p_Rp_checkRoot_J10
  rcases h with h | ⟨h, _, h'⟩
  · simp (disch := omega) only [forall_eq, true_and, and_true, and_self, not_true_eq_false, not_false_eq_true, false_imp_iff, true_imp_iff, imp_self, implies_true, ne_eq, reduceIte, cl, cl0, cl1, cl2, vpn, vp0, le8, le16, le40, le640, le1400, le6400, lt8, lt16, le15, le2, nI_leI, nI_ltI, nI_eq, nI_1, nI_add, n_le0, n_lt0, n_0le, n_eq0, n_eq1, n_eq2, n_m1, n_m1r, Nat.reduceEqDiff, Nat.reduceAdd, Int32.add_zero, nI_pred, div16, mul15, mul40, mul16, mul640, mulr16, xu_s, xu_c, xu_k, xu_cc, rows_xu, xf_s, xf_c, rows_xf, xul_c, rows_xul, xul_L, lgc, h, imp_false]
  · simp (disch := omega) only [forall_eq, true_and, and_true, and_self, not_true_eq_false, not_false_eq_true, false_imp_iff, true_imp_iff, imp_self, implies_true, ne_eq, reduceIte, cl, cl0, cl1, cl2, vpn, vp0, le8, le16, le40, le640, le1400, le6400, lt8, lt16, le15, le2, nI_leI, nI_ltI, nI_eq, nI_1, nI_add, n_le0, n_lt0, n_0le, n_eq0, n_eq1, n_eq2, n_m1, n_m1r, Nat.reduceEqDiff, Nat.reduceAdd, Int32.add_zero, nI_pred, div16, mul15, mul40, mul16, mul640, mulr16, xu_s, xu_c, xu_k, xu_cc, rows_xu, xf_s, xf_c, rows_xf, xul_c, rows_xul, xul_L, lgc, h, h']
theorem e_qr {j : Nat} (h : j < 16) (σ : xS) (E : String) : q_Rp_checkRoot (nI j) σ E ↔ False := by
  unfold q_Rp_checkRoot
  simp (disch := omega) only [forall_eq, true_and, and_true, and_self, not_true_eq_false, not_false_eq_true, false_imp_iff, true_imp_iff, imp_self, implies_true, ne_eq, reduceIte, cl, cl0, cl1, cl2, vpn, vp0, le8, le16, le40, le640, le1400, le6400, lt8, lt16, le15, le2, nI_leI, nI_ltI, nI_eq, nI_1, nI_add, n_le0, n_lt0, n_0le, n_eq0, n_eq1, n_eq2, n_m1, n_m1r, Nat.reduceEqDiff, Nat.reduceAdd, Int32.add_zero, nI_pred, div16, mul15, mul40, mul16, mul640, mulr16, xu_s, xu_c, xu_k, xu_cc, rows_xu, xf_s, xf_c, rows_xf, xul_c, rows_xul, xul_L, lgc, h]
theorem e_qrN {x : Int32} (h : badRoot x) (σ : xS) (E : String) : q_Rp_checkRoot x σ E ↔ E = "java/lang/IndexOutOfBoundsException" := by
  unfold q_Rp_checkRoot
  rcases h with h | ⟨h, _, h'⟩
  · simp (disch := omega) only [forall_eq, true_and, and_true, and_self, not_true_eq_false, not_false_eq_true, false_imp_iff, true_imp_iff, imp_self, implies_true, ne_eq, reduceIte, cl, cl0, cl1, cl2, vpn, vp0, le8, le16, le40, le640, le1400, le6400, lt8, lt16, le15, le2, nI_leI, nI_ltI, nI_eq, nI_1, nI_add, n_le0, n_lt0, n_0le, n_eq0, n_eq1, n_eq2, n_m1, n_m1r, Nat.reduceEqDiff, Nat.reduceAdd, Int32.add_zero, nI_pred, div16, mul15, mul40, mul16, mul640, mulr16, xu_s, xu_c, xu_k, xu_cc, rows_xu, xf_s, xf_c, rows_xf, xul_c, rows_xul, xul_L, lgc, h]
  · simp (disch := omega) only [forall_eq, true_and, and_true, and_self, not_true_eq_false, not_false_eq_true, false_imp_iff, true_imp_iff, imp_self, implies_true, ne_eq, reduceIte, cl, cl0, cl1, cl2, vpn, vp0, le8, le16, le40, le640, le1400, le6400, lt8, lt16, le15, le2, nI_leI, nI_ltI, nI_eq, nI_1, nI_add, n_le0, n_lt0, n_0le, n_eq0, n_eq1, n_eq2, n_m1, n_m1r, Nat.reduceEqDiff, Nat.reduceAdd, Int32.add_zero, nI_pred, div16, mul15, mul40, mul16, mul640, mulr16, xu_s, xu_c, xu_k, xu_cc, rows_xu, xf_s, xf_c, rows_xf, xul_c, rows_xul, xul_L, lgc, h, h']
theorem tr_n {P : Nat → Int32} {s v : Int32} (h : ¬ s = 2) : tr P s v = v := if_neg h
theorem tr_2 {P : Nat → Int32} {v : Int32} : tr P 2 v = P ((v).toNatClampNeg) := if_pos rfl
theorem n01 : ¬ (0 : Int32) = 1 := by decide
theorem n10 : ¬ (1 : Int32) = 0 := by decide
theorem n20 : ¬ (2 : Int32) = 0 := by decide
theorem n02 : ¬ (0 : Int32) = 2 := by decide
theorem n12 : ¬ (1 : Int32) = 2 := by decide
theorem n21 : ¬ (2 : Int32) = 1 := by decide
theorem Inv_root (t : Nat) (σ : xS) (j : Nat) (hj : j < 16) (s v : Int32) (hv : vOk (σ 40) (σ 43) 8 s v) (h : Inv t σ) : Inv t (xu (xu (xu (xu σ 17 j s) 18 j (tr (σ 44) s v)) 54 j s) 55 j v) := by
  unfold Inv Ref Cls at h ⊢
  obtain ⟨⟨h1, h2, h3, h4, h5, h6, h7, h8, h9⟩, c1, c2, c3, c4, c5, c6, c7⟩ := h
  simp (disch := omega) only [forall_eq, true_and, and_true, and_self, not_true_eq_false, not_false_eq_true, false_imp_iff, true_imp_iff, imp_self, implies_true, ne_eq, reduceIte, cl, cl0, cl1, cl2, vpn, vp0, le8, le16, le40, le640, le1400, le6400, lt8, lt16, le15, le2, nI_leI, nI_ltI, nI_eq, nI_1, nI_add, n_le0, n_lt0, n_0le, n_eq0, n_eq1, n_eq2, n_m1, n_m1r, Nat.reduceEqDiff, Nat.reduceAdd, Int32.add_zero, nI_pred, div16, mul15, mul40, mul16, mul640, mulr16, xu_s, xu_c, xu_k, xu_cc, rows_xu, xf_s, xf_c, rows_xf, xul_c, rows_xul, xul_L, lgc]
  refine ⟨⟨h1, h2, h3, ?_, h5, h6, h7, h8, h9⟩, c1, ?_, c3, c4, c5, c6, c7⟩
  · intro k hk
    by_cases e : k = j
    · rw [e, upd_s, upd_s]; exact hv
    · rw [upd_n _ _ e, upd_n _ _ e]; exact h4 k hk
  · intro k hk
    by_cases e : k = j
    · rw [e, upd_s, upd_s, upd_s, upd_s]; exact ⟨rfl, rfl⟩
    · rw [upd_n _ _ e, upd_n _ _ e, upd_n _ _ e, upd_n _ _ e]; exact c2 k hk
theorem k_3 (xs : Nat → Int32) (L : Nat) (x4 : Int32) (t : Nat) (σ : xS) (ht : t < 512) (hI : Inv t σ) (hL : lawOk L x4) : o_3 xs L x4 σ (Inv (t + 1)) := by
  have hI' := Inv_nop t σ ht hI
  unfold o_3 p_Law_clear p_Rp_clear q_Rp_clear p_Mod_clear p_Mod_thrown p_Val_setNil_5 p_Val_assign_5
  generalize xs (x4 + 1).toNatClampNeg = x
  rcases root_cases x with h | ⟨j, hj, rfl⟩
  · have h : badRoot x := h
    simp (disch := omega) only [forall_eq, true_and, and_true, and_self, not_true_eq_false, not_false_eq_true, false_imp_iff, true_imp_iff, imp_self, implies_true, ne_eq, reduceIte, cl, cl0, cl1, cl2, vpn, vp0, le8, le16, le40, le640, le1400, le6400, lt8, lt16, le15, le2, nI_leI, nI_ltI, nI_eq, nI_1, nI_add, n_le0, n_lt0, n_0le, n_eq0, n_eq1, n_eq2, n_m1, n_m1r, Nat.reduceEqDiff, Nat.reduceAdd, Int32.add_zero, nI_pred, div16, mul15, mul40, mul16, mul640, mulr16, xu_s, xu_c, xu_k, xu_cc, rows_xu, xf_s, xf_c, rows_xf, xul_c, rows_xul, xul_L, lgc, hL.1, e_isRootN h, e_goes1, e_crN h, e_qrN h, or_false, false_or, n10, n01]
    exact Inv_thr _ _ _ hI'
  · simp (disch := omega) only [forall_eq, true_and, and_true, and_self, not_true_eq_false, not_false_eq_true, false_imp_iff, true_imp_iff, imp_self, implies_true, ne_eq, reduceIte, cl, cl0, cl1, cl2, vpn, vp0, le8, le16, le40, le640, le1400, le6400, lt8, lt16, le15, le2, nI_leI, nI_ltI, nI_eq, nI_1, nI_add, n_le0, n_lt0, n_0le, n_eq0, n_eq1, n_eq2, n_m1, n_m1r, Nat.reduceEqDiff, Nat.reduceAdd, Int32.add_zero, nI_pred, div16, mul15, mul40, mul16, mul640, mulr16, xu_s, xu_c, xu_k, xu_cc, rows_xu, xf_s, xf_c, rows_xf, xul_c, rows_xul, xul_L, lgc, hL.1, e_isRoot hj, e_goes, e_cr hj, e_qr hj, or_false, false_or, n10, n01]
    have := Inv_root (t + 1) (xu σ 31 0 0) j hj 0 0 (Or.inl ⟨rfl, rfl⟩) (Inv_thr _ _ _ hI')
    unfold Inv Ref Cls at this ⊢
    simp (disch := omega) only [forall_eq, true_and, and_true, and_self, not_true_eq_false, not_false_eq_true, false_imp_iff, true_imp_iff, imp_self, implies_true, ne_eq, reduceIte, cl, cl0, cl1, cl2, vpn, vp0, le8, le16, le40, le640, le1400, le6400, lt8, lt16, le15, le2, nI_leI, nI_ltI, nI_eq, nI_1, nI_add, n_le0, n_lt0, n_0le, n_eq0, n_eq1, n_eq2, n_m1, n_m1r, Nat.reduceEqDiff, Nat.reduceAdd, Int32.add_zero, nI_pred, div16, mul15, mul40, mul16, mul640, mulr16, xu_s, xu_c, xu_k, xu_cc, rows_xu, xf_s, xf_c, rows_xf, xul_c, rows_xul, xul_L, lgc, tr_n n02] at this ⊢
    exact this
theorem k_4 (xs : Nat → Int32) (L : Nat) (x4 : Int32) (t : Nat) (σ : xS) (ht : t < 512) (hI : Inv t σ) (hL : lawOk L x4) : o_4 xs L x4 σ (Inv (t + 1)) := by
  have hI' := Inv_nop t σ ht hI
  unfold o_4 p_Law_number p_Rp_number q_Rp_number p_Mod_number p_Mod_thrown p_Val_setNumber_5 p_Val_assign_5
  generalize xs (x4 + 1).toNatClampNeg = x
  generalize xs (x4 + 2).toNatClampNeg = v
  rcases root_cases x with h | ⟨j, hj, rfl⟩
  · have h : badRoot x := h
    simp (disch := omega) only [forall_eq, true_and, and_true, and_self, not_true_eq_false, not_false_eq_true, false_imp_iff, true_imp_iff, imp_self, implies_true, ne_eq, reduceIte, cl, cl0, cl1, cl2, vpn, vp0, le8, le16, le40, le640, le1400, le6400, lt8, lt16, le15, le2, nI_leI, nI_ltI, nI_eq, nI_1, nI_add, n_le0, n_lt0, n_0le, n_eq0, n_eq1, n_eq2, n_m1, n_m1r, Nat.reduceEqDiff, Nat.reduceAdd, Int32.add_zero, nI_pred, div16, mul15, mul40, mul16, mul640, mulr16, xu_s, xu_c, xu_k, xu_cc, rows_xu, xf_s, xf_c, rows_xf, xul_c, rows_xul, xul_L, lgc, hL.1, hL.2.1, e_isRootN h, e_goes1, e_crN h, e_qrN h, or_false, false_or, n10, n01]
    exact Inv_thr _ _ _ hI'
  · simp (disch := omega) only [forall_eq, true_and, and_true, and_self, not_true_eq_false, not_false_eq_true, false_imp_iff, true_imp_iff, imp_self, implies_true, ne_eq, reduceIte, cl, cl0, cl1, cl2, vpn, vp0, le8, le16, le40, le640, le1400, le6400, lt8, lt16, le15, le2, nI_leI, nI_ltI, nI_eq, nI_1, nI_add, n_le0, n_lt0, n_0le, n_eq0, n_eq1, n_eq2, n_m1, n_m1r, Nat.reduceEqDiff, Nat.reduceAdd, Int32.add_zero, nI_pred, div16, mul15, mul40, mul16, mul640, mulr16, xu_s, xu_c, xu_k, xu_cc, rows_xu, xf_s, xf_c, rows_xf, xul_c, rows_xul, xul_L, lgc, hL.1, hL.2.1, e_isRoot hj, e_goes, e_cr hj, e_qr hj, or_false, false_or, n10, n01]
    have := Inv_root (t + 1) (xu σ 31 0 0) j hj 1 v (Or.inr (Or.inl rfl)) (Inv_thr _ _ _ hI')
    unfold Inv Ref Cls at this ⊢
    simp (disch := omega) only [forall_eq, true_and, and_true, and_self, not_true_eq_false, not_false_eq_true, false_imp_iff, true_imp_iff, imp_self, implies_true, ne_eq, reduceIte, cl, cl0, cl1, cl2, vpn, vp0, le8, le16, le40, le640, le1400, le6400, lt8, lt16, le15, le2, nI_leI, nI_ltI, nI_eq, nI_1, nI_add, n_le0, n_lt0, n_0le, n_eq0, n_eq1, n_eq2, n_m1, n_m1r, Nat.reduceEqDiff, Nat.reduceAdd, Int32.add_zero, nI_pred, div16, mul15, mul40, mul16, mul640, mulr16, xu_s, xu_c, xu_k, xu_cc, rows_xu, xf_s, xf_c, rows_xf, xul_c, rows_xul, xul_L, lgc, tr_n n12] at this ⊢
    exact this
theorem k_5 (xs : Nat → Int32) (L : Nat) (x4 : Int32) (t : Nat) (σ : xS) (ht : t < 512) (hI : Inv t σ) (hL : lawOk L x4) : o_5 xs L x4 σ (Inv (t + 1)) := by
  have hI' := Inv_nop t σ ht hI
  unfold o_5 p_Law_move p_Rp_move q_Rp_move p_Mod_move p_Mod_thrown p_Val_take_5_5 p_Val_assign_5 p_Mod_move_J19 p_Mod_move_J20
  generalize xs (x4 + 1).toNatClampNeg = x
  generalize xs (x4 + 2).toNatClampNeg = y
  rcases root_cases x with h | ⟨j, hj, rfl⟩
  · have h : badRoot x := h
    simp (disch := omega) only [forall_eq, true_and, and_true, and_self, not_true_eq_false, not_false_eq_true, false_imp_iff, true_imp_iff, imp_self, implies_true, ne_eq, reduceIte, cl, cl0, cl1, cl2, vpn, vp0, le8, le16, le40, le640, le1400, le6400, lt8, lt16, le15, le2, nI_leI, nI_ltI, nI_eq, nI_1, nI_add, n_le0, n_lt0, n_0le, n_eq0, n_eq1, n_eq2, n_m1, n_m1r, Nat.reduceEqDiff, Nat.reduceAdd, Int32.add_zero, nI_pred, div16, mul15, mul40, mul16, mul640, mulr16, xu_s, xu_c, xu_k, xu_cc, rows_xu, xf_s, xf_c, rows_xf, xul_c, rows_xul, xul_L, lgc, hL.1, hL.2.1, e_isRootN h, e_goes1, e_crN h, e_qrN h, or_false, false_or, n10, n01]
    exact Inv_thr _ _ _ hI'
  · rcases root_cases y with h | ⟨i, hi, rfl⟩
    · have h : badRoot y := h
      simp (disch := omega) only [forall_eq, true_and, and_true, and_self, not_true_eq_false, not_false_eq_true, false_imp_iff, true_imp_iff, imp_self, implies_true, ne_eq, reduceIte, cl, cl0, cl1, cl2, vpn, vp0, le8, le16, le40, le640, le1400, le6400, lt8, lt16, le15, le2, nI_leI, nI_ltI, nI_eq, nI_1, nI_add, n_le0, n_lt0, n_0le, n_eq0, n_eq1, n_eq2, n_m1, n_m1r, Nat.reduceEqDiff, Nat.reduceAdd, Int32.add_zero, nI_pred, div16, mul15, mul40, mul16, mul640, mulr16, xu_s, xu_c, xu_k, xu_cc, rows_xu, xf_s, xf_c, rows_xf, xul_c, rows_xul, xul_L, lgc, hL.1, hL.2.1, e_isRoot hj, e_cr hj, e_qr hj, e_isRootN h, e_goes1, e_crN h, e_qrN h, or_false, false_or, n10, n01]
      exact Inv_thr _ _ _ hI'
    · obtain ⟨⟨h1, h2, h3, h4, h5, h6, h7, h8, h9⟩, c1, c2, c3, c4, c5, c6, c7⟩ := id hI'
      simp (disch := omega) only [forall_eq, true_and, and_true, and_self, not_true_eq_false, not_false_eq_true, false_imp_iff, true_imp_iff, imp_self, implies_true, ne_eq, reduceIte, cl, cl0, cl1, cl2, vpn, vp0, le8, le16, le40, le640, le1400, le6400, lt8, lt16, le15, le2, nI_leI, nI_ltI, nI_eq, nI_1, nI_add, n_le0, n_lt0, n_0le, n_eq0, n_eq1, n_eq2, n_m1, n_m1r, Nat.reduceEqDiff, Nat.reduceAdd, Int32.add_zero, nI_pred, div16, mul15, mul40, mul16, mul640, mulr16, xu_s, xu_c, xu_k, xu_cc, rows_xu, xf_s, xf_c, rows_xf, xul_c, rows_xul, xul_L, lgc, hL.1, hL.2.1, e_isRoot hj, e_goes, e_cr hj, e_qr hj, e_isRoot hi, e_cr hi, e_qr hi, or_false, false_or, n10, n01]
      have := Inv_root (t + 1) (xu σ 31 0 0) j hj (σ 54 i) (σ 55 i) (h4 i hi) (Inv_thr _ _ _ hI')
      unfold Inv Ref Cls at this ⊢
      simp (disch := omega) only [forall_eq, true_and, and_true, and_self, not_true_eq_false, not_false_eq_true, false_imp_iff, true_imp_iff, imp_self, implies_true, ne_eq, reduceIte, cl, cl0, cl1, cl2, vpn, vp0, le8, le16, le40, le640, le1400, le6400, lt8, lt16, le15, le2, nI_leI, nI_ltI, nI_eq, nI_1, nI_add, n_le0, n_lt0, n_0le, n_eq0, n_eq1, n_eq2, n_m1, n_m1r, Nat.reduceEqDiff, Nat.reduceAdd, Int32.add_zero, nI_pred, div16, mul15, mul40, mul16, mul640, mulr16, xu_s, xu_c, xu_k, xu_cc, rows_xu, xf_s, xf_c, rows_xf, xul_c, rows_xul, xul_L, lgc, (c2 i hi).1, (c2 i hi).2] at this ⊢
      exact this
