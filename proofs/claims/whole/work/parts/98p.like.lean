theorem bz (i : Nat) : (0 : Int64).toBitVec.getLsbD i = false := by
  show (0#64).getLsbD i = false
  exact BitVec.getLsbD_zero
theorem e_zero {τ0 : xS} {a b : Nat} (Q : Int32 → xS → Prop) (ha : a < 16) (hb : b < 16)
    (h : ∀ τ, (∀ k, k < 409600 → vBit τ k = false) → (∀ d, d ≠ 59 → τ d = τ0 d) → p_Mod_mayBe (τ 54 a) (τ 55 a) (τ 54 b) (τ 55 b) (xu τ 31 31 0) (fun r13 σ12 => (∃ n, p_Mod_alike_L85 Q n r13 σ12))) : ∃ n, p_Mod_alike_L31 Q n (nI a) (nI b) 0 τ0 := by
  refine lpS (S := xS) (fun f i τ => p_Mod_alike_L31 Q f (nI a) (nI b) (nI i) τ) (fun i τ => (∀ j, j < i → xL (τ 59) j = 0) ∧ (∀ d, d ≠ 59 → τ d = τ0 d)) 6400 ?_ ?_ (s := τ0) ⟨fun j hj => by omega, fun _ _ => rfl⟩
  · intro f i τ hi ⟨i1, i2⟩ hn
    show b_Mod_alike_L31 (p_Mod_alike_L31 Q f) Q (nI a) (nI b) (nI i) τ
    unfold b_Mod_alike_L31
    have l1 : ¬ 6400 ≤ i := by omega
    simp (disch := omega) only [forall_eq, true_and, and_true, and_self, not_true_eq_false, not_false_eq_true, false_imp_iff, true_imp_iff, imp_self, implies_true, ne_eq, reduceIte, cl, cl0, cl1, cl2, vpn, vp0, le8, le16, le40, le640, le1400, le6400, lt8, lt16, le15, le2, nI_leI, nI_ltI, nI_eq, nI_1, nI_add, n_le0, n_lt0, n_0le, n_eq0, n_eq1, n_eq2, n_m1, n_m1r, Nat.reduceEqDiff, Nat.reduceAdd, Int32.add_zero, nI_pred, div16, mul15, mul40, mul16, mul640, mulr16, xu_s, xu_c, xu_k, xu_cc, rows_xu, xf_s, xf_c, rows_xf, xul_c, rows_xul, xul_L, lgc, l1]
    refine hn _ ⟨fun j hj => ?_, fun d hd => ?_⟩
    · unfold xul
      rw [xf_s, xL_up]
      unfold vp_updL
      by_cases e : j = i
      · rw [if_pos e]
      · rw [if_neg e]; exact i1 j (by omega)
    · simp (disch := omega) only [forall_eq, true_and, and_true, and_self, not_true_eq_false, not_false_eq_true, false_imp_iff, true_imp_iff, imp_self, implies_true, ne_eq, reduceIte, cl, cl0, cl1, cl2, vpn, vp0, le8, le16, le40, le640, le1400, le6400, lt8, lt16, le15, le2, nI_leI, nI_ltI, nI_eq, nI_1, nI_add, n_le0, n_lt0, n_0le, n_eq0, n_eq1, n_eq2, n_m1, n_m1r, Nat.reduceEqDiff, Nat.reduceAdd, Int32.add_zero, nI_pred, div16, mul15, mul40, mul16, mul640, mulr16, xu_s, xu_c, xu_k, xu_cc, rows_xu, xf_s, xf_c, rows_xf, xul_c, rows_xul, xul_L, lgc]; exact i2 d hd
  · intro f τ ⟨i1, i2⟩
    show b_Mod_alike_L31 (p_Mod_alike_L31 Q f) Q (nI a) (nI b) (nI 6400) τ
    unfold b_Mod_alike_L31
    have hh := h τ (fun k hk => by unfold vBit; rw [i1 (k / 64) (by omega)]; exact bz _) i2
    simp (disch := omega) only [forall_eq, true_and, and_true, and_self, not_true_eq_false, not_false_eq_true, false_imp_iff, true_imp_iff, imp_self, implies_true, ne_eq, reduceIte, cl, cl0, cl1, cl2, vpn, vp0, le8, le16, le40, le640, le1400, le6400, lt8, lt16, le15, le2, nI_leI, nI_ltI, nI_eq, nI_1, nI_add, n_le0, n_lt0, n_0le, n_eq0, n_eq1, n_eq2, n_m1, n_m1r, Nat.reduceEqDiff, Nat.reduceAdd, Int32.add_zero, nI_pred, div16, mul15, mul40, mul16, mul640, mulr16, xu_s, xu_c, xu_k, xu_cc, rows_xu, xf_s, xf_c, rows_xf, xul_c, rows_xul, xul_L, lgc, Nat.le_refl]
    exact hh
theorem Inv2_CG {t : Nat} {σ σ' ρ : xS} (h : Inv2 t σ ρ) (hE : ∀ d, (d < 30 ∨ (32 ≤ d ∧ d < 40)) → d ≠ 14 → d ≠ 15 → d ≠ 16 → d ≠ 4 → σ' d = σ d) : Inv2 t σ' ρ := by
  have er : rowsF σ' = rowsF σ := by
    funext q k
    unfold rowsF
    by_cases x : q < 8
    · rw [if_pos x, if_pos x, hE (32 + q) (by omega) (by omega) (by omega) (by omega) (by omega)]
    · rw [if_neg x, if_neg x]
  have e := fun d (x : (d < 30 ∨ (32 ≤ d ∧ d < 40)) ∧ d ≠ 14 ∧ d ≠ 15 ∧ d ≠ 16 ∧ d ≠ 4) => hE d x.1 x.2.1 x.2.2.1 x.2.2.2.1 x.2.2.2.2
  unfold Inv2 at h ⊢
  rw [er, e 20 (by decide), e 28 (by decide), e 29 (by decide), e 17 (by decide), e 18 (by decide), e 7 (by decide), e 22 (by decide), e 23 (by decide), e 8 (by decide), e 24 (by decide), e 9 (by decide), e 25 (by decide), e 2 (by decide), e 0 (by decide), e 3 (by decide), e 12 (by decide), e 13 (by decide)]
  exact h
def alQ (K : xS → Prop) : Int32 → xS → Prop := fun r8 σ7 => p_Mod_thrown σ7 (fun r10 σ9 => ((r10 = 0 → ((¬ (0 : Int32) = 0 → K σ9) ∧ ((0 : Int32) = 0 → (vp_in 0 1 ∧ ((r8 = 0 → (((lg_cmp (xL (σ9 30) (0 : Int32).toNatClampNeg) 0) = 0 → K σ9) ∧ (¬ (lg_cmp (xL (σ9 30) (0 : Int32).toNatClampNeg) 0) = 0 → False))) ∧ (¬ r8 = 0 → (((lg_cmp (xL (σ9 30) (0 : Int32).toNatClampNeg) 1) = 0 → K σ9) ∧ (¬ (lg_cmp (xL (σ9 30) (0 : Int32).toNatClampNeg) 1) = 0 → False)))))))) ∧ (¬ r10 = 0 → False)))
theorem k_13 (xs : Nat → Int32) (L : Nat) (x4 : Int32) (t : Nat) (σ : xS) (ht : t < 512) (hI : Inv t σ) (hL : lawOk L x4) : o_13 xs L x4 σ (Inv (t + 1)) := by
  have hI' := Inv_nop t σ ht hI
  have hI2 : Inv2 (t + 1) σ σ := Inv2_s.mpr hI'
  have hG := Inv2_Gd (by omega) hI2
  obtain ⟨⟨h1, h2, h3, h4, h5, h6, h7, h8, h9⟩, c1, c2, c3, c4, c5, c6, c7⟩ := id hI'
  unfold o_13 p_Law_alike
  generalize xs (x4 + 1).toNatClampNeg = x1
  generalize xs (x4 + 2).toNatClampNeg = x2
  obtain ⟨l1, l2, l3, l4, l5⟩ := hL
  refine ⟨l1, l2, ?_⟩
  rcases root_cases x1 with h | ⟨a, ha, rfl⟩
  · have h : badRoot x1 := h
    right
    refine ⟨Or.inl ((e_qrN h _ _).mpr rfl), l1, l2, ?_⟩
    unfold p_Mod_alike p_Mod_alike_J19 p_Mod_alike_J20 p_Mod_thrown
    rw [e_isRootN h]
    simp (disch := omega) only [forall_eq, true_and, and_true, and_self, not_true_eq_false, not_false_eq_true, false_imp_iff, true_imp_iff, imp_self, implies_true, ne_eq, reduceIte, cl, cl0, cl1, cl2, vpn, vp0, le8, le16, le40, le640, le1400, le6400, lt8, lt16, le15, le2, nI_leI, nI_ltI, nI_eq, nI_1, nI_add, n_le0, n_lt0, n_0le, n_eq0, n_eq1, n_eq2, n_m1, n_m1r, Nat.reduceEqDiff, Nat.reduceAdd, Int32.add_zero, nI_pred, div16, mul15, mul40, mul16, mul640, mulr16, xu_s, xu_c, xu_k, xu_cc, rows_xu, xf_s, xf_c, rows_xf, xul_c, rows_xul, xul_L, lgc, e_goes1, n10]
    exact Inv_thr _ _ _ hI'
  rcases root_cases x2 with h | ⟨b, hb, rfl⟩
  · have h : badRoot x2 := h
    right
    refine ⟨Or.inr ((e_cr ha _ _).mpr (Or.inl ((e_qrN h _ _).mpr rfl))), l1, l2, ?_⟩
    unfold p_Mod_alike p_Mod_alike_J19 p_Mod_alike_J20 p_Mod_thrown
    rw [e_isRoot ha, e_isRootN h]
    simp (disch := omega) only [forall_eq, true_and, and_true, and_self, not_true_eq_false, not_false_eq_true, false_imp_iff, true_imp_iff, imp_self, implies_true, ne_eq, reduceIte, cl, cl0, cl1, cl2, vpn, vp0, le8, le16, le40, le640, le1400, le6400, lt8, lt16, le15, le2, nI_leI, nI_ltI, nI_eq, nI_1, nI_add, n_le0, n_lt0, n_0le, n_eq0, n_eq1, n_eq2, n_m1, n_m1r, Nat.reduceEqDiff, Nat.reduceAdd, Int32.add_zero, nI_pred, div16, mul15, mul40, mul16, mul640, mulr16, xu_s, xu_c, xu_k, xu_cc, rows_xu, xf_s, xf_c, rows_xf, xul_c, rows_xul, xul_L, lgc, e_goes1, n10]
    exact Inv_thr _ _ _ hI'
  left
  unfold p_Rp_alike
  rw [e_cr ha, e_cr hb]
  have hV : Vw (σ 28) (σ 29) (oB σ) (oP σ) (oM σ) (oK σ) (oH σ) (oS σ) (oC σ) (oV σ) := Gd_Vw hG c1
  have rc : ∀ k, k < 16 → (σ 54 k = 2 → oB σ (oR σ k) ∧ σ 18 k = nI (oP σ (oR σ k)) ∧ σ 55 k = nI (oR σ k)) ∧ (¬ σ 54 k = 2 → σ 18 k = σ 55 k) := fun k hk => by
    refine ⟨fun e => ?_, fun e => ?_⟩
    · obtain ⟨y1, y2⟩ := hG.2.2.1 k hk e
      refine ⟨y2, ?_, y1⟩
      rw [(c2 k hk).2, e, tr_2]
      exact (hG.1 _ y2).2.2.1.1
    · rw [(c2 k hk).2, tr_n e]
  have ref : ∀ (ans : Int32) (v : Int64) (τ : xS), (∀ d, d ≠ 14 → d ≠ 15 → d ≠ 16 → d ≠ 4 → τ d = σ d) → (ans = 1 ∧ v = 1 ∧ AL (oB σ) (oM σ) (oH σ) (oS σ) (fun o i => σ 47 (15 * o + i)) (oV σ) (σ 54 a) (σ 54 b) (σ 55 a) (σ 55 b) (oR σ a) (oR σ b) ∨ ans = 0 ∧ v = 0 ∧ ¬ AL (oB σ) (oM σ) (oH σ) (oS σ) (fun o i => σ 47 (15 * o + i)) (oV σ) (σ 54 a) (σ 54 b) (σ 55 a) (σ 55 b) (oR σ a) (oR σ b)) →
      p_Mod_alike (nI a) (nI b) (xul τ 30 (0 : Int32).toNatClampNeg v) (alQ (Inv (t + 1))) := fun ans v τ hf hans => by
    have fin : ∀ (r8 : Int32) (τ' : xS), (∀ d, d ≠ 59 → d ≠ 60 → d ≠ 31 → τ' d = xul τ 30 0 v d) → (∀ k, k ≠ 31 → k ≠ 0 → τ' 31 k = τ 31 k) → τ' 31 0 = 0 → (r8 = 1 ∧ v = 1 ∨ r8 = 0 ∧ v = 0) → alQ (Inv (t + 1)) r8 τ' := fun r8 τ' g1 g2 g3 g4 => by
      have hInv : Inv (t + 1) τ' := by
        refine Inv2_s.mp (Inv2_RE (Inv2_CG hI2 (fun d hd d1 d2 d3 d4 => ?_)) ⟨fun d h1 h2 h3 => ?_, fun k h1 h2 => ?_⟩)
        · rw [g1 d (by omega) (by omega) (by omega)]; simp (disch := omega) only [forall_eq, true_and, and_true, and_self, not_true_eq_false, not_false_eq_true, false_imp_iff, true_imp_iff, imp_self, implies_true, ne_eq, reduceIte, cl, cl0, cl1, cl2, vpn, vp0, le8, le16, le40, le640, le1400, le6400, lt8, lt16, le15, le2, nI_leI, nI_ltI, nI_eq, nI_1, nI_add, n_le0, n_lt0, n_0le, n_eq0, n_eq1, n_eq2, n_m1, n_m1r, Nat.reduceEqDiff, Nat.reduceAdd, Int32.add_zero, nI_pred, div16, mul15, mul40, mul16, mul640, mulr16, xu_s, xu_c, xu_k, xu_cc, rows_xu, xf_s, xf_c, rows_xf, xul_c, rows_xul, xul_L, lgc]; exact hf d d1 d2 d3 d4
        · by_cases x : d = 59
          · omega
          · rw [g1 d x (by omega) (by omega)]; simp (disch := omega) only [forall_eq, true_and, and_true, and_self, not_true_eq_false, not_false_eq_true, false_imp_iff, true_imp_iff, imp_self, implies_true, ne_eq, reduceIte, cl, cl0, cl1, cl2, vpn, vp0, le8, le16, le40, le640, le1400, le6400, lt8, lt16, le15, le2, nI_leI, nI_ltI, nI_eq, nI_1, nI_add, n_le0, n_lt0, n_0le, n_eq0, n_eq1, n_eq2, n_m1, n_m1r, Nat.reduceEqDiff, Nat.reduceAdd, Int32.add_zero, nI_pred, div16, mul15, mul40, mul16, mul640, mulr16, xu_s, xu_c, xu_k, xu_cc, rows_xu, xf_s, xf_c, rows_xf, xul_c, rows_xul, xul_L, lgc]; exact hf d (by omega) (by omega) (by omega) (by omega)
        · by_cases x : k = 31
          · omega
          · rw [g2 k x (by omega), hf 31 (by decide) (by decide) (by decide) (by decide)]
      have e30 : xL (τ' 30) 0 = v := by
        rw [g1 30 (by decide) (by decide) (by decide)]; simp (disch := omega) only [forall_eq, true_and, and_true, and_self, not_true_eq_false, not_false_eq_true, false_imp_iff, true_imp_iff, imp_self, implies_true, ne_eq, reduceIte, cl, cl0, cl1, cl2, vpn, vp0, le8, le16, le40, le640, le1400, le6400, lt8, lt16, le15, le2, nI_leI, nI_ltI, nI_eq, nI_1, nI_add, n_le0, n_lt0, n_0le, n_eq0, n_eq1, n_eq2, n_m1, n_m1r, Nat.reduceEqDiff, Nat.reduceAdd, Int32.add_zero, nI_pred, div16, mul15, mul40, mul16, mul640, mulr16, xu_s, xu_c, xu_k, xu_cc, rows_xu, xf_s, xf_c, rows_xf, xul_c, rows_xul, xul_L, lgc]
      unfold alQ p_Mod_thrown
      rcases g4 with ⟨rfl, ev⟩ | ⟨rfl, ev⟩
      · rw [ev] at e30
        simp (disch := omega) only [forall_eq, true_and, and_true, and_self, not_true_eq_false, not_false_eq_true, false_imp_iff, true_imp_iff, imp_self, implies_true, ne_eq, reduceIte, cl, cl0, cl1, cl2, vpn, vp0, le8, le16, le40, le640, le1400, le6400, lt8, lt16, le15, le2, nI_leI, nI_ltI, nI_eq, nI_1, nI_add, n_le0, n_lt0, n_0le, n_eq0, n_eq1, n_eq2, n_m1, n_m1r, Nat.reduceEqDiff, Nat.reduceAdd, Int32.add_zero, nI_pred, div16, mul15, mul40, mul16, mul640, mulr16, xu_s, xu_c, xu_k, xu_cc, rows_xu, xf_s, xf_c, rows_xf, xul_c, rows_xul, xul_L, lgc, g3, e30, n10]
        exact hInv
      · rw [ev] at e30
        simp (disch := omega) only [forall_eq, true_and, and_true, and_self, not_true_eq_false, not_false_eq_true, false_imp_iff, true_imp_iff, imp_self, implies_true, ne_eq, reduceIte, cl, cl0, cl1, cl2, vpn, vp0, le8, le16, le40, le640, le1400, le6400, lt8, lt16, le15, le2, nI_leI, nI_ltI, nI_eq, nI_1, nI_add, n_le0, n_lt0, n_0le, n_eq0, n_eq1, n_eq2, n_m1, n_m1r, Nat.reduceEqDiff, Nat.reduceAdd, Int32.add_zero, nI_pred, div16, mul15, mul40, mul16, mul640, mulr16, xu_s, xu_c, xu_k, xu_cc, rows_xu, xf_s, xf_c, rows_xf, xul_c, rows_xul, xul_L, lgc, g3, e30]
        exact hInv
    unfold p_Mod_alike p_Mod_alike_J20
    rw [e_isRoot ha, e_isRoot hb, e_goes]
    simp (disch := omega) only [forall_eq, true_and, and_true, and_self, not_true_eq_false, not_false_eq_true, false_imp_iff, true_imp_iff, imp_self, implies_true, ne_eq, reduceIte, cl, cl0, cl1, cl2, vpn, vp0, le8, le16, le40, le640, le1400, le6400, lt8, lt16, le15, le2, nI_leI, nI_ltI, nI_eq, nI_1, nI_add, n_le0, n_lt0, n_0le, n_eq0, n_eq1, n_eq2, n_m1, n_m1r, Nat.reduceEqDiff, Nat.reduceAdd, Int32.add_zero, nI_pred, div16, mul15, mul40, mul16, mul640, mulr16, xu_s, xu_c, xu_k, xu_cc, rows_xu, xf_s, xf_c, rows_xf, xul_c, rows_xul, xul_L, lgc, n10]
    refine e_zero _ ha hb (fun τz hz hzf => ?_)
    obtain ⟨τ1, e1⟩ : ∃ τ1, xu τz 31 31 0 = τ1 := ⟨_, rfl⟩
    have vb1 : ∀ k, vBit τ1 k = vBit τz k := fun k => by rw [← e1, vb_x _ _ _ _ (by decide)]
    have F1 : ∀ d, d ≠ 59 → d ≠ 31 → τ1 d = xul τ 30 0 v d := fun d d1 d2 => by rw [← e1, xu_c _ _ _ _ d2, hzf d d1, xu_c _ _ _ _ d2]
    have F31 : ∀ k, k ≠ 31 → k ≠ 0 → τ1 31 k = τ 31 k := fun k k1 k2 => by rw [← e1, xu_k _ _ _ _ k1, hzf 31 (by decide), xu_k _ _ _ _ k2, xul_c _ _ _ _ (by decide)]
    have F0 : τ1 31 0 = 0 := by rw [← e1, xu_k _ _ _ _ (by decide), hzf 31 (by decide), xu_s]
    have z54 : τz 54 = σ 54 := by rw [hzf 54 (by decide), xu_c _ _ _ _ (by decide), xul_c _ _ _ _ (by decide)]; exact hf 54 (by decide) (by decide) (by decide) (by decide)
    have z55 : τz 55 = σ 55 := by rw [hzf 55 (by decide), xu_c _ _ _ _ (by decide), xul_c _ _ _ _ (by decide)]; exact hf 55 (by decide) (by decide) (by decide) (by decide)
    have hE1 : ∀ d, 40 ≤ d → d ≤ 47 → τ1 d = σ d := fun d h1 h2 => by rw [F1 d (by omega) (by omega), xul_c _ _ _ _ (by omega)]; exact hf d (by omega) (by omega) (by omega) (by omega)
    have nov : ∀ o q, oB σ o → oB σ q → ¬ vBit τ1 (640 * o + q) = true := fun o q ho hq => by
      have := ho.1
      have := hq.1
      rw [vb1, hz _ (by omega)]
      exact Bool.false_ne_true
    have R0 : RV τ1 τ1 (oB σ) (oM σ) (oH σ) (oS σ) (fun o i => σ 47 (15 * o + i)) (oV σ) (oR σ a) (oR σ b) noEx 0 := ⟨fun _ _ _ _ => rfl, fun _ _ => rfl, by rw [← e1, xu_s]; rfl, fun j hj => by omega, by have := cnt_le (fun k => vBit τ1 k = false) 409600; omega, fun o q ho hq hv => absurd hv (nov o q ho hq), fun o q ho hq hv => absurd hv (nov o q ho hq)⟩
    rw [e1, z54, z55]
    have ansY : AL (oB σ) (oM σ) (oH σ) (oS σ) (fun o i => σ 47 (15 * o + i)) (oV σ) (σ 54 a) (σ 54 b) (σ 55 a) (σ 55 b) (oR σ a) (oR σ b) → (1 : Int32) = 1 ∧ v = 1 ∨ (1 : Int32) = 0 ∧ v = 0 := fun hal => by
      rcases hans with ⟨_, y, _⟩ | ⟨_, _, y⟩
      · exact Or.inl ⟨rfl, y⟩
      · exact absurd hal y
    have ansN : ¬ AL (oB σ) (oM σ) (oH σ) (oS σ) (fun o i => σ 47 (15 * o + i)) (oV σ) (σ 54 a) (σ 54 b) (σ 55 a) (σ 55 b) (oR σ a) (oR σ b) → (0 : Int32) = 1 ∧ v = 1 ∨ (0 : Int32) = 0 ∧ v = 0 := fun hal => by
      rcases hans with ⟨_, _, y⟩ | ⟨_, y, _⟩
      · exact absurd y hal
      · exact Or.inr ⟨rfl, y⟩
    have dead : ¬ AL (oB σ) (oM σ) (oH σ) (oS σ) (fun o i => σ 47 (15 * o + i)) (oV σ) (σ 54 a) (σ 54 b) (σ 55 a) (σ 55 b) (oR σ a) (oR σ b) → ∀ Q : Int32 → xS → Prop, Q 0 τ1 → ∃ n, p_Mod_alike_L85 Q n 0 τ1 := fun _ Q hQ => by
      refine ⟨1, ?_⟩
      show b_Mod_alike_L85 (p_Mod_alike_L85 Q 0) Q 0 τ1
      unfold b_Mod_alike_L85
      exact ⟨fun _ => ⟨nar_01 0 (Or.inl rfl), hQ⟩, fun z => absurd rfl z⟩
    by_cases es : σ 54 a = σ 54 b
    · by_cases e2 : σ 54 a = 2
      · obtain ⟨B1, _, w1⟩ := (rc a ha).1 e2
        obtain ⟨B2, _, w2⟩ := (rc b hb).1 (by rw [← es]; exact e2)
        refine e_mMay (x := oR σ a) (y := oR σ b) (fun o ho => ho.1) R0 (fun _ _ => ⟨B1, B2, w1, w2, fun Rel _ hr => hr⟩) _ (fun τ2 m2 R2 _ _ _ x2 _ => ?_) (fun hno => absurd ⟨es, fun z => absurd e2 z⟩ hno)
        have g := R2.1
        have g31 := R2.2.1
        refine e_mWalk (τ := τ2) (m := m2) (sa := σ 54 a) (sb := σ 54 b) (va := σ 55 a) (vb := σ 55 b) hI2 (by omega) _ (fun d h1 h2 => by rw [g d (by omega) (by omega) (by omega)]; exact hE1 d h1 h2) ⟨fun _ _ _ _ => rfl, fun _ _ => rfl, R2.2.2⟩ (fun _ => ⟨B1, B2, x2 e2⟩) ⟨es, fun z => absurd e2 z⟩ (fun hal τ3 k1 k2 => ?_) (fun hal τ3 k1 k2 => ?_) (fun _ _ => e2)
        · exact fin 1 τ3 (fun d d1 d2 d3 => by rw [k1 d d1 d2 d3, g d d1 d2 d3]; exact F1 d d1 d3) (fun k h1 h2 => by rw [k2 k h1, g31 k h1]; exact F31 k h1 h2) (by rw [k2 0 (by decide), g31 0 (by decide)]; exact F0) (ansY hal)
        · exact fin 0 τ3 (fun d d1 d2 d3 => by rw [k1 d d1 d2 d3, g d d1 d2 d3]; exact F1 d d1 d3) (fun k h1 h2 => by rw [k2 k h1, g31 k h1]; exact F31 k h1 h2) (by rw [k2 0 (by decide), g31 0 (by decide)]; exact F0) (ansN hal)
      · by_cases ev : σ 55 a = σ 55 b
        · have hal : AL (oB σ) (oM σ) (oH σ) (oS σ) (fun o i => σ 47 (15 * o + i)) (oV σ) (σ 54 a) (σ 54 b) (σ 55 a) (σ 55 b) (oR σ a) (oR σ b) := ⟨es, fun z => absurd z e2, fun _ => ev⟩
          have hh := fin 1 τ1 (fun d d1 d2 d3 => F1 d d1 d3) F31 F0 (ansY hal)
          have e2' : ¬ σ 54 b = 2 := by rw [← es]; exact e2
          unfold p_Mod_mayBe p_Mod_mayBe_J18
          refine ⟨fun z => absurd es z, fun _ => ⟨fun z => absurd z e2, fun _ => ⟨fun _ => ⟨fun _ => ?_, fun z => absurd z e2⟩, fun z => absurd ev z⟩⟩⟩
          refine ⟨1, ?_⟩
          unfold p_Mod_alike_L85
          show b_Mod_alike_L85 _ _ 1 τ1
          unfold b_Mod_alike_L85
          have h31 : τ1 31 31 = nI 0 := R0.2.2.1
          refine ⟨fun z => absurd z n10, fun _ => ⟨fun _ => ⟨nar_01 1 (Or.inr rfl), hh⟩, fun z => absurd (by rw [h31, n_le0 (by decide)]) z⟩⟩
        · have hal : ¬ AL (oB σ) (oM σ) (oH σ) (oS σ) (fun o i => σ 47 (15 * o + i)) (oV σ) (σ 54 a) (σ 54 b) (σ 55 a) (σ 55 b) (oR σ a) (oR σ b) := fun z => ev (z.2.2 e2)
          have hh := fin 0 τ1 (fun d d1 d2 d3 => F1 d d1 d3) F31 F0 (ansN hal)
          unfold p_Mod_mayBe
          exact ⟨fun z => absurd es z, fun _ => ⟨fun z => absurd z e2, fun _ => ⟨fun z => absurd z ev, fun _ => dead hal _ hh⟩⟩⟩
    · have hal : ¬ AL (oB σ) (oM σ) (oH σ) (oS σ) (fun o i => σ 47 (15 * o + i)) (oV σ) (σ 54 a) (σ 54 b) (σ 55 a) (σ 55 b) (oR σ a) (oR σ b) := fun z => es z.1
      have hh := fin 0 τ1 (fun d d1 d2 d3 => F1 d d1 d3) F31 F0 (ansN hal)
      unfold p_Mod_mayBe
      exact ⟨fun _ => dead hal _ hh, fun z => absurd z es⟩
  refine e_ofRoots hV (fw := fun o i => σ 47 (15 * o + i)) (fun o i ho hi e => ?_) ha hb (sa := σ 54 a) (sb := σ 54 b) (va := σ 55 a) (vb := σ 55 b) (ua := oR σ a) (ub := oR σ b) (c2 a ha).1 (c2 b hb).1 (fun e => ⟨((rc a ha).1 e).1, ((rc a ha).1 e).2.1⟩) (fun e => ⟨((rc b hb).1 e).1, ((rc b hb).1 e).2.1⟩) (fun e => (rc a ha).2 e) (fun e => (rc b hb).2 e) _ (fun hal τ hf => ?_) (fun hal τ hf => ?_)
  · have e' : ¬ σ 46 (15 * o + i) = 2 := e
    show tr (σ 44) (σ 46 (15 * o + i)) (σ 47 (15 * o + i)) = _
    rw [tr_n e']
  · refine ⟨nar_01 1 (Or.inr rfl), fun z => absurd z n10, fun _ => ⟨(vp0 (by decide) (by decide)).mpr trivial, l1, l2, ref 1 1 τ hf (Or.inl ⟨rfl, rfl, hal⟩)⟩⟩
  · refine ⟨nar_01 0 (Or.inl rfl), fun _ => ⟨(vp0 (by decide) (by decide)).mpr trivial, l1, l2, ref 0 0 τ hf (Or.inr ⟨rfl, rfl, hal⟩)⟩, fun z => absurd rfl z⟩
