theorem xu4 (τ : xS) {c d : Nat} (h : c ≠ d) (k : Nat) (u x w : Int32) : xu (xu (xu (xu τ c k u) d k x) c k u) d k w = xu (xu τ c k u) d k w := by
  funext e j
  by_cases hd : e = d
  · subst hd; rw [xu_cc, xu_cc, xu_c _ _ _ _ (fun z => h z.symm), xu_cc, upd_upd]
  · rw [xu_c _ _ _ _ hd, xu_c _ _ _ _ hd]
    by_cases hc : e = c
    · subst hc; rw [xu_cc, xu_cc, xu_c _ _ _ _ h, xu_cc, upd_upd]
    · rw [xu_c _ _ _ _ hc, xu_c _ _ _ _ hd, xu_c _ _ _ _ hc]
theorem copy_mid {t : Nat} {σ τ τ0 y X Y σt ρt : xS} {s s' np : Nat → Int32} {r c : Nat} {pt qs no : Nat → Nat} (ht : t < 100000) (hI : Inv2 t σ σ) (hr : r < rN σ) (hCK : CK σ τ0 τ σt ρt t r pt qs no c) (hCP : CP σ τ y pt no c c 0) (hB : ∀ k, k < c → oB σ (pt k)) (hd : ∀ i j, i < j → j < c → pt i ≠ pt j)
    (hcl : ∀ k, k < c → ∀ i, i < oM σ (pt k) → oS σ (pt k) i = 2 → r < oG σ (oV σ (pt k) i) → ∃ m, m < c ∧ pt m = oV σ (pt k) i) (hHC : HC (oB σ) (oP σ) (oM σ) pt qs (oH σ) (oS σ) (oC σ) np c s s') (hnp : ∀ u, oB σ u → np (oP σ u) = nI (lfP pt qs (oP σ) c u)) (hq : ∀ k, k < c → qs k < 640)
    (X28 : X 28 = s) (X29 : X 29 = s') (Xt : ∀ d, d = 20 ∨ d = 22 ∨ d = 23 ∨ (32 ≤ d ∧ d < 40) → X d = σt d) (Xo : ∀ d, d = 17 ∨ d = 18 ∨ d = 7 ∨ d = 8 ∨ d = 24 ∨ d = 9 ∨ d = 25 ∨ d = 2 → X d = σ d) (X04 : X 0 4 = σ 0 4) (X05 : X 0 5 = σ 0 5 + nI c) (Xs : cScr (X 3 3) (X 12) (X 13)) (Ye : ∀ d, 40 ≤ d → d ≤ 56 → d ≠ 48 → Y d = y d) (Y31 : ∀ k, 10 ≤ k → k ≤ 25 → k ≠ 25 → Y 31 k = σ 31 k) (Y25 : Y 31 25 = σ 31 25 + nI c) (hE0 : RE σ τ0) : Inv2 t X Y := by
  have hG := Inv2_Gd ht hI
  have hR8 : rN σ ≤ 8 := hI.1.2.2.2.2.2.1.2.1
  obtain ⟨K1, K2, K3, K4, K5, K6, K7, K8, a, Ia, a1, a2⟩ := hCK
  obtain ⟨P1, P2, P3⟩ := hCP
  have t31 : τ 31 = τ0 31 := K8 31 (by omega) (by decide)
  have a2' : ∀ d, d = 17 ∨ d = 18 ∨ d = 7 ∨ d = 8 ∨ d = 24 ∨ d = 9 ∨ d = 25 ∨ d = 2 ∨ d = 0 → a d = σ d := fun d hd => a2 d (by omega) (by omega) (by omega)
  have s3 := hI.1.2.2.1
  have s1 := hI.1.1
  have s6 := hI.2.2.2.2.2.2.1
  obtain ⟨⟨h1, h2, h3, h4, h5, h6, h7, h8, h9⟩, c1, c2, c3, c4, c5, c6, c7⟩ := id Ia
  have er : rowsF X = rowsF a := by
    funext q k
    unfold rowsF
    by_cases x : q < 8
    · rw [if_pos x, if_pos x, Xt (32 + q) (by omega), a1 (32 + q) (by omega)]
    · rw [if_neg x, if_neg x]
  have yd : ∀ d, 40 ≤ d ∧ d ≤ 56 ∧ d ≠ 48 ∧ d ≠ 46 ∧ d ≠ 47 → Y d = τ d := fun d x => by rw [Ye d x.1 x.2.1 x.2.2.1, P3 d x.2.2.2.1 x.2.2.2.2]
  have tB : ∀ x, oB σ x → oB τ x := fun x hx => (K3 x).mpr (Or.inl hx)
  have nB : ∀ j, j < c → oB τ (no j) := fun j hj => (K3 _).mpr (Or.inr ⟨j, hj, rfl⟩)
  have vB : ∀ q s v, vOk (σ 40) (σ 43) q s v → vOk (τ 40) (τ 43) q s v := fun q s v h => by
    rcases h with h | h | ⟨h, u, x, y, z⟩
    · exact Or.inl h
    · exact Or.inr (Or.inl h)
    · exact Or.inr (Or.inr ⟨h, u, tB u x, y, by rw [(K4 u x).2.2.2.1]; exact z⟩)
  have y46 := Ye 46 (by decide) (by decide) (by decide)
  have y47 := Ye 47 (by decide) (by decide) (by decide)
  have e31 : ∀ k, 10 ≤ k → k ≤ 25 → τ 31 k = σ 31 k := fun k h1 h2 => by rw [t31]; exact hE0.2 k h1 h2
  have m15 : ∀ x, oB σ x → oM σ x < 16 := fun x hx => (hG.1 x hx).1.2.2.2.1
  have f10 : ∀ u, oB σ u → (∀ m, m < c → pt m ≠ u) → np (oP σ u) = τ 44 u := fun u hu hn => by
    rw [hnp u hu, lfP_n c hn, (K4 u hu).2.2.2.2.1]; exact ((hG.1 u hu).2.2.1.1).symm
  have f10' : ∀ m, m < c → np (oP σ (pt m)) = τ 44 (no m) := fun m hm => by
    rw [hnp _ (hB m hm), lfP_y c hd hm, (K5 m hm).2.2.2.2.1]
  have live : ∀ o i, oB σ o → i < oM σ o → oS σ o i = 2 → oB σ (oV σ o i) ∧ oC σ o i = nI (oP σ (oV σ o i)) ∧ oP σ (oV σ o i) < 640 := fun o i ho hi e2 => by
    obtain ⟨b1, b2, b3⟩ := (hG.2.1 o i ho hi).2 e2
    refine ⟨b2, ?_, by have := (hG.1 _ b2).2.2.1.2; omega⟩
    have e' : σ 46 (15 * o + i) = 2 := e2
    show tr (σ 44) (σ 46 (15 * o + i)) (σ 47 (15 * o + i)) = _
    rw [e', tr_2]
    exact (hG.1 _ b2).2.2.1.1
  unfold Inv2
  rw [er, Xt 20 (by decide), ← a1 20 (by decide), Xt 22 (by decide), ← a1 22 (by decide), Xt 23 (by decide), ← a1 23 (by decide), X28, X29, Xo 17 (by decide), Xo 18 (by decide), Xo 7 (by decide), Xo 8 (by decide), Xo 24 (by decide), Xo 9 (by decide), Xo 25 (by decide), Xo 2 (by decide), X04, X05, yd 40 (by decide), yd 41 (by decide), yd 42 (by decide), yd 43 (by decide), yd 44 (by decide), yd 45 (by decide), yd 49 (by decide), yd 50 (by decide), yd 51 (by decide), yd 52 (by decide), yd 53 (by decide), yd 54 (by decide), yd 55 (by decide), yd 56 (by decide), y46, y47, Y31 10 (by decide) (by decide) (by decide), Y31 13 (by decide) (by decide) (by decide), Y31 19 (by decide) (by decide) (by decide), Y31 21 (by decide) (by decide) (by decide), Y31 22 (by decide) (by decide) (by decide), Y31 23 (by decide) (by decide) (by decide), Y31 24 (by decide) (by decide) (by decide), Y25]
  rw [e31 13 (by decide) (by decide), e31 10 (by decide) (by decide)] at h1
  rw [e31 19 (by decide) (by decide)] at h5
  rw [e31 13 (by decide) (by decide)] at h6 h7
  rw [e31 10 (by decide) (by decide)] at h9
  rw [e31 13 (by decide) (by decide), a2' 7 (by decide)] at c3
  rw [a2' 17 (by decide), a2' 18 (by decide)] at c2
  rw [e31 19 (by decide) (by decide), a2' 8 (by decide), a2' 24 (by decide)] at c4
  rw [a2' 9 (by decide), a2' 25 (by decide)] at c5
  refine ⟨⟨h1, h2, fun x i hx hi => ?_, h4, h5, h6, h7, h8, h9⟩, ?_, c2, c3, c4, c5, ?_, Xs⟩
  · rcases (K3 x).mp hx with hx' | ⟨j, j1, rfl⟩
    · rw [(K4 x hx').2.2.1] at hi
      have := m15 x hx'
      have hi' : i < oM σ x := hi
      obtain ⟨w1, w2⟩ := P2 x i hx' (by omega)
      rw [w1, w2, (K4 x hx').2.2.2.1]
      exact vB _ _ _ (s3 x i hx' hi)
    · rw [(K5 j j1).2.2.1] at hi
      have hi' : i < oM σ (pt j) := hi
      obtain ⟨w1, w2, w3⟩ := P1 j i (Or.inl j1) hi'
      rw [w1, (K5 j j1).2.2.2.1, cl (by omega)]
      by_cases e2 : oS σ (pt j) i = 2
      · rcases w2 e2 with ⟨m, m1, m2, m3⟩ | ⟨m1, m2⟩
        · rw [m3, e2]
          exact Or.inr (Or.inr ⟨rfl, no m, nB m m1, rfl, by rw [(K5 m m1).2.2.2.1, cl (by omega)]; exact Nat.le_refl _⟩)
        · rw [m2, e2]
          obtain ⟨b1, b2, b3⟩ := (hG.2.1 _ i (hB j j1) hi').2 e2
          refine Or.inr (Or.inr ⟨rfl, _, tB _ b2, rfl, ?_⟩)
          rw [(K4 _ b2).2.2.2.1]
          refine Classical.byContradiction (fun z => ?_)
          obtain ⟨m, m3, m4⟩ := hcl j j1 i hi' e2 (by unfold oG; omega)
          exact m1 m m3 m4
      · rw [w3 e2]
        rcases s3 (pt j) i (hB j j1) hi' with z | z | z
        · left; exact z
        · right; left; exact z
        · exact absurd z.1 e2
  · obtain ⟨H1, H2, H3, H4, H5⟩ := hHC
    refine ⟨fun x hx => ?_, fun x i hx hi => ?_, fun p hp hf => ?_⟩
    · dsimp only
      rcases (K3 x).mp hx with hx' | ⟨j, j1, rfl⟩
      · obtain ⟨w1, w2, w3, w4, w5, w6, w7⟩ := K4 x hx'
        rw [w1, w2, w3, w5]; exact H1 x hx'
      · obtain ⟨w1, w2, w3, w4, w5, w6⟩ := K5 j j1
        rw [w1, w2, w3, w5, cl (by have := hq j j1; omega)]; exact H3 j j1
    · dsimp only at hi ⊢
      rcases (K3 x).mp hx with hx' | ⟨j, j1, rfl⟩
      · obtain ⟨w1, w2, w3, w4, w5, w6, w7⟩ := K4 x hx'
        rw [w3] at hi
        have := m15 x hx'
        have hi' : i < oM σ x := hi
        obtain ⟨u1, u2⟩ := P2 x i hx' (by omega)
        rw [w5, u1, u2]
        have hh := H2 x i hx' hi'
        have hP : (σ 44 x).toNatClampNeg = oP σ x := rfl
        rw [hP]
        refine ⟨hh.1, ?_⟩
        rw [hh.2]
        show tr (σ 44) (σ 46 (15 * x + i)) (σ 47 (15 * x + i)) = _
        by_cases e2 : σ 46 (15 * x + i) = 2
        · obtain ⟨b1, b2, b3⟩ := (hG.2.1 x i hx' hi').2 e2
          rw [e2, tr_2, tr_2]
          show σ 44 (oV σ x i) = τ 44 (oV σ x i)
          exact ((K4 _ b2).2.2.2.2.1).symm
        · rw [tr_n e2, tr_n e2]
      · obtain ⟨w1, w2, w3, w4, w5, w6⟩ := K5 j j1
        rw [w3] at hi
        have hi' : i < oM σ (pt j) := hi
        obtain ⟨u1, u2, u3⟩ := P1 j i (Or.inl j1) hi'
        obtain ⟨v1, v2, v3⟩ := H4 j i j1 hi'
        rw [w5, cl (by have := hq j j1; omega), u1]
        refine ⟨v1, ?_⟩
        by_cases e2 : oS σ (pt j) i = 2
        · obtain ⟨l1, l2, l3⟩ := live _ i (hB j j1) hi' e2
          rw [v2 e2, l2, cl (by omega), e2, tr_2]
          rcases u2 e2 with ⟨m, m1, m2, m3⟩ | ⟨m1, m2⟩
          · rw [m3, cl (by have := (K1 m m1).1; omega), ← m2]; exact f10' m m1
          · rw [m2, cl (by have := l1.1; omega)]; exact f10 _ l1 m1
        · rw [v3 e2, u3 e2, tr_n e2]
          show tr (σ 44) (σ 46 (15 * pt j + i)) (σ 47 (15 * pt j + i)) = _
          have e2' : ¬ σ 46 (15 * pt j + i) = 2 := e2
          rw [tr_n e2']
    · refine H5 p hp (fun o ho => ?_) (fun j hj => ?_)
      · have := hf o (tB o ho)
        dsimp only at this
        rw [(K4 o ho).2.2.2.2.1, (K4 o ho).2.2.1] at this
        exact this
      · have := hf (no j) (nB j hj)
        dsimp only at this
        rw [(K5 j hj).2.2.2.2.1, (K5 j hj).2.2.1, cl (by have := hq j hj; omega)] at this
        exact this
  · obtain ⟨b1, b2, b3, b4, b5⟩ := s6
    exact ⟨b1, b2, b3, b4, by rw [b5]⟩
def cpG (t L : Nat) (x4 x1 x2 x3 : Int32) (v : Int32) (σF : xS) : Prop := vp_in 0 1 ∧ vp_in (x4 + 1) L ∧ vp_in (x4 + 2) L ∧ vp_in (x4 + 3) L ∧ p_Mod_copy x1 x2 x3 (xul σF 30 (0 : Int32).toNatClampNeg v.toInt64) (mkQ (Inv (t + 1)))
theorem k_10 (xs : Nat → Int32) (L : Nat) (x4 : Int32) (t : Nat) (σ : xS) (ht : t < 512) (hI : Inv t σ) (hL : lawOk L x4) : o_10 xs L x4 σ (Inv (t + 1)) := by
  have hI' := Inv_nop t σ ht hI
  have hI2 : Inv2 (t + 1) σ σ := Inv2_s.mpr hI'
  have hG := Inv2_Gd (by omega) hI2
  obtain ⟨⟨h1, h2, h3, h4, h5, h6, h7, h8, h9⟩, c1, c2, c3, c4, c5, c6, c7⟩ := id hI'
  obtain ⟨R, hR, hR8⟩ : ∃ r, σ 31 13 = nI r ∧ r ≤ 8 := ⟨_, h6.1, h6.2.1⟩
  have hR7 : σ 7 4 = nI R := by rw [c3.1, hR]
  have eR : rN σ = R := by unfold rN; rw [hR, cl (by omega)]
  unfold o_10 p_Law_copy
  generalize xs (x4 + 1).toNatClampNeg = x1
  generalize xs (x4 + 2).toNatClampNeg = x2
  generalize xs (x4 + 3).toNatClampNeg = x3
  obtain ⟨l1, l2, l3, l4, l5⟩ := hL
  refine ⟨l1, l2, l3, ?_⟩
  have J0 : ∀ (Q : Int32 → xS → Prop), Q 0 (xu σ 31 0 1) → p_Mod_copy_J20 Q x1 x2 x3 0 σ := fun Q hQ => by
    unfold p_Mod_copy_J20
    rcases reg_cases x3 (r := R) (by omega) with h' | ⟨j, hj, rfl⟩
    · rw [e_mrgN h' hR, e_goes1]
      simp (disch := omega) only [forall_eq, true_and, and_true, and_self, not_true_eq_false, not_false_eq_true, false_imp_iff, true_imp_iff, imp_self, implies_true, ne_eq, reduceIte, cl, cl0, cl1, cl2, vpn, vp0, le8, le16, le40, le640, le1400, le6400, lt8, lt16, le15, le2, nI_leI, nI_ltI, nI_eq, nI_1, nI_add, n_le0, n_lt0, n_0le, n_eq0, n_eq1, n_eq2, n_m1, n_m1r, Nat.reduceEqDiff, Nat.reduceAdd, Int32.add_zero, nI_pred, div16, mul15, mul40, mul16, mul640, mulr16, xu_s, xu_c, xu_k, xu_cc, rows_xu, xf_s, xf_c, rows_xf, xul_c, rows_xul, xul_L, lgc, n10]
      exact hQ
    · rw [e_mrg hR8 hj hR, e_goes1]
      simp (disch := omega) only [forall_eq, true_and, and_true, and_self, not_true_eq_false, not_false_eq_true, false_imp_iff, true_imp_iff, imp_self, implies_true, ne_eq, reduceIte, cl, cl0, cl1, cl2, vpn, vp0, le8, le16, le40, le640, le1400, le6400, lt8, lt16, le15, le2, nI_leI, nI_ltI, nI_eq, nI_1, nI_add, n_le0, n_lt0, n_0le, n_eq0, n_eq1, n_eq2, n_m1, n_m1r, Nat.reduceEqDiff, Nat.reduceAdd, Int32.add_zero, nI_pred, div16, mul15, mul40, mul16, mul640, mulr16, xu_s, xu_c, xu_k, xu_cc, rows_xu, xf_s, xf_c, rows_xf, xul_c, rows_xul, xul_L, lgc, n10]
      exact hQ
  rcases root_cases x1 with h | ⟨a, ha, rfl⟩
  · have h : badRoot x1 := h
    right; left
    refine ⟨Or.inl ((e_qrN h _ _).mpr rfl), l1, l2, l3, ?_⟩
    unfold p_Mod_copy p_Mod_copy_J19
    rw [e_isRootN h]
    refine ⟨fun _ => J0 _ ?_, fun x => absurd rfl x⟩
    unfold p_Mod_thrown
    simp (disch := omega) only [forall_eq, true_and, and_true, and_self, not_true_eq_false, not_false_eq_true, false_imp_iff, true_imp_iff, imp_self, implies_true, ne_eq, reduceIte, cl, cl0, cl1, cl2, vpn, vp0, le8, le16, le40, le640, le1400, le6400, lt8, lt16, le15, le2, nI_leI, nI_ltI, nI_eq, nI_1, nI_add, n_le0, n_lt0, n_0le, n_eq0, n_eq1, n_eq2, n_m1, n_m1r, Nat.reduceEqDiff, Nat.reduceAdd, Int32.add_zero, nI_pred, div16, mul15, mul40, mul16, mul640, mulr16, xu_s, xu_c, xu_k, xu_cc, rows_xu, xf_s, xf_c, rows_xf, xul_c, rows_xul, xul_L, lgc, n10]
    exact Inv_thr _ _ _ hI'
  rcases root_cases x2 with h | ⟨b, hb, rfl⟩
  · have h : badRoot x2 := h
    right; left
    refine ⟨Or.inr ((e_cr ha _ _).mpr (Or.inl ((e_qrN h _ _).mpr rfl))), l1, l2, l3, ?_⟩
    unfold p_Mod_copy p_Mod_copy_J19
    rw [e_isRoot ha, e_isRootN h]
    refine ⟨fun x => absurd x n10, fun _ => ⟨fun _ => J0 _ ?_, fun x => absurd rfl x⟩⟩
    unfold p_Mod_thrown
    simp (disch := omega) only [forall_eq, true_and, and_true, and_self, not_true_eq_false, not_false_eq_true, false_imp_iff, true_imp_iff, imp_self, implies_true, ne_eq, reduceIte, cl, cl0, cl1, cl2, vpn, vp0, le8, le16, le40, le640, le1400, le6400, lt8, lt16, le15, le2, nI_leI, nI_ltI, nI_eq, nI_1, nI_add, n_le0, n_lt0, n_0le, n_eq0, n_eq1, n_eq2, n_m1, n_m1r, Nat.reduceEqDiff, Nat.reduceAdd, Int32.add_zero, nI_pred, div16, mul15, mul40, mul16, mul640, mulr16, xu_s, xu_c, xu_k, xu_cc, rows_xu, xf_s, xf_c, rows_xf, xul_c, rows_xul, xul_L, lgc, n10]
    exact Inv_thr _ _ _ hI'
  rcases reg_cases x3 (r := R) (by omega) with h' | ⟨r, hr, rfl⟩
  · right; right
    refine ⟨Or.inr ((e_cr ha _ _).mpr (Or.inr ((e_cr hb _ _).mpr (Or.inl ((e_qrgN h' hR7 _).mpr rfl))))), l1, l2, l3, ?_⟩
    unfold p_Mod_copy p_Mod_copy_J20 p_Mod_thrown
    rw [e_isRoot ha, e_isRoot hb, e_mrgN h' hR, e_goes2]
    simp (disch := omega) only [forall_eq, true_and, and_true, and_self, not_true_eq_false, not_false_eq_true, false_imp_iff, true_imp_iff, imp_self, implies_true, ne_eq, reduceIte, cl, cl0, cl1, cl2, vpn, vp0, le8, le16, le40, le640, le1400, le6400, lt8, lt16, le15, le2, nI_leI, nI_ltI, nI_eq, nI_1, nI_add, n_le0, n_lt0, n_0le, n_eq0, n_eq1, n_eq2, n_m1, n_m1r, Nat.reduceEqDiff, Nat.reduceAdd, Int32.add_zero, nI_pred, div16, mul15, mul40, mul16, mul640, mulr16, xu_s, xu_c, xu_k, xu_cc, rows_xu, xf_s, xf_c, rows_xf, xul_c, rows_xul, xul_L, lgc, n10, n20]
    exact Inv_thr _ _ _ hI'
  left
  unfold p_Rp_copy
  rw [e_cr ha, e_cr hb, e_crg hR8 hr hR7]
  show p_Par_find (nI b) (nI r) σ (fun σ4 => p_Par_fitInto (nI r) σ4 (fun r6 σ5 => ((¬ r6 = 0 → p_Par_duplicate (nI r) σ5 (fun σ8 => p_Val_take_5_5 (nI a) (nI b) σ8 (fun σ9 => p_Mem_followMove_1_5 (nI a) σ9 (fun σ10 => p_Par_amount σ10 (fun r12 σ11 => p_Par_amount (xu σ11 0 5 ((σ10 0 5) + r12)) (fun r14 σ13 => cpG t L x4 (nI a) (nI b) (nI r) r14 σ13)))))) ∧ (r6 = 0 → cpG t L x4 (nI a) (nI b) (nI r) (-1) σ5))))
  have hr8 : r < 8 := by omega
  have hrN : r < rN σ := by omega
  obtain ⟨sG, sC, s6, sF, sZ⟩ := stP_G (r := r) (j := b) (by omega) hI2 hb
  obtain ⟨st, est⟩ : ∃ st, stP σ r b = st := ⟨_, rfl⟩
  have find := lc_find (r := r) (j := b) (by omega) hI2 hr8 hb
  have findM := fun τ0 hE => lm_find (r := r) (j := b) (τ0 := τ0) (by omega) hI2 hE hr8 hb
  rw [est] at sG sC s6 sF sZ
  rw [est] at find
  simp only [est] at findM
  obtain ⟨pt, c⟩ := st
  dsimp only at s6 sC sF sZ
  have hB : ∀ k, k < c → oB σ (pt k) := fun k hk => (sG.1 k hk).1
  have hd : ∀ i j, i < j → j < c → pt i ≠ pt j := sG.2
  have p6 : ∀ o, oB σ o → oP σ o < 640 := fun o ho => (h1 o ho).2.2.2.2.2.1.2
  have pinj : ∀ o q, oB σ o → oB σ q → oP σ o = oP σ q → o = q := fun o q ho hq e => by
    by_cases x : o = q
    · exact x
    · have := hG.2.2.2.2 o q ho hq x; omega
  have hT : TR σ σ := Inv2_TR hI2
  refine find _ (fun τ1 hPC => ?_)
  obtain ⟨C1, C2, C3, C4⟩ := id hPC
  dsimp only at C1 C2 C3
  have hI1 := PC_Inv hI2 hPC s6 hB p6
  have hT1 : TR τ1 σ := Inv2_TR hI1
  obtain ⟨f23, f16⟩ := clF_23 hT1 hrN
  have start : ∀ (σF : xS) (v : Int32), (∀ d, (d = 30 ∨ d = 31 ∨ 40 ≤ d) → σF d = σ d) → (∀ τ, RE σ τ → (∀ d, (d < 30 ∨ (32 ≤ d ∧ d < 40)) → τ d = σF d) → τ 31 0 = 0 → xL (τ 30) 0 = v.toInt64 → PM τ τ (pt, c) → p_Mod_haveRoom (nI r) τ (fun r11 σ10 => ((¬ r11 = 0 → (∃ n, p_Mod_copy_L52 (mkQ (Inv (t + 1))) n (nI a) (nI b) (nI r) 0 σ10)) ∧ (r11 = 0 → mkQ (Inv (t + 1)) (-1) σ10)))) → cpG t L x4 (nI a) (nI b) (nI r) v σF := fun σF v hF hgo => by
    refine ⟨(vp0 (by decide) (by decide)).mpr trivial, l1, l2, l3, ?_⟩
    unfold p_Mod_copy p_Mod_copy_J20
    rw [e_isRoot ha, e_isRoot hb, e_mrg hR8 hr (by simp (disch := omega) only [forall_eq, true_and, and_true, and_self, not_true_eq_false, not_false_eq_true, false_imp_iff, true_imp_iff, imp_self, implies_true, ne_eq, reduceIte, cl, cl0, cl1, cl2, vpn, vp0, le8, le16, le40, le640, le1400, le6400, lt8, lt16, le15, le2, nI_leI, nI_ltI, nI_eq, nI_1, nI_add, n_le0, n_lt0, n_0le, n_eq0, n_eq1, n_eq2, n_m1, n_m1r, Nat.reduceEqDiff, Nat.reduceAdd, Int32.add_zero, nI_pred, div16, mul15, mul40, mul16, mul640, mulr16, xu_s, xu_c, xu_k, xu_cc, rows_xu, xf_s, xf_c, rows_xf, xul_c, rows_xul, xul_L, lgc]; rw [hF 31 (by omega)]; exact hR), e_goes]
    simp (disch := omega) only [forall_eq, true_and, and_true, and_self, not_true_eq_false, not_false_eq_true, false_imp_iff, true_imp_iff, imp_self, implies_true, ne_eq, reduceIte, cl, cl0, cl1, cl2, vpn, vp0, le8, le16, le40, le640, le1400, le6400, lt8, lt16, le15, le2, nI_leI, nI_ltI, nI_eq, nI_1, nI_add, n_le0, n_lt0, n_0le, n_eq0, n_eq1, n_eq2, n_m1, n_m1r, Nat.reduceEqDiff, Nat.reduceAdd, Int32.add_zero, nI_pred, div16, mul15, mul40, mul16, mul640, mulr16, xu_s, xu_c, xu_k, xu_cc, rows_xu, xf_s, xf_c, rows_xf, xul_c, rows_xul, xul_L, lgc, n10]
    have hE : RE σ (xu (xul σF 30 0 v.toInt64) 31 0 0) := ⟨fun d h1 h2 h3 => by simp (disch := omega) only [forall_eq, true_and, and_true, and_self, not_true_eq_false, not_false_eq_true, false_imp_iff, true_imp_iff, imp_self, implies_true, ne_eq, reduceIte, cl, cl0, cl1, cl2, vpn, vp0, le8, le16, le40, le640, le1400, le6400, lt8, lt16, le15, le2, nI_leI, nI_ltI, nI_eq, nI_1, nI_add, n_le0, n_lt0, n_0le, n_eq0, n_eq1, n_eq2, n_m1, n_m1r, Nat.reduceEqDiff, Nat.reduceAdd, Int32.add_zero, nI_pred, div16, mul15, mul40, mul16, mul640, mulr16, xu_s, xu_c, xu_k, xu_cc, rows_xu, xf_s, xf_c, rows_xf, xul_c, rows_xul, xul_L, lgc]; exact hF d (by omega), fun x h1 h2 => by simp (disch := omega) only [forall_eq, true_and, and_true, and_self, not_true_eq_false, not_false_eq_true, false_imp_iff, true_imp_iff, imp_self, implies_true, ne_eq, reduceIte, cl, cl0, cl1, cl2, vpn, vp0, le8, le16, le40, le640, le1400, le6400, lt8, lt16, le15, le2, nI_leI, nI_ltI, nI_eq, nI_1, nI_add, n_le0, n_lt0, n_0le, n_eq0, n_eq1, n_eq2, n_m1, n_m1r, Nat.reduceEqDiff, Nat.reduceAdd, Int32.add_zero, nI_pred, div16, mul15, mul40, mul16, mul640, mulr16, xu_s, xu_c, xu_k, xu_cc, rows_xu, xf_s, xf_c, rows_xf, xul_c, rows_xul, xul_L, lgc]; rw [hF 31 (by omega)]⟩
    refine findM _ hE _ (fun τ hPM => ?_)
    obtain ⟨E2, F2⟩ := PM_RE hE hPM
    refine hgo τ E2 (fun d hd => ?_) ?_ ?_ ?_
    · rw [F2.1 d (by omega)]; simp (disch := omega) only [forall_eq, true_and, and_true, and_self, not_true_eq_false, not_false_eq_true, false_imp_iff, true_imp_iff, imp_self, implies_true, ne_eq, reduceIte, cl, cl0, cl1, cl2, vpn, vp0, le8, le16, le40, le640, le1400, le6400, lt8, lt16, le15, le2, nI_leI, nI_ltI, nI_eq, nI_1, nI_add, n_le0, n_lt0, n_0le, n_eq0, n_eq1, n_eq2, n_m1, n_m1r, Nat.reduceEqDiff, Nat.reduceAdd, Int32.add_zero, nI_pred, div16, mul15, mul40, mul16, mul640, mulr16, xu_s, xu_c, xu_k, xu_cc, rows_xu, xf_s, xf_c, rows_xf, xul_c, rows_xul, xul_L, lgc]
    · rw [F2.2]; simp (disch := omega) only [forall_eq, true_and, and_true, and_self, not_true_eq_false, not_false_eq_true, false_imp_iff, true_imp_iff, imp_self, implies_true, ne_eq, reduceIte, cl, cl0, cl1, cl2, vpn, vp0, le8, le16, le40, le640, le1400, le6400, lt8, lt16, le15, le2, nI_leI, nI_ltI, nI_eq, nI_1, nI_add, n_le0, n_lt0, n_0le, n_eq0, n_eq1, n_eq2, n_m1, n_m1r, Nat.reduceEqDiff, Nat.reduceAdd, Int32.add_zero, nI_pred, div16, mul15, mul40, mul16, mul640, mulr16, xu_s, xu_c, xu_k, xu_cc, rows_xu, xf_s, xf_c, rows_xf, xul_c, rows_xul, xul_L, lgc]
    · rw [F2.1 30 (by omega)]; simp (disch := omega) only [forall_eq, true_and, and_true, and_self, not_true_eq_false, not_false_eq_true, false_imp_iff, true_imp_iff, imp_self, implies_true, ne_eq, reduceIte, cl, cl0, cl1, cl2, vpn, vp0, le8, le16, le40, le640, le1400, le6400, lt8, lt16, le15, le2, nI_leI, nI_ltI, nI_eq, nI_1, nI_add, n_le0, n_lt0, n_0le, n_eq0, n_eq1, n_eq2, n_m1, n_m1r, Nat.reduceEqDiff, Nat.reduceAdd, Int32.add_zero, nI_pred, div16, mul15, mul40, mul16, mul640, mulr16, xu_s, xu_c, xu_k, xu_cc, rows_xu, xf_s, xf_c, rows_xf, xul_c, rows_xul, xul_L, lgc]
    · obtain ⟨q1, q2, q3, q4, q5⟩ := hPM
      exact ⟨q1, q2, q3, fun _ _ _ _ => rfl, fun _ _ => rfl⟩
  have room : ∀ (τ : xS) (Q : Int32 → xS → Prop), RE σ τ → PM τ τ (pt, c) → ((fmK (clF σ r) (fun k => oM σ (pt k) + 1) c).2 ≤ cnt (fun p => σ 50 p = 0) 40 → Q 1 τ) → (¬ (fmK (clF σ r) (fun k => oM σ (pt k) + 1) c).2 ≤ cnt (fun p => σ 50 p = 0) 40 → Q 0 τ) → p_Mod_haveRoom (nI r) τ Q := fun τ Q hE hPM hy hn => by
    obtain ⟨a1, a2, a3, a4, a5, a6, _⟩ := TR_at hT hrN
    have e50 := hE.1 50 (by decide) (by decide) (by decide)
    refine e_roomM (mr := mm σ r) (fr := tf σ r) (c := c) (o := pt) (m := fun k => oM σ (pt k)) hr8 (by rw [hE.1 51 (by decide) (by decide) (by decide)]; exact a3) a2 (by rw [hE.1 53 (by decide) (by decide) (by decide)]; exact a4) a5 hPM.1 s6 (fun k hk => ⟨hPM.2.1 k hk, (hB k hk).1, by rw [hE.1 42 (by decide) (by decide) (by decide)]; exact (hG.1 _ (hB k hk)).1.2.2.1, (hG.1 _ (hB k hk)).1.2.2.2.1⟩) Q (fun x => hy ?_) (fun x => hn ?_)
    · rw [e50] at x; exact x
    · rw [e50] at x; exact x
  have e29 : τ1 29 = σ 29 := C4 29 (by decide) (by decide) (by decide)
  have m15 : ∀ k, k < c → τ1 29 (oP σ (pt k)) &&& 15 = nI (oM σ (pt k)) := fun k hk => by
    rw [e29]
    have := (c1.1 _ (hB k hk)).2
    have e : σ 29 (oP σ (pt k)) = oH σ (pt k) := this
    rw [e]; exact (hG.1 _ (hB k hk)).2.2.2.2.1
  refine e_fitC (f0 := clF σ r) (c := c) (p := fun k => oP σ (pt k)) (m := fun k => oM σ (pt k)) hr8 f23 f16 C1 s6 (fun k hk => ⟨C2 k hk, p6 _ (hB k hk), m15 k hk, (hG.1 _ (hB k hk)).1.2.2.2.1⟩) _ (fun hroom => ?_) (fun hroom => ?_)
  · rw [free_eq hT1] at hroom
    simp (disch := omega) only [forall_eq, true_and, and_true, and_self, not_true_eq_false, not_false_eq_true, false_imp_iff, true_imp_iff, imp_self, implies_true, ne_eq, reduceIte, cl, cl0, cl1, cl2, vpn, vp0, le8, le16, le40, le640, le1400, le6400, lt8, lt16, le15, le2, nI_leI, nI_ltI, nI_eq, nI_1, nI_add, n_le0, n_lt0, n_0le, n_eq0, n_eq1, n_eq2, n_m1, n_m1r, Nat.reduceEqDiff, Nat.reduceAdd, Int32.add_zero, nI_pred, div16, mul15, mul40, mul16, mul640, mulr16, xu_s, xu_c, xu_k, xu_cc, rows_xu, xf_s, xf_c, rows_xf, xul_c, rows_xul, xul_L, lgc, n10]
    obtain ⟨σs, ρs, qs, e1, e2, hC, _⟩ := Ch_ex (sz := fun k => oM σ (pt k) + 1) hT1 hrN c (fun k hk => ⟨by omega, by have := (hG.1 _ (hB k hk)).1.2.2.2.1; omega⟩) hroom
    have e20 : τ1 20 = σ 20 := C4 20 (by decide) (by decide) (by decide)
    obtain ⟨hLF, hTs, it1, it2⟩ := LF_of (by omega) hI2 hrN hT1 e20 e1 e2 hC hB hd
    unfold p_Par_duplicate
    refine e_placeAll (p := fun k => oP σ (pt k)) (m := fun k => oM σ (pt k)) hT1 hrN e1 e2 hC C1 s6 (fun k hk => ⟨C2 k hk, p6 _ (hB k hk), m15 k hk, (hG.1 _ (hB k hk)).1.2.2.2.1⟩) (fun a b hab hb e => hd a b hab hb (pinj _ _ (hB a (by omega)) (hB b hb) e)) _ (fun τ2 g2 hnp => ?_)
    have hfr : ∀ k, k ≤ c → ∀ d, d ≠ 20 → d ≠ 22 → d ≠ 23 → ¬ (32 ≤ d ∧ d < 40) → σs k d = τ1 d := by
      intro k
      induction k with
      | zero => intro _ d _ _ _ _; rw [e1]
      | succ k ih => intro hk d h1 h2 h3 h4; rw [(Tk_fr (hC k (by omega)) hr8).1 d h1 h2 h3 h4]; exact ih (by omega) d h1 h2 h3 h4
    have g1 : ∀ d, d ≠ 10 ∧ d ≠ 20 ∧ d ≠ 22 ∧ d ≠ 23 ∧ ¬ (32 ≤ d ∧ d < 40) → τ2 d = τ1 d := fun d x => by rw [g2 d x.1]; exact hfr c (Nat.le_refl _) d x.2.1 x.2.2.1 x.2.2.2.1 x.2.2.2.2
    have g0 : ∀ d, d ≠ 10 ∧ d ≠ 20 ∧ d ≠ 22 ∧ d ≠ 23 ∧ ¬ (32 ≤ d ∧ d < 40) ∧ d ≠ 3 ∧ d ≠ 12 ∧ d ≠ 13 → τ2 d = σ d := fun d x => by rw [g1 d ⟨x.1, x.2.1, x.2.2.1, x.2.2.2.1, x.2.2.2.2.1⟩]; exact C4 d x.2.2.2.2.2.1 x.2.2.2.2.2.2.1 x.2.2.2.2.2.2.2
    have hnp' : ∀ u, oB σ u → τ2 10 (oP σ u) = nI (lfP pt qs (oP σ) c u) := fun u hu => np_of hnp hB hd pinj p6 hu
    have live : ∀ o i, oB σ o → i < oM σ o → oS σ o i = 2 → ∃ v, v < 640 ∧ oC σ o i = nI v := fun o i ho hi e2 => by
      obtain ⟨b1, b2, b3⟩ := (hG.2.1 o i ho hi).2 e2
      refine ⟨oP σ (oV σ o i), p6 _ b2, ?_⟩
      have e' : σ 46 (15 * o + i) = 2 := e2
      show tr (σ 44) (σ 46 (15 * o + i)) (σ 47 (15 * o + i)) = _
      rw [e', tr_2]
      exact (hG.1 _ b2).2.2.1.1
    refine e_dupAll (c := c) hLF (fun o ho => ⟨(hG.1 o ho).2.2.1.2, (hG.1 o ho).1.2.2.2.1, (hG.1 o ho).2.2.2.2.1⟩) live (by rw [g1 3 (by decide)]; exact C1) s6 (fun k hk => by rw [g1 12 (by decide)]; exact C2 k hk) (fun k hk => by rw [hnp' _ (hB k hk), lfP_y c hd hk]) (fs := oS σ) (fc := oC σ) (hd := oH σ) (by rw [g0 28 (by decide), g0 29 (by decide)]; exact c1) _ (fun s s' hH => ?_)
    obtain ⟨q1, q2, q3⟩ := hp2_e τ2 s s'
    obtain ⟨τ3, e3⟩ : ∃ τ3, hp2 τ2 s s' = τ3 := ⟨_, rfl⟩
    rw [e3] at q1 q2 q3 ⊢
    have h33 : τ3 3 3 = nI c := by rw [q3 3 (by decide) (by decide), g1 3 (by decide)]; exact C1
    have h00 : τ3 0 = σ 0 := by rw [q3 0 (by decide) (by decide), g0 0 (by decide)]
    have h17 : τ3 17 = σ 17 := by rw [q3 17 (by decide) (by decide), g0 17 (by decide)]
    have h18 : τ3 18 = σ 18 := by rw [q3 18 (by decide) (by decide), g0 18 (by decide)]
    have h10 : τ3 10 = τ2 10 := q3 10 (by decide) (by decide)
    obtain ⟨w, ew⟩ : ∃ w, (if σ 54 b = 2 then τ2 10 ((σ 18 b).toNatClampNeg) else σ 18 b) = w := ⟨_, rfl⟩
    have rootC : σ 54 b = 2 → oB σ (oR σ b) ∧ σ 18 b = nI (oP σ (oR σ b)) := fun e => by
      have B := (hG.2.2.1 b hb e).2
      refine ⟨B, ?_⟩
      rw [(c2 b hb).2, e, tr_2]
      exact (hG.1 _ B).2.2.1.1
    have fin : cpG t L x4 (nI a) (nI b) (nI r) (nI c) (xu (xu (xu τ3 17 a (σ 54 b)) 18 a w) 0 5 (σ 0 5 + nI c)) := by
      refine start _ _ (fun d hd' => ?_) (fun τ hE hc h0 h30 hPM => ?_)
      · simp (disch := omega) only [forall_eq, true_and, and_true, and_self, not_true_eq_false, not_false_eq_true, false_imp_iff, true_imp_iff, imp_self, implies_true, ne_eq, reduceIte, cl, cl0, cl1, cl2, vpn, vp0, le8, le16, le40, le640, le1400, le6400, lt8, lt16, le15, le2, nI_leI, nI_ltI, nI_eq, nI_1, nI_add, n_le0, n_lt0, n_0le, n_eq0, n_eq1, n_eq2, n_m1, n_m1r, Nat.reduceEqDiff, Nat.reduceAdd, Int32.add_zero, nI_pred, div16, mul15, mul40, mul16, mul640, mulr16, xu_s, xu_c, xu_k, xu_cc, rows_xu, xf_s, xf_c, rows_xf, xul_c, rows_xul, xul_L, lgc]
        rw [q3 d (by omega) (by omega)]; exact g0 d (by omega)
      refine room τ _ hE hPM (fun _ => ?_) (fun x => absurd hroom x)
      simp (disch := omega) only [forall_eq, true_and, and_true, and_self, not_true_eq_false, not_false_eq_true, false_imp_iff, true_imp_iff, imp_self, implies_true, ne_eq, reduceIte, cl, cl0, cl1, cl2, vpn, vp0, le8, le16, le40, le640, le1400, le6400, lt8, lt16, le15, le2, nI_leI, nI_ltI, nI_eq, nI_1, nI_add, n_le0, n_lt0, n_0le, n_eq0, n_eq1, n_eq2, n_m1, n_m1r, Nat.reduceEqDiff, Nat.reduceAdd, Int32.add_zero, nI_pred, div16, mul15, mul40, mul16, mul640, mulr16, xu_s, xu_c, xu_k, xu_cc, rows_xu, xf_s, xf_c, rows_xf, xul_c, rows_xul, xul_L, lgc, n10]
      refine e_copyN (σs := σs) (ρs := ρs) (qs := qs) (pt := pt) (by omega) hI2 hrN hE hC (fun d hd' => ?_) e2 hB hPM.1 s6 hPM.2.1 _ _ _ (fun τ4 no hCK => ?_)
      · rw [e1]; exact (C4 d (by omega) (by omega) (by omega)).symm
      obtain ⟨K1, K2, K3, K4, K5, K6, K7, K8, aa, Ia, a1, a2⟩ := id hCK
      have t31 : τ4 31 = τ 31 := K8 31 (by omega) (by decide)
      refine e_copyF (r := r) (qs := qs) (no := no) (pt := pt) (by omega) hI2 ha hb hB s6 (fun j hj => ⟨(K1 j hj).1, fun x => x.2 (K1 j hj).2⟩) K2 (by rw [t31]; exact hPM.1) (fun k hk => by rw [K8 57 (by omega) (by decide)]; exact hPM.2.1 k hk) (fun o ho => by rw [K8 58 (by omega) (by decide)]; exact hPM.2.2.1 o ho) (fun j hj => (K5 j hj).2.2.2.2.2) (by rw [t31, hE.2 19 (by decide) (by decide)]; exact hG.2.2.2.1.1) (fun x hx => (K4 x hx).2.2.1) (fun x l hx hl => (K4 x hx).2.2.2.2.2.2 l hl) _ (fun y hCP => ?_)
      have yd : ∀ d, d ≠ 46 → d ≠ 47 → ¬ (40 ≤ d ∧ d ≤ 53) → d ≠ 56 → y d = τ d := fun d d1 d2 d3 d4 => by rw [hCP.2.2 d d1 d2]; exact K8 d d3 d4
      have y31 : y 31 = τ 31 := yd 31 (by decide) (by decide) (by omega) (by decide)
      have y54 : y 54 = σ 54 := by rw [yd 54 (by decide) (by decide) (by omega) (by decide)]; exact hE.1 54 (by decide) (by decide) (by decide)
      have y55 : y 55 = σ 55 := by rw [yd 55 (by decide) (by decide) (by omega) (by decide)]; exact hE.1 55 (by decide) (by decide) (by decide)
      refine mkQ_i ?_ ?_ ?_
      · simp (disch := omega) only [forall_eq, true_and, and_true, and_self, not_true_eq_false, not_false_eq_true, false_imp_iff, true_imp_iff, imp_self, implies_true, ne_eq, reduceIte, cl, cl0, cl1, cl2, vpn, vp0, le8, le16, le40, le640, le1400, le6400, lt8, lt16, le15, le2, nI_leI, nI_ltI, nI_eq, nI_1, nI_add, n_le0, n_lt0, n_0le, n_eq0, n_eq1, n_eq2, n_m1, n_m1r, Nat.reduceEqDiff, Nat.reduceAdd, Int32.add_zero, nI_pred, div16, mul15, mul40, mul16, mul640, mulr16, xu_s, xu_c, xu_k, xu_cc, rows_xu, xf_s, xf_c, rows_xf, xul_c, rows_xul, xul_L, lgc]; rw [y31]; exact h0
      · simp (disch := omega) only [forall_eq, true_and, and_true, and_self, not_true_eq_false, not_false_eq_true, false_imp_iff, true_imp_iff, imp_self, implies_true, ne_eq, reduceIte, cl, cl0, cl1, cl2, vpn, vp0, le8, le16, le40, le640, le1400, le6400, lt8, lt16, le15, le2, nI_leI, nI_ltI, nI_eq, nI_1, nI_add, n_le0, n_lt0, n_0le, n_eq0, n_eq1, n_eq2, n_m1, n_m1r, Nat.reduceEqDiff, Nat.reduceAdd, Int32.add_zero, nI_pred, div16, mul15, mul40, mul16, mul640, mulr16, xu_s, xu_c, xu_k, xu_cc, rows_xu, xf_s, xf_c, rows_xf, xul_c, rows_xul, xul_L, lgc]; rw [yd 30 (by decide) (by decide) (by omega) (by decide)]; exact h30
      rw [y54, y55, y31, hE.2 25 (by decide) (by decide)]
      have hM := copy_mid (X := xu τ3 0 5 (σ 0 5 + nI c)) (Y := xu y 31 25 (σ 31 25 + nI c)) (s := s) (s' := s') (np := τ2 10) (pt := pt) (qs := qs) (no := no) (r := r) (c := c) (by omega) hI2 hrN hCK hCP hB hd sC hH hnp' (fun k hk => by have := (hLF.1 k hk).2; omega) (by simp (disch := omega) only [forall_eq, true_and, and_true, and_self, not_true_eq_false, not_false_eq_true, false_imp_iff, true_imp_iff, imp_self, implies_true, ne_eq, reduceIte, cl, cl0, cl1, cl2, vpn, vp0, le8, le16, le40, le640, le1400, le6400, lt8, lt16, le15, le2, nI_leI, nI_ltI, nI_eq, nI_1, nI_add, n_le0, n_lt0, n_0le, n_eq0, n_eq1, n_eq2, n_m1, n_m1r, Nat.reduceEqDiff, Nat.reduceAdd, Int32.add_zero, nI_pred, div16, mul15, mul40, mul16, mul640, mulr16, xu_s, xu_c, xu_k, xu_cc, rows_xu, xf_s, xf_c, rows_xf, xul_c, rows_xul, xul_L, lgc]; exact q1) (by simp (disch := omega) only [forall_eq, true_and, and_true, and_self, not_true_eq_false, not_false_eq_true, false_imp_iff, true_imp_iff, imp_self, implies_true, ne_eq, reduceIte, cl, cl0, cl1, cl2, vpn, vp0, le8, le16, le40, le640, le1400, le6400, lt8, lt16, le15, le2, nI_leI, nI_ltI, nI_eq, nI_1, nI_add, n_le0, n_lt0, n_0le, n_eq0, n_eq1, n_eq2, n_m1, n_m1r, Nat.reduceEqDiff, Nat.reduceAdd, Int32.add_zero, nI_pred, div16, mul15, mul40, mul16, mul640, mulr16, xu_s, xu_c, xu_k, xu_cc, rows_xu, xf_s, xf_c, rows_xf, xul_c, rows_xul, xul_L, lgc]; exact q2) (fun d hd' => by
        rw [xu_c _ _ _ _ (by omega), q3 d (by omega) (by omega)]; exact g2 d (by omega)) (fun d hd' => by
        rw [xu_c _ _ _ _ (by omega), q3 d (by omega) (by omega)]; exact g0 d (by omega)) (by simp (disch := omega) only [forall_eq, true_and, and_true, and_self, not_true_eq_false, not_false_eq_true, false_imp_iff, true_imp_iff, imp_self, implies_true, ne_eq, reduceIte, cl, cl0, cl1, cl2, vpn, vp0, le8, le16, le40, le640, le1400, le6400, lt8, lt16, le15, le2, nI_leI, nI_ltI, nI_eq, nI_1, nI_add, n_le0, n_lt0, n_0le, n_eq0, n_eq1, n_eq2, n_m1, n_m1r, Nat.reduceEqDiff, Nat.reduceAdd, Int32.add_zero, nI_pred, div16, mul15, mul40, mul16, mul640, mulr16, xu_s, xu_c, xu_k, xu_cc, rows_xu, xf_s, xf_c, rows_xf, xul_c, rows_xul, xul_L, lgc]; rw [h00]) (by simp (disch := omega) only [forall_eq, true_and, and_true, and_self, not_true_eq_false, not_false_eq_true, false_imp_iff, true_imp_iff, imp_self, implies_true, ne_eq, reduceIte, cl, cl0, cl1, cl2, vpn, vp0, le8, le16, le40, le640, le1400, le6400, lt8, lt16, le15, le2, nI_leI, nI_ltI, nI_eq, nI_1, nI_add, n_le0, n_lt0, n_0le, n_eq0, n_eq1, n_eq2, n_m1, n_m1r, Nat.reduceEqDiff, Nat.reduceAdd, Int32.add_zero, nI_pred, div16, mul15, mul40, mul16, mul640, mulr16, xu_s, xu_c, xu_k, xu_cc, rows_xu, xf_s, xf_c, rows_xf, xul_c, rows_xul, xul_L, lgc]) (by
        simp (disch := omega) only [forall_eq, true_and, and_true, and_self, not_true_eq_false, not_false_eq_true, false_imp_iff, true_imp_iff, imp_self, implies_true, ne_eq, reduceIte, cl, cl0, cl1, cl2, vpn, vp0, le8, le16, le40, le640, le1400, le6400, lt8, lt16, le15, le2, nI_leI, nI_ltI, nI_eq, nI_1, nI_add, n_le0, n_lt0, n_0le, n_eq0, n_eq1, n_eq2, n_m1, n_m1r, Nat.reduceEqDiff, Nat.reduceAdd, Int32.add_zero, nI_pred, div16, mul15, mul40, mul16, mul640, mulr16, xu_s, xu_c, xu_k, xu_cc, rows_xu, xf_s, xf_c, rows_xf, xul_c, rows_xul, xul_L, lgc]
        rw [q3 3 (by decide) (by decide), q3 12 (by decide) (by decide), q3 13 (by decide) (by decide), g1 3 (by decide), g1 12 (by decide), g1 13 (by decide)]
        exact PC_scr hPC s6 hB p6) (fun d h1 h2 h3 => by simp (disch := omega) only [forall_eq, true_and, and_true, and_self, not_true_eq_false, not_false_eq_true, false_imp_iff, true_imp_iff, imp_self, implies_true, ne_eq, reduceIte, cl, cl0, cl1, cl2, vpn, vp0, le8, le16, le40, le640, le1400, le6400, lt8, lt16, le15, le2, nI_leI, nI_ltI, nI_eq, nI_1, nI_add, n_le0, n_lt0, n_0le, n_eq0, n_eq1, n_eq2, n_m1, n_m1r, Nat.reduceEqDiff, Nat.reduceAdd, Int32.add_zero, nI_pred, div16, mul15, mul40, mul16, mul640, mulr16, xu_s, xu_c, xu_k, xu_cc, rows_xu, xf_s, xf_c, rows_xf, xul_c, rows_xul, xul_L, lgc]) (fun k h1 h2 h3 => by simp (disch := omega) only [forall_eq, true_and, and_true, and_self, not_true_eq_false, not_false_eq_true, false_imp_iff, true_imp_iff, imp_self, implies_true, ne_eq, reduceIte, cl, cl0, cl1, cl2, vpn, vp0, le8, le16, le40, le640, le1400, le6400, lt8, lt16, le15, le2, nI_leI, nI_ltI, nI_eq, nI_1, nI_add, n_le0, n_lt0, n_0le, n_eq0, n_eq1, n_eq2, n_m1, n_m1r, Nat.reduceEqDiff, Nat.reduceAdd, Int32.add_zero, nI_pred, div16, mul15, mul40, mul16, mul640, mulr16, xu_s, xu_c, xu_k, xu_cc, rows_xu, xf_s, xf_c, rows_xf, xul_c, rows_xul, xul_L, lgc]; rw [y31]; exact hE.2 k h1 h2) (by simp (disch := omega) only [forall_eq, true_and, and_true, and_self, not_true_eq_false, not_false_eq_true, false_imp_iff, true_imp_iff, imp_self, implies_true, ne_eq, reduceIte, cl, cl0, cl1, cl2, vpn, vp0, le8, le16, le40, le640, le1400, le6400, lt8, lt16, le15, le2, nI_leI, nI_ltI, nI_eq, nI_1, nI_add, n_le0, n_lt0, n_0le, n_eq0, n_eq1, n_eq2, n_m1, n_m1r, Nat.reduceEqDiff, Nat.reduceAdd, Int32.add_zero, nI_pred, div16, mul15, mul40, mul16, mul640, mulr16, xu_s, xu_c, xu_k, xu_cc, rows_xu, xf_s, xf_c, rows_xf, xul_c, rows_xul, xul_L, lgc]) hE
      have yv : vOk (xu y 31 25 (σ 31 25 + nI c) 40) (xu y 31 25 (σ 31 25 + nI c) 43) 8 (σ 54 b) (if c = 0 then σ 55 b else nI (no 0)) ∧ w = tr (xu y 31 25 (σ 31 25 + nI c) 44) (σ 54 b) (if c = 0 then σ 55 b else nI (no 0)) := by
        simp (disch := omega) only [forall_eq, true_and, and_true, and_self, not_true_eq_false, not_false_eq_true, false_imp_iff, true_imp_iff, imp_self, implies_true, ne_eq, reduceIte, cl, cl0, cl1, cl2, vpn, vp0, le8, le16, le40, le640, le1400, le6400, lt8, lt16, le15, le2, nI_leI, nI_ltI, nI_eq, nI_1, nI_add, n_le0, n_lt0, n_0le, n_eq0, n_eq1, n_eq2, n_m1, n_m1r, Nat.reduceEqDiff, Nat.reduceAdd, Int32.add_zero, nI_pred, div16, mul15, mul40, mul16, mul640, mulr16, xu_s, xu_c, xu_k, xu_cc, rows_xu, xf_s, xf_c, rows_xf, xul_c, rows_xul, xul_L, lgc]
        rw [hCP.2.2 40 (by decide) (by decide), hCP.2.2 43 (by decide) (by decide), hCP.2.2 44 (by decide) (by decide)]
        by_cases c0 : c = 0
        · rw [if_pos c0]
          constructor
          · rcases h4 b hb with z | z | ⟨z1, u, z2, z3, z4⟩
            · exact Or.inl z
            · exact Or.inr (Or.inl z)
            · exact Or.inr (Or.inr ⟨z1, u, (K3 u).mpr (Or.inl z2), z3, by rw [(K4 u z2).2.2.2.1]; exact z4⟩)
          · rw [← ew]
            by_cases e : σ 54 b = 2
            · obtain ⟨B, e18⟩ := rootC e
              rw [if_pos e, e18, cl (by have := p6 _ B; omega), hnp' _ B, lfP_n c (fun j hj => by omega), e, tr_2]
              show _ = τ4 44 (oR σ b)
              rw [(K4 _ B).2.2.2.2.1]
              exact ((hG.1 _ B).2.2.1.1).symm
            · rw [if_neg e, tr_n e, (c2 b hb).2, tr_n e]
        · rw [if_neg c0]
          have hpos : 0 < c := by omega
          have hroot : σ 54 b = 2 ∧ r < oG σ (oR σ b) := Classical.byContradiction (fun z => c0 (sZ z))
          have hp0 := (sF hroot.1 hroot.2).2
          obtain ⟨k1, k2, k3, k4, k5, k6⟩ := K5 0 hpos
          constructor
          · exact Or.inr (Or.inr ⟨hroot.1, no 0, (K3 _).mpr (Or.inr ⟨0, hpos, rfl⟩), rfl, by rw [k4, cl (by omega)]; omega⟩)
          · obtain ⟨B, e18⟩ := rootC hroot.1
            rw [← ew, if_pos hroot.1, e18, cl (by have := p6 _ B; omega), hnp' _ B, hroot.1, tr_2, cl (by have := (K1 0 hpos).1; omega), k5, ← hp0, lfP_y c hd hpos]
      have hFin := Inv2_root a ha (σ 54 b) (if c = 0 then σ 55 b else nI (no 0)) yv.1 hM
      rw [← yv.2] at hFin
      refine RE_CF_Inv hFin ⟨fun d h1 h2 h3 => ?_, fun k h1 h2 => ?_⟩ (fun d hd' => ?_)
      · by_cases x55 : d = 55
        · subst x55; simp (disch := omega) only [forall_eq, true_and, and_true, and_self, not_true_eq_false, not_false_eq_true, false_imp_iff, true_imp_iff, imp_self, implies_true, ne_eq, reduceIte, cl, cl0, cl1, cl2, vpn, vp0, le8, le16, le40, le640, le1400, le6400, lt8, lt16, le15, le2, nI_leI, nI_ltI, nI_eq, nI_1, nI_add, n_le0, n_lt0, n_0le, n_eq0, n_eq1, n_eq2, n_m1, n_m1r, Nat.reduceEqDiff, Nat.reduceAdd, Int32.add_zero, nI_pred, div16, mul15, mul40, mul16, mul640, mulr16, xu_s, xu_c, xu_k, xu_cc, rows_xu, xf_s, xf_c, rows_xf, xul_c, rows_xul, xul_L, lgc]
        · by_cases x54 : d = 54
          · subst x54; simp (disch := omega) only [forall_eq, true_and, and_true, and_self, not_true_eq_false, not_false_eq_true, false_imp_iff, true_imp_iff, imp_self, implies_true, ne_eq, reduceIte, cl, cl0, cl1, cl2, vpn, vp0, le8, le16, le40, le640, le1400, le6400, lt8, lt16, le15, le2, nI_leI, nI_ltI, nI_eq, nI_1, nI_add, n_le0, n_lt0, n_0le, n_eq0, n_eq1, n_eq2, n_m1, n_m1r, Nat.reduceEqDiff, Nat.reduceAdd, Int32.add_zero, nI_pred, div16, mul15, mul40, mul16, mul640, mulr16, xu_s, xu_c, xu_k, xu_cc, rows_xu, xf_s, xf_c, rows_xf, xul_c, rows_xul, xul_L, lgc]
          · simp (disch := omega) only [forall_eq, true_and, and_true, and_self, not_true_eq_false, not_false_eq_true, false_imp_iff, true_imp_iff, imp_self, implies_true, ne_eq, reduceIte, cl, cl0, cl1, cl2, vpn, vp0, le8, le16, le40, le640, le1400, le6400, lt8, lt16, le15, le2, nI_leI, nI_ltI, nI_eq, nI_1, nI_add, n_le0, n_lt0, n_0le, n_eq0, n_eq1, n_eq2, n_m1, n_m1r, Nat.reduceEqDiff, Nat.reduceAdd, Int32.add_zero, nI_pred, div16, mul15, mul40, mul16, mul640, mulr16, xu_s, xu_c, xu_k, xu_cc, rows_xu, xf_s, xf_c, rows_xf, xul_c, rows_xul, xul_L, lgc]
      · by_cases x : k = 25
        · subst x; simp (disch := omega) only [forall_eq, true_and, and_true, and_self, not_true_eq_false, not_false_eq_true, false_imp_iff, true_imp_iff, imp_self, implies_true, ne_eq, reduceIte, cl, cl0, cl1, cl2, vpn, vp0, le8, le16, le40, le640, le1400, le6400, lt8, lt16, le15, le2, nI_leI, nI_ltI, nI_eq, nI_1, nI_add, n_le0, n_lt0, n_0le, n_eq0, n_eq1, n_eq2, n_m1, n_m1r, Nat.reduceEqDiff, Nat.reduceAdd, Int32.add_zero, nI_pred, div16, mul15, mul40, mul16, mul640, mulr16, xu_s, xu_c, xu_k, xu_cc, rows_xu, xf_s, xf_c, rows_xf, xul_c, rows_xul, xul_L, lgc]
        · simp (disch := omega) only [forall_eq, true_and, and_true, and_self, not_true_eq_false, not_false_eq_true, false_imp_iff, true_imp_iff, imp_self, implies_true, ne_eq, reduceIte, cl, cl0, cl1, cl2, vpn, vp0, le8, le16, le40, le640, le1400, le6400, lt8, lt16, le15, le2, nI_leI, nI_ltI, nI_eq, nI_1, nI_add, n_le0, n_lt0, n_0le, n_eq0, n_eq1, n_eq2, n_m1, n_m1r, Nat.reduceEqDiff, Nat.reduceAdd, Int32.add_zero, nI_pred, div16, mul15, mul40, mul16, mul640, mulr16, xu_s, xu_c, xu_k, xu_cc, rows_xu, xf_s, xf_c, rows_xf, xul_c, rows_xul, xul_L, lgc]
      · rw [xu_c _ _ _ _ (by omega), xu_c _ _ _ _ (by omega), xu_c _ _ _ _ (by omega), yd d (by omega) (by omega) (by omega) (by omega), hc d hd']
        by_cases x0 : d = 0
        · subst x0; simp (disch := omega) only [forall_eq, true_and, and_true, and_self, not_true_eq_false, not_false_eq_true, false_imp_iff, true_imp_iff, imp_self, implies_true, ne_eq, reduceIte, cl, cl0, cl1, cl2, vpn, vp0, le8, le16, le40, le640, le1400, le6400, lt8, lt16, le15, le2, nI_leI, nI_ltI, nI_eq, nI_1, nI_add, n_le0, n_lt0, n_0le, n_eq0, n_eq1, n_eq2, n_m1, n_m1r, Nat.reduceEqDiff, Nat.reduceAdd, Int32.add_zero, nI_pred, div16, mul15, mul40, mul16, mul640, mulr16, xu_s, xu_c, xu_k, xu_cc, rows_xu, xf_s, xf_c, rows_xf, xul_c, rows_xul, xul_L, lgc]
        · rw [xu_c _ _ _ _ x0]
          by_cases x18 : d = 18
          · subst x18; simp (disch := omega) only [forall_eq, true_and, and_true, and_self, not_true_eq_false, not_false_eq_true, false_imp_iff, true_imp_iff, imp_self, implies_true, ne_eq, reduceIte, cl, cl0, cl1, cl2, vpn, vp0, le8, le16, le40, le640, le1400, le6400, lt8, lt16, le15, le2, nI_leI, nI_ltI, nI_eq, nI_1, nI_add, n_le0, n_lt0, n_0le, n_eq0, n_eq1, n_eq2, n_m1, n_m1r, Nat.reduceEqDiff, Nat.reduceAdd, Int32.add_zero, nI_pred, div16, mul15, mul40, mul16, mul640, mulr16, xu_s, xu_c, xu_k, xu_cc, rows_xu, xf_s, xf_c, rows_xf, xul_c, rows_xul, xul_L, lgc]
          · rw [xu_c _ _ _ _ x18, xu_c _ _ _ _ x18]
            by_cases x17 : d = 17
            · subst x17; simp (disch := omega) only [forall_eq, true_and, and_true, and_self, not_true_eq_false, not_false_eq_true, false_imp_iff, true_imp_iff, imp_self, implies_true, ne_eq, reduceIte, cl, cl0, cl1, cl2, vpn, vp0, le8, le16, le40, le640, le1400, le6400, lt8, lt16, le15, le2, nI_leI, nI_ltI, nI_eq, nI_1, nI_add, n_le0, n_lt0, n_0le, n_eq0, n_eq1, n_eq2, n_m1, n_m1r, Nat.reduceEqDiff, Nat.reduceAdd, Int32.add_zero, nI_pred, div16, mul15, mul40, mul16, mul640, mulr16, xu_s, xu_c, xu_k, xu_cc, rows_xu, xf_s, xf_c, rows_xf, xul_c, rows_xul, xul_L, lgc]
            · rw [xu_c _ _ _ _ x17, xu_c _ _ _ _ x17, xu_c _ _ _ _ x0]
    unfold p_Val_take_5_5 p_Val_assign_5 p_Mem_followMove_1_5 p_Val_isReference_5 p_Val_contentOf_5 p_Val_setReference_5 p_Val_assign_5 p_Par_amount
    have e17 := (c2 b hb).1
    by_cases e : σ 54 b = 2
    · obtain ⟨B, e18⟩ := rootC e
      have pb := p6 _ B
      rw [if_pos e, e18, cl (by omega)] at ew
      rw [e] at e17 fin
      simp (disch := omega) only [forall_eq, true_and, and_true, and_self, not_true_eq_false, not_false_eq_true, false_imp_iff, true_imp_iff, imp_self, implies_true, ne_eq, reduceIte, cl, cl0, cl1, cl2, vpn, vp0, le8, le16, le40, le640, le1400, le6400, lt8, lt16, le15, le2, nI_leI, nI_ltI, nI_eq, nI_1, nI_add, n_le0, n_lt0, n_0le, n_eq0, n_eq1, n_eq2, n_m1, n_m1r, Nat.reduceEqDiff, Nat.reduceAdd, Int32.add_zero, nI_pred, div16, mul15, mul40, mul16, mul640, mulr16, xu_s, xu_c, xu_k, xu_cc, rows_xu, xf_s, xf_c, rows_xf, xul_c, rows_xul, xul_L, lgc, h17, h18, e17, e18, upd_s, n10, h10, ew, h33, h00, xu_xu]
      rw [xu4 _ (by decide)]
      exact fin
    · rw [if_neg e] at ew
      simp (disch := omega) only [forall_eq, true_and, and_true, and_self, not_true_eq_false, not_false_eq_true, false_imp_iff, true_imp_iff, imp_self, implies_true, ne_eq, reduceIte, cl, cl0, cl1, cl2, vpn, vp0, le8, le16, le40, le640, le1400, le6400, lt8, lt16, le15, le2, nI_leI, nI_ltI, nI_eq, nI_1, nI_add, n_le0, n_lt0, n_0le, n_eq0, n_eq1, n_eq2, n_m1, n_m1r, Nat.reduceEqDiff, Nat.reduceAdd, Int32.add_zero, nI_pred, div16, mul15, mul40, mul16, mul640, mulr16, xu_s, xu_c, xu_k, xu_cc, rows_xu, xf_s, xf_c, rows_xf, xul_c, rows_xul, xul_L, lgc, h17, h18, e17, upd_s, n10, e, h33, h00]
      rw [ew]
      exact fin
  · rw [free_eq hT1] at hroom
    simp (disch := omega) only [forall_eq, true_and, and_true, and_self, not_true_eq_false, not_false_eq_true, false_imp_iff, true_imp_iff, imp_self, implies_true, ne_eq, reduceIte, cl, cl0, cl1, cl2, vpn, vp0, le8, le16, le40, le640, le1400, le6400, lt8, lt16, le15, le2, nI_leI, nI_ltI, nI_eq, nI_1, nI_add, n_le0, n_lt0, n_0le, n_eq0, n_eq1, n_eq2, n_m1, n_m1r, Nat.reduceEqDiff, Nat.reduceAdd, Int32.add_zero, nI_pred, div16, mul15, mul40, mul16, mul640, mulr16, xu_s, xu_c, xu_k, xu_cc, rows_xu, xf_s, xf_c, rows_xf, xul_c, rows_xul, xul_L, lgc]
    refine start τ1 (-1) (fun d hd' => C4 d (by omega) (by omega) (by omega)) (fun τ hE hc h0 h30 hPM => ?_)
    refine room τ _ hE hPM (fun x => absurd x hroom) (fun _ => ?_)
    simp (disch := omega) only [forall_eq, true_and, and_true, and_self, not_true_eq_false, not_false_eq_true, false_imp_iff, true_imp_iff, imp_self, implies_true, ne_eq, reduceIte, cl, cl0, cl1, cl2, vpn, vp0, le8, le16, le40, le640, le1400, le6400, lt8, lt16, le15, le2, nI_leI, nI_ltI, nI_eq, nI_1, nI_add, n_le0, n_lt0, n_0le, n_eq0, n_eq1, n_eq2, n_m1, n_m1r, Nat.reduceEqDiff, Nat.reduceAdd, Int32.add_zero, nI_pred, div16, mul15, mul40, mul16, mul640, mulr16, xu_s, xu_c, xu_k, xu_cc, rows_xu, xf_s, xf_c, rows_xf, xul_c, rows_xul, xul_L, lgc]
    exact mkQ_i h0 h30 (RE_CF_Inv hI1 hE hc)
