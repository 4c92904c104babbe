def lfG (t L : Nat) (x4 x1 x2 : Int32) (v : Int32) (σF : xS) : Prop := vp_in 0 1 ∧ vp_in (x4 + 1) L ∧ vp_in (x4 + 2) L ∧ p_Mod_lift x1 x2 (xul σF 30 (0 : Int32).toNatClampNeg v.toInt64) (mkQ (Inv (t + 1)))
theorem clF_23 {σ ρ : xS} (hT : TR σ ρ) {r : Nat} (hr : r < rN ρ) : σ 23 r = nI (clF ρ r) ∧ clF ρ r ≤ 16 := by
  obtain ⟨a1, a2, a3, a4, a5, a6, a7, a8, a9, aA⟩ := TR_at hT hr
  unfold clF
  rw [aA]
  by_cases x : mm ρ r = 0
  · rw [if_pos x, if_pos x]; exact ⟨rfl, Nat.le_refl _⟩
  · rw [if_neg x, if_neg x]; exact ⟨rfl, a5⟩
theorem free_eq {σ ρ : xS} (hT : TR σ ρ) : cnt (fun p => σ 20 p = -1) 40 = cnt (fun p => ρ 50 p = 0) 40 := cnt_iff (fun p hp => (TR_free hT hp).1.symm)
theorem PC_Inv {t : Nat} {σ τ : xS} {st : (Nat → Nat) × Nat} (hI : Inv2 t σ σ) (hC : PC σ τ (oP σ) st) (c6 : st.2 ≤ 640) (hB : ∀ k, k < st.2 → oB σ (st.1 k)) (hp : ∀ o, oB σ o → oP σ o < 640) : Inv2 t τ σ := by
  have hs := PC_scr hC c6 hB hp
  obtain ⟨_, _, _, C4⟩ := hC
  have er : rowsF τ = rowsF σ := by
    funext q k
    unfold rowsF
    by_cases x : q < 8
    · rw [if_pos x, if_pos x, C4 (32 + q) (by omega) (by omega) (by omega)]
    · rw [if_neg x, if_neg x]
  have e := fun d (x : d ≠ 3 ∧ d ≠ 12 ∧ d ≠ 13) => C4 d x.1 x.2.1 x.2.2
  unfold Inv2 at hI ⊢
  rw [er, e 20 (by decide), e 28 (by decide), e 29 (by decide), e 17 (by decide), e 18 (by decide), e 7 (by decide), e 22 (by decide), e 23 (by decide), e 8 (by decide), e 24 (by decide), e 9 (by decide), e 25 (by decide), e 2 (by decide), e 0 (by decide)]
  exact ⟨hI.1, hI.2.1, hI.2.2.1, hI.2.2.2.1, hI.2.2.2.2.1, hI.2.2.2.2.2.1, hI.2.2.2.2.2.2.1, hs⟩
theorem PM_RE {σ τ0 τ : xS} {st : (Nat → Nat) × Nat} (hE : RE σ τ0) (h : PM τ0 τ st) : RE σ τ ∧ CF τ0 τ := by
  obtain ⟨_, _, _, p4, p5⟩ := h
  refine ⟨⟨fun d h1 h2 h3 => ?_, fun k h1 h2 => ?_⟩, ⟨fun d hd => p4 d (by omega) (by omega) (by omega), p5 0 (by decide)⟩⟩
  · rw [p4 d (by omega) (by omega) (by omega)]; exact hE.1 d h1 h2 h3
  · rw [p5 k (by omega)]; exact hE.2 k h1 h2
theorem k_9 (xs : Nat → Int32) (L : Nat) (x4 : Int32) (t : Nat) (σ : xS) (ht : t < 512) (hI : Inv t σ) (hL : lawOk L x4) : o_9 xs L x4 σ (Inv (t + 1)) := by
  have hI' := Inv_nop t σ ht hI
  have hI2 : Inv2 (t + 1) σ σ := Inv2_s.mpr hI'
  have hG := Inv2_Gd (by omega) hI2
  obtain ⟨⟨h1, h2, h3, h4, h5, h6, h7, h8, h9⟩, c1, c2, c3, c4, c5, c6, c7⟩ := id hI'
  obtain ⟨R, hR, hR8⟩ : ∃ r, σ 31 13 = nI r ∧ r ≤ 8 := ⟨_, h6.1, h6.2.1⟩
  have hR7 : σ 7 4 = nI R := by rw [c3.1, hR]
  have eR : rN σ = R := by unfold rN; rw [hR, cl (by omega)]
  unfold o_9 p_Law_lift
  generalize xs (x4 + 1).toNatClampNeg = x1
  generalize xs (x4 + 2).toNatClampNeg = x2
  obtain ⟨l1, l2, l3, l4, l5⟩ := hL
  refine ⟨l1, l2, ?_⟩
  rcases root_cases x1 with h | ⟨i, hi, rfl⟩
  · have h : badRoot x1 := h
    right; left
    refine ⟨Or.inl ((e_qrN h _ _).mpr rfl), l1, l2, ?_⟩
    unfold p_Mod_lift p_Mod_thrown
    rw [e_isRootN h]
    rcases reg_cases x2 (r := R) (by omega) with h' | ⟨j, hj, rfl⟩
    · rw [e_mrgN h' hR, e_goes1]
      simp (disch := omega) only [forall_eq, true_and, and_true, and_self, not_true_eq_false, not_false_eq_true, false_imp_iff, true_imp_iff, imp_self, implies_true, ne_eq, reduceIte, cl, cl0, cl1, cl2, vpn, vp0, le8, le16, le40, le640, le1400, le6400, lt8, lt16, le15, le2, nI_leI, nI_ltI, nI_eq, nI_1, nI_add, n_le0, n_lt0, n_0le, n_eq0, n_eq1, n_eq2, n_m1, n_m1r, Nat.reduceEqDiff, Nat.reduceAdd, Int32.add_zero, nI_pred, div16, mul15, mul40, mul16, mul640, mulr16, xu_s, xu_c, xu_k, xu_cc, rows_xu, xf_s, xf_c, rows_xf, xul_c, rows_xul, xul_L, lgc, n10]
      exact Inv_thr _ _ _ hI'
    · rw [e_mrg hR8 hj hR, e_goes1]
      simp (disch := omega) only [forall_eq, true_and, and_true, and_self, not_true_eq_false, not_false_eq_true, false_imp_iff, true_imp_iff, imp_self, implies_true, ne_eq, reduceIte, cl, cl0, cl1, cl2, vpn, vp0, le8, le16, le40, le640, le1400, le6400, lt8, lt16, le15, le2, nI_leI, nI_ltI, nI_eq, nI_1, nI_add, n_le0, n_lt0, n_0le, n_eq0, n_eq1, n_eq2, n_m1, n_m1r, Nat.reduceEqDiff, Nat.reduceAdd, Int32.add_zero, nI_pred, div16, mul15, mul40, mul16, mul640, mulr16, xu_s, xu_c, xu_k, xu_cc, rows_xu, xf_s, xf_c, rows_xf, xul_c, rows_xul, xul_L, lgc, n10]
      exact Inv_thr _ _ _ hI'
  rcases reg_cases x2 (r := R) (by omega) with h' | ⟨r, hr, rfl⟩
  · right; right
    refine ⟨Or.inr ((e_cr hi _ _).mpr (Or.inl ((e_qrgN h' hR7 _).mpr rfl))), l1, l2, ?_⟩
    unfold p_Mod_lift p_Mod_thrown
    rw [e_isRoot hi, e_mrgN h' hR, e_goes2]
    simp (disch := omega) only [forall_eq, true_and, and_true, and_self, not_true_eq_false, not_false_eq_true, false_imp_iff, true_imp_iff, imp_self, implies_true, ne_eq, reduceIte, cl, cl0, cl1, cl2, vpn, vp0, le8, le16, le40, le640, le1400, le6400, lt8, lt16, le15, le2, nI_leI, nI_ltI, nI_eq, nI_1, nI_add, n_le0, n_lt0, n_0le, n_eq0, n_eq1, n_eq2, n_m1, n_m1r, Nat.reduceEqDiff, Nat.reduceAdd, Int32.add_zero, nI_pred, div16, mul15, mul40, mul16, mul640, mulr16, xu_s, xu_c, xu_k, xu_cc, rows_xu, xf_s, xf_c, rows_xf, xul_c, rows_xul, xul_L, lgc, n10, n20]
    exact Inv_thr _ _ _ hI'
  left
  unfold p_Rp_lift
  rw [e_cr hi, e_crg hR8 hr hR7]
  show p_Par_find (nI i) (nI r) σ (fun σ3 => p_Par_fitInto (nI r) σ3 (fun r5 σ4 => ((¬ r5 = 0 → p_Par_transfer (nI r) σ4 (fun σ7 => p_Par_amount σ7 (fun r9 σ8 => p_Par_amount (xu σ8 0 4 ((σ7 0 4) + r9)) (fun r11 σ10 => lfG t L x4 (nI i) (nI r) r11 σ10)))) ∧ (r5 = 0 → lfG t L x4 (nI i) (nI r) (-1) σ4))))
  have hr8 : r < 8 := by omega
  have hrN : r < rN σ := by omega
  obtain ⟨sG, sC, s6, _, _⟩ := stP_G (r := r) (j := i) (by omega) hI2 hi
  obtain ⟨st, est⟩ : ∃ st, stP σ r i = st := ⟨_, rfl⟩
  have find := lc_find (r := r) (j := i) (by omega) hI2 hr8 hi
  have findM := fun τ0 hE => lm_find (r := r) (j := i) (τ0 := τ0) (by omega) hI2 hE hr8 hi
  rw [est] at sG sC s6
  rw [est] at find
  simp only [est] at findM
  obtain ⟨pt, c⟩ := st
  dsimp only at s6 sC
  have hB : ∀ k, k < c → oB σ (pt k) := fun k hk => (sG.1 k hk).1
  have hd : ∀ i j, i < j → j < c → pt i ≠ pt j := sG.2
  have p6 : ∀ o, oB σ o → oP σ o < 640 := fun o ho => (h1 o ho).2.2.2.2.2.1.2
  have pinj : ∀ o q, oB σ o → oB σ q → oP σ o = oP σ q → o = q := fun o q ho hq e => by
    by_cases x : o = q
    · exact x
    · have := hG.2.2.2.2 o q ho hq x; omega
  have hT : TR σ σ := Inv2_TR hI2
  refine find _ (fun τ1 hPC => ?_)
  obtain ⟨C1, C2, C3, C4⟩ := id hPC
  dsimp only at C1 C2 C3
  have hI1 := PC_Inv hI2 hPC s6 hB p6
  have hT1 : TR τ1 σ := Inv2_TR hI1
  obtain ⟨f23, f16⟩ := clF_23 hT1 hrN
  have start : ∀ (σF : xS) (v : Int32), (∀ d, (d = 30 ∨ d = 31 ∨ 40 ≤ d) → σF d = σ d) → (∀ τ, RE σ τ → (∀ d, (d < 30 ∨ (32 ≤ d ∧ d < 40)) → τ d = σF d) → τ 31 0 = 0 → xL (τ 30) 0 = v.toInt64 → PM τ τ (pt, c) → p_Mod_haveRoom (nI r) τ (fun r10 σ9 => ((¬ r10 = 0 → (∃ n, p_Mod_lift_L36 (mkQ (Inv (t + 1))) n (nI r) 0 σ9)) ∧ (r10 = 0 → mkQ (Inv (t + 1)) (-1) σ9)))) → lfG t L x4 (nI i) (nI r) v σF := fun σF v hF hgo => by
    refine ⟨(vp0 (by decide) (by decide)).mpr trivial, l1, l2, ?_⟩
    unfold p_Mod_lift
    rw [e_isRoot hi, e_mrg hR8 hr (by simp (disch := omega) only [forall_eq, true_and, and_true, and_self, not_true_eq_false, not_false_eq_true, false_imp_iff, true_imp_iff, imp_self, implies_true, ne_eq, reduceIte, cl, cl0, cl1, cl2, vpn, vp0, le8, le16, le40, le640, le1400, le6400, lt8, lt16, le15, le2, nI_leI, nI_ltI, nI_eq, nI_1, nI_add, n_le0, n_lt0, n_0le, n_eq0, n_eq1, n_eq2, n_m1, n_m1r, Nat.reduceEqDiff, Nat.reduceAdd, Int32.add_zero, nI_pred, div16, mul15, mul40, mul16, mul640, mulr16, xu_s, xu_c, xu_k, xu_cc, rows_xu, xf_s, xf_c, rows_xf, xul_c, rows_xul, xul_L, lgc]; rw [hF 31 (by omega)]; exact hR), e_goes]
    simp (disch := omega) only [forall_eq, true_and, and_true, and_self, not_true_eq_false, not_false_eq_true, false_imp_iff, true_imp_iff, imp_self, implies_true, ne_eq, reduceIte, cl, cl0, cl1, cl2, vpn, vp0, le8, le16, le40, le640, le1400, le6400, lt8, lt16, le15, le2, nI_leI, nI_ltI, nI_eq, nI_1, nI_add, n_le0, n_lt0, n_0le, n_eq0, n_eq1, n_eq2, n_m1, n_m1r, Nat.reduceEqDiff, Nat.reduceAdd, Int32.add_zero, nI_pred, div16, mul15, mul40, mul16, mul640, mulr16, xu_s, xu_c, xu_k, xu_cc, rows_xu, xf_s, xf_c, rows_xf, xul_c, rows_xul, xul_L, lgc, n10]
    have hE : RE σ (xu (xul σF 30 0 v.toInt64) 31 0 0) := ⟨fun d h1 h2 h3 => by simp (disch := omega) only [forall_eq, true_and, and_true, and_self, not_true_eq_false, not_false_eq_true, false_imp_iff, true_imp_iff, imp_self, implies_true, ne_eq, reduceIte, cl, cl0, cl1, cl2, vpn, vp0, le8, le16, le40, le640, le1400, le6400, lt8, lt16, le15, le2, nI_leI, nI_ltI, nI_eq, nI_1, nI_add, n_le0, n_lt0, n_0le, n_eq0, n_eq1, n_eq2, n_m1, n_m1r, Nat.reduceEqDiff, Nat.reduceAdd, Int32.add_zero, nI_pred, div16, mul15, mul40, mul16, mul640, mulr16, xu_s, xu_c, xu_k, xu_cc, rows_xu, xf_s, xf_c, rows_xf, xul_c, rows_xul, xul_L, lgc]; exact hF d (by omega), fun x h1 h2 => by simp (disch := omega) only [forall_eq, true_and, and_true, and_self, not_true_eq_false, not_false_eq_true, false_imp_iff, true_imp_iff, imp_self, implies_true, ne_eq, reduceIte, cl, cl0, cl1, cl2, vpn, vp0, le8, le16, le40, le640, le1400, le6400, lt8, lt16, le15, le2, nI_leI, nI_ltI, nI_eq, nI_1, nI_add, n_le0, n_lt0, n_0le, n_eq0, n_eq1, n_eq2, n_m1, n_m1r, Nat.reduceEqDiff, Nat.reduceAdd, Int32.add_zero, nI_pred, div16, mul15, mul40, mul16, mul640, mulr16, xu_s, xu_c, xu_k, xu_cc, rows_xu, xf_s, xf_c, rows_xf, xul_c, rows_xul, xul_L, lgc]; rw [hF 31 (by omega)]⟩
    refine findM _ hE _ (fun τ hPM => ?_)
    obtain ⟨E2, F2⟩ := PM_RE hE hPM
    refine hgo τ E2 (fun d hd => ?_) ?_ ?_ ?_
    · rw [F2.1 d (by omega)]; simp (disch := omega) only [forall_eq, true_and, and_true, and_self, not_true_eq_false, not_false_eq_true, false_imp_iff, true_imp_iff, imp_self, implies_true, ne_eq, reduceIte, cl, cl0, cl1, cl2, vpn, vp0, le8, le16, le40, le640, le1400, le6400, lt8, lt16, le15, le2, nI_leI, nI_ltI, nI_eq, nI_1, nI_add, n_le0, n_lt0, n_0le, n_eq0, n_eq1, n_eq2, n_m1, n_m1r, Nat.reduceEqDiff, Nat.reduceAdd, Int32.add_zero, nI_pred, div16, mul15, mul40, mul16, mul640, mulr16, xu_s, xu_c, xu_k, xu_cc, rows_xu, xf_s, xf_c, rows_xf, xul_c, rows_xul, xul_L, lgc]
    · rw [F2.2]; simp (disch := omega) only [forall_eq, true_and, and_true, and_self, not_true_eq_false, not_false_eq_true, false_imp_iff, true_imp_iff, imp_self, implies_true, ne_eq, reduceIte, cl, cl0, cl1, cl2, vpn, vp0, le8, le16, le40, le640, le1400, le6400, lt8, lt16, le15, le2, nI_leI, nI_ltI, nI_eq, nI_1, nI_add, n_le0, n_lt0, n_0le, n_eq0, n_eq1, n_eq2, n_m1, n_m1r, Nat.reduceEqDiff, Nat.reduceAdd, Int32.add_zero, nI_pred, div16, mul15, mul40, mul16, mul640, mulr16, xu_s, xu_c, xu_k, xu_cc, rows_xu, xf_s, xf_c, rows_xf, xul_c, rows_xul, xul_L, lgc]
    · rw [F2.1 30 (by omega)]; simp (disch := omega) only [forall_eq, true_and, and_true, and_self, not_true_eq_false, not_false_eq_true, false_imp_iff, true_imp_iff, imp_self, implies_true, ne_eq, reduceIte, cl, cl0, cl1, cl2, vpn, vp0, le8, le16, le40, le640, le1400, le6400, lt8, lt16, le15, le2, nI_leI, nI_ltI, nI_eq, nI_1, nI_add, n_le0, n_lt0, n_0le, n_eq0, n_eq1, n_eq2, n_m1, n_m1r, Nat.reduceEqDiff, Nat.reduceAdd, Int32.add_zero, nI_pred, div16, mul15, mul40, mul16, mul640, mulr16, xu_s, xu_c, xu_k, xu_cc, rows_xu, xf_s, xf_c, rows_xf, xul_c, rows_xul, xul_L, lgc]
    · obtain ⟨q1, q2, q3, q4, q5⟩ := hPM
      exact ⟨q1, q2, q3, fun _ _ _ _ => rfl, fun _ _ => rfl⟩
  have room : ∀ (τ : xS) (Q : Int32 → xS → Prop), RE σ τ → PM τ τ (pt, c) → ((fmK (clF σ r) (fun k => oM σ (pt k) + 1) c).2 ≤ cnt (fun p => σ 50 p = 0) 40 → Q 1 τ) → (¬ (fmK (clF σ r) (fun k => oM σ (pt k) + 1) c).2 ≤ cnt (fun p => σ 50 p = 0) 40 → Q 0 τ) → p_Mod_haveRoom (nI r) τ Q := fun τ Q hE hPM hy hn => by
    obtain ⟨a1, a2, a3, a4, a5, a6, _⟩ := TR_at hT hrN
    have e50 := hE.1 50 (by decide) (by decide) (by decide)
    refine e_roomM (mr := mm σ r) (fr := tf σ r) (c := c) (o := pt) (m := fun k => oM σ (pt k)) hr8 (by rw [hE.1 51 (by decide) (by decide) (by decide)]; exact a3) a2 (by rw [hE.1 53 (by decide) (by decide) (by decide)]; exact a4) a5 hPM.1 s6 (fun k hk => ⟨hPM.2.1 k hk, (hB k hk).1, by rw [hE.1 42 (by decide) (by decide) (by decide)]; exact (hG.1 _ (hB k hk)).1.2.2.1, (hG.1 _ (hB k hk)).1.2.2.2.1⟩) Q (fun x => hy ?_) (fun x => hn ?_)
    · rw [e50] at x; exact x
    · rw [e50] at x; exact x
  have e29 : τ1 29 = σ 29 := C4 29 (by decide) (by decide) (by decide)
  have m15 : ∀ k, k < c → τ1 29 (oP σ (pt k)) &&& 15 = nI (oM σ (pt k)) := fun k hk => by
    rw [e29]
    have := (c1.1 _ (hB k hk)).2
    have e : σ 29 (oP σ (pt k)) = oH σ (pt k) := this
    rw [e]; exact (hG.1 _ (hB k hk)).2.2.2.2.1
  refine e_fitC (f0 := clF σ r) (c := c) (p := fun k => oP σ (pt k)) (m := fun k => oM σ (pt k)) hr8 f23 f16 C1 s6 (fun k hk => ⟨C2 k hk, p6 _ (hB k hk), m15 k hk, (hG.1 _ (hB k hk)).1.2.2.2.1⟩) _ (fun hroom => ?_) (fun hroom => ?_)
  · rw [free_eq hT1] at hroom
    simp (disch := omega) only [forall_eq, true_and, and_true, and_self, not_true_eq_false, not_false_eq_true, false_imp_iff, true_imp_iff, imp_self, implies_true, ne_eq, reduceIte, cl, cl0, cl1, cl2, vpn, vp0, le8, le16, le40, le640, le1400, le6400, lt8, lt16, le15, le2, nI_leI, nI_ltI, nI_eq, nI_1, nI_add, n_le0, n_lt0, n_0le, n_eq0, n_eq1, n_eq2, n_m1, n_m1r, Nat.reduceEqDiff, Nat.reduceAdd, Int32.add_zero, nI_pred, div16, mul15, mul40, mul16, mul640, mulr16, xu_s, xu_c, xu_k, xu_cc, rows_xu, xf_s, xf_c, rows_xf, xul_c, rows_xul, xul_L, lgc, n10]
    obtain ⟨σs, ρs, qs, e1, e2, hC, _⟩ := Ch_ex (sz := fun k => oM σ (pt k) + 1) hT1 hrN c (fun k hk => ⟨by omega, by have := (hG.1 _ (hB k hk)).1.2.2.2.1; omega⟩) hroom
    have e20 : τ1 20 = σ 20 := C4 20 (by decide) (by decide) (by decide)
    obtain ⟨hLF, hTs, it1, it2⟩ := LF_of (by omega) hI2 hrN hT1 e20 e1 e2 hC hB hd
    unfold p_Par_transfer
    refine e_placeAll (p := fun k => oP σ (pt k)) (m := fun k => oM σ (pt k)) hT1 hrN e1 e2 hC C1 s6 (fun k hk => ⟨C2 k hk, p6 _ (hB k hk), m15 k hk, (hG.1 _ (hB k hk)).1.2.2.2.1⟩) (fun a b hab hb e => hd a b hab hb (pinj _ _ (hB a (by omega)) (hB b hb) e)) _ (fun τ2 g2 hnp => ?_)
    have hfr : ∀ k, k ≤ c → ∀ d, d ≠ 20 → d ≠ 22 → d ≠ 23 → ¬ (32 ≤ d ∧ d < 40) → σs k d = τ1 d := by
      intro k
      induction k with
      | zero => intro _ d _ _ _ _; rw [e1]
      | succ k ih => intro hk d h1 h2 h3 h4; rw [(Tk_fr (hC k (by omega)) hr8).1 d h1 h2 h3 h4]; exact ih (by omega) d h1 h2 h3 h4
    have g1 : ∀ d, d ≠ 10 ∧ d ≠ 20 ∧ d ≠ 22 ∧ d ≠ 23 ∧ ¬ (32 ≤ d ∧ d < 40) → τ2 d = τ1 d := fun d x => by rw [g2 d x.1]; exact hfr c (Nat.le_refl _) d x.2.1 x.2.2.1 x.2.2.2.1 x.2.2.2.2
    have g0 : ∀ d, d ≠ 10 ∧ d ≠ 20 ∧ d ≠ 22 ∧ d ≠ 23 ∧ ¬ (32 ≤ d ∧ d < 40) ∧ d ≠ 3 ∧ d ≠ 12 ∧ d ≠ 13 → τ2 d = σ d := fun d x => by rw [g1 d ⟨x.1, x.2.1, x.2.2.1, x.2.2.2.1, x.2.2.2.2.1⟩]; exact C4 d x.2.2.2.2.2.1 x.2.2.2.2.2.2.1 x.2.2.2.2.2.2.2
    have hnp' : ∀ u, oB σ u → τ2 10 (oP σ u) = nI (lfP pt qs (oP σ) c u) := fun u hu => np_of hnp hB hd pinj p6 hu
    refine e_carryAll (c := c) hLF (fun o ho => ⟨(hG.1 o ho).2.2.1.2, (hG.1 o ho).1.2.2.2.1, (hG.1 o ho).2.2.2.2.1⟩) (by rw [g1 3 (by decide)]; exact C1) s6 (fun k hk => by rw [g1 12 (by decide)]; exact C2 k hk) (fun k hk => by rw [hnp' _ (hB k hk), lfP_y c hd hk]) (fs := oS σ) (fc := oC σ) (hd := oH σ) (by rw [g0 28 (by decide), g0 29 (by decide)]; exact c1) _ (fun s s' hH => ?_)
    obtain ⟨q1, q2, q3⟩ := hp2_e τ2 s s'
    have live : ∀ o i, oB σ o → i < oM σ o → oS σ o i = 2 → oB σ (oV σ o i) ∧ oC σ o i = nI (oP σ (oV σ o i)) := fun o i ho hi e2 => by
      obtain ⟨b1, b2, b3⟩ := (hG.2.1 o i ho hi).2 e2
      refine ⟨b2, ?_⟩
      have e' : σ 46 (15 * o + i) = 2 := e2
      show tr (σ 44) (σ 46 (15 * o + i)) (σ 47 (15 * o + i)) = _
      rw [e', tr_2]
      exact (hG.1 _ b2).2.2.1.1
    have hwn : σ 9 1 = nI ((σ 9 1).toNatClampNeg) ∧ (σ 9 1).toNatClampNeg ≤ 640 := ⟨c5.1, c5.2.1⟩
    refine e_followAll (n := oN σ) (wn := (σ 9 1).toNatClampNeg) (fun k hk e => ?_) (fun k hk e => ?_) ?_ hG.2.2.2.1.2.1 (fun k hk => ?_) ?_ hwn.2 (fun k hk => ?_) _ ?_
    · rw [q3 17 (by decide) (by decide), g0 17 (by decide), (c2 k hk).1] at e
      obtain ⟨a, b⟩ := hG.2.2.1 k hk e
      refine ⟨_, p6 _ b, ?_⟩
      rw [q3 18 (by decide) (by decide), g0 18 (by decide), (c2 k hk).2, e, tr_2]
      exact (hG.1 _ b).2.2.1.1
    · rw [q1] at e
      obtain ⟨o, x, o1, o2, o3, o4, o5⟩ := HeapR_2 hH hk e
      obtain ⟨a, b⟩ := live o x o1 o2 o4
      exact ⟨_, p6 _ a, by rw [q2, o5]; exact b⟩
    · rw [q3 8 (by decide) (by decide), g0 8 (by decide), c4.1]; exact hG.2.2.2.1.1
    · have b := (hG.2.2.2.1.2.2 k hk).2
      refine ⟨_, p6 _ b, ?_⟩
      rw [q3 24 (by decide) (by decide), g0 24 (by decide), c4.2 k hk]
      exact (hG.1 _ b).2.2.1.1
    · rw [q3 9 (by decide) (by decide), g0 9 (by decide)]; exact hwn.1
    · obtain ⟨w1, w2, w, w3, w4, w5⟩ := c5
      obtain ⟨b, _, y3⟩ := w3 k hk
      refine ⟨_, p6 _ b, ?_⟩
      rw [q3 25 (by decide) (by decide), g0 25 (by decide), y3]
      exact (hG.1 _ b).2.2.1.1
    rw [q1, q2, q3 17 (by decide) (by decide), q3 18 (by decide) (by decide), q3 24 (by decide) (by decide), q3 25 (by decide) (by decide), q3 10 (by decide) (by decide), g0 17 (by decide), g0 18 (by decide), g0 24 (by decide), g0 25 (by decide)]
    unfold p_Par_amount
    have h33 : hp2 τ2 s s' 3 3 = nI c := by rw [q3 3 (by decide) (by decide), g1 3 (by decide)]; exact C1
    have h04 : hp2 τ2 s s' 0 = σ 0 := by rw [q3 0 (by decide) (by decide), g0 0 (by decide)]
    obtain ⟨τ3, e3⟩ : ∃ τ3, hp2 τ2 s s' = τ3 := ⟨_, rfl⟩
    rw [e3] at h33 h04 q1 q3 ⊢
    simp (disch := omega) only [forall_eq, true_and, and_true, and_self, not_true_eq_false, not_false_eq_true, false_imp_iff, true_imp_iff, imp_self, implies_true, ne_eq, reduceIte, cl, cl0, cl1, cl2, vpn, vp0, le8, le16, le40, le640, le1400, le6400, lt8, lt16, le15, le2, nI_leI, nI_ltI, nI_eq, nI_1, nI_add, n_le0, n_lt0, n_0le, n_eq0, n_eq1, n_eq2, n_m1, n_m1r, Nat.reduceEqDiff, Nat.reduceAdd, Int32.add_zero, nI_pred, div16, mul15, mul40, mul16, mul640, mulr16, xu_s, xu_c, xu_k, xu_cc, rows_xu, xf_s, xf_c, rows_xf, xul_c, rows_xul, xul_L, lgc, h33, h04]
    refine start _ _ (fun d hd' => ?_) (fun τ hE hc h0 h30 hPM => ?_)
    · simp (disch := omega) only [forall_eq, true_and, and_true, and_self, not_true_eq_false, not_false_eq_true, false_imp_iff, true_imp_iff, imp_self, implies_true, ne_eq, reduceIte, cl, cl0, cl1, cl2, vpn, vp0, le8, le16, le40, le640, le1400, le6400, lt8, lt16, le15, le2, nI_leI, nI_ltI, nI_eq, nI_1, nI_add, n_le0, n_lt0, n_0le, n_eq0, n_eq1, n_eq2, n_m1, n_m1r, Nat.reduceEqDiff, Nat.reduceAdd, Int32.add_zero, nI_pred, div16, mul15, mul40, mul16, mul640, mulr16, xu_s, xu_c, xu_k, xu_cc, rows_xu, xf_s, xf_c, rows_xf, xul_c, rows_xul, xul_L, lgc]
      rw [q3 d (by omega) (by omega)]; exact g0 d (by omega)
    refine room τ _ hE hPM (fun _ => ?_) (fun x => absurd hroom x)
    simp (disch := omega) only [forall_eq, true_and, and_true, and_self, not_true_eq_false, not_false_eq_true, false_imp_iff, true_imp_iff, imp_self, implies_true, ne_eq, reduceIte, cl, cl0, cl1, cl2, vpn, vp0, le8, le16, le40, le640, le1400, le6400, lt8, lt16, le15, le2, nI_leI, nI_ltI, nI_eq, nI_1, nI_add, n_le0, n_lt0, n_0le, n_eq0, n_eq1, n_eq2, n_m1, n_m1r, Nat.reduceEqDiff, Nat.reduceAdd, Int32.add_zero, nI_pred, div16, mul15, mul40, mul16, mul640, mulr16, xu_s, xu_c, xu_k, xu_cc, rows_xu, xf_s, xf_c, rows_xf, xul_c, rows_xul, xul_L, lgc, n10]
    obtain ⟨a, b⟩ := id hE
    have k2 : ∀ k, k ≤ c → TR (σs k) (ρs k) ∧ r < rN (ρs k) := fun k hk => ⟨(hTs k hk).1, by rw [(hTs k hk).2]; exact hrN⟩
    have r31 : ∀ k, k ≤ c → ρs k 31 = σ 31 := by
      intro k
      induction k with
      | zero => intro _; rw [e2]
      | succ k ih => intro hk; rw [(Tk_fr (hC k (by omega)) hr8).2 31 (by decide) (by decide) (by decide) (by decide)]; exact ih (by omega)
    refine e_liftM (B := oB σ) (pl := oP σ) (mn := oM σ) (pt := pt) (qs := qs) (g := oG σ) hr8 hLF (fun o ho => ⟨ho.1, by rw [a 42 (by decide) (by decide) (by decide)]; exact (hG.1 o ho).1.2.2.1, (hG.1 o ho).1.2.2.2.1, p6 o ho⟩) hC k2 hPM.1 s6 hPM.2.1 ⟨fun o ho => ?_, fun p hp => ?_, fun o ho => ?_, fun o ho => ?_, ?_, fun _ _ _ _ _ _ _ _ => rfl⟩ _ (fun τ7 hLM => ?_)
    · rw [a 44 (by decide) (by decide) (by decide)]; exact (hG.1 o ho).2.2.1.1
    · rw [a 49 (by decide) (by decide) (by decide)]; exact h2 p hp
    · rw [a 49 (by decide) (by decide) (by decide)]; exact (h1 o ho).2.2.2.2.2.2.2
    · rw [a 43 (by decide) (by decide) (by decide)]; exact (hG.1 o ho).2.1.1
    · rw [e2]; exact R4_of hE
    obtain ⟨M1, M2, M3, M4, M5, M6⟩ := hLM
    have m6 : ∀ d, d ≠ 43 ∧ d ≠ 44 ∧ d ≠ 49 ∧ d ≠ 50 ∧ d ≠ 51 ∧ d ≠ 52 ∧ d ≠ 53 → τ7 d = τ d := fun d x => M6 d x.1 x.2.1 x.2.2.1 x.2.2.2.1 x.2.2.2.2.1 x.2.2.2.2.2.1 x.2.2.2.2.2.2
    refine mkQ_i ?_ ?_ ?_
    · simp (disch := omega) only [forall_eq, true_and, and_true, and_self, not_true_eq_false, not_false_eq_true, false_imp_iff, true_imp_iff, imp_self, implies_true, ne_eq, reduceIte, cl, cl0, cl1, cl2, vpn, vp0, le8, le16, le40, le640, le1400, le6400, lt8, lt16, le15, le2, nI_leI, nI_ltI, nI_eq, nI_1, nI_add, n_le0, n_lt0, n_0le, n_eq0, n_eq1, n_eq2, n_m1, n_m1r, Nat.reduceEqDiff, Nat.reduceAdd, Int32.add_zero, nI_pred, div16, mul15, mul40, mul16, mul640, mulr16, xu_s, xu_c, xu_k, xu_cc, rows_xu, xf_s, xf_c, rows_xf, xul_c, rows_xul, xul_L, lgc]; rw [m6 31 (by decide)]; exact h0
    · simp (disch := omega) only [forall_eq, true_and, and_true, and_self, not_true_eq_false, not_false_eq_true, false_imp_iff, true_imp_iff, imp_self, implies_true, ne_eq, reduceIte, cl, cl0, cl1, cl2, vpn, vp0, le8, le16, le40, le640, le1400, le6400, lt8, lt16, le15, le2, nI_leI, nI_ltI, nI_eq, nI_1, nI_add, n_le0, n_lt0, n_0le, n_eq0, n_eq1, n_eq2, n_m1, n_m1r, Nat.reduceEqDiff, Nat.reduceAdd, Int32.add_zero, nI_pred, div16, mul15, mul40, mul16, mul640, mulr16, xu_s, xu_c, xu_k, xu_cc, rows_xu, xf_s, xf_c, rows_xf, xul_c, rows_xul, xul_L, lgc]; rw [m6 30 (by decide)]; exact h30
    have cT : ∀ d, (d < 30 ∨ (32 ≤ d ∧ d < 40)) → τ7 d = τ d := fun d hd' => m6 d (by omega)
    refine lift_end (σc := σs c) (ρc := ρs c) (s := s) (s' := s') (np := τ2 10) (pt := pt) (qs := qs) (r := r) (c := c) (by omega) hI2 hrN hLF (hTs c (Nat.le_refl _)).1 (fun k hk => (sG.1 k hk).2) sC it1 it2 hH hnp' ?_ ?_ ?_ ?_ ?_ ?_ ?_ ?_ (fun d hd' => ?_) ?_ ?_ ?_ ?_ (fun d hd' => ?_) (fun o ho => ?_) (fun p hp => ?_) (fun o ho => ?_) (fun o ho => ?_) ⟨?_, ?_, ?_, ?_⟩ (r31 c (Nat.le_refl _)) (fun k k1 k2 k3 => ?_) ?_
    · simp (disch := omega) only [forall_eq, true_and, and_true, and_self, not_true_eq_false, not_false_eq_true, false_imp_iff, true_imp_iff, imp_self, implies_true, ne_eq, reduceIte, cl, cl0, cl1, cl2, vpn, vp0, le8, le16, le40, le640, le1400, le6400, lt8, lt16, le15, le2, nI_leI, nI_ltI, nI_eq, nI_1, nI_add, n_le0, n_lt0, n_0le, n_eq0, n_eq1, n_eq2, n_m1, n_m1r, Nat.reduceEqDiff, Nat.reduceAdd, Int32.add_zero, nI_pred, div16, mul15, mul40, mul16, mul640, mulr16, xu_s, xu_c, xu_k, xu_cc, rows_xu, xf_s, xf_c, rows_xf, xul_c, rows_xul, xul_L, lgc]; rw [cT 28 (by omega), hc 28 (by omega)]; simp (disch := omega) only [forall_eq, true_and, and_true, and_self, not_true_eq_false, not_false_eq_true, false_imp_iff, true_imp_iff, imp_self, implies_true, ne_eq, reduceIte, cl, cl0, cl1, cl2, vpn, vp0, le8, le16, le40, le640, le1400, le6400, lt8, lt16, le15, le2, nI_leI, nI_ltI, nI_eq, nI_1, nI_add, n_le0, n_lt0, n_0le, n_eq0, n_eq1, n_eq2, n_m1, n_m1r, Nat.reduceEqDiff, Nat.reduceAdd, Int32.add_zero, nI_pred, div16, mul15, mul40, mul16, mul640, mulr16, xu_s, xu_c, xu_k, xu_cc, rows_xu, xf_s, xf_c, rows_xf, xul_c, rows_xul, xul_L, lgc]; exact q1
    · simp (disch := omega) only [forall_eq, true_and, and_true, and_self, not_true_eq_false, not_false_eq_true, false_imp_iff, true_imp_iff, imp_self, implies_true, ne_eq, reduceIte, cl, cl0, cl1, cl2, vpn, vp0, le8, le16, le40, le640, le1400, le6400, lt8, lt16, le15, le2, nI_leI, nI_ltI, nI_eq, nI_1, nI_add, n_le0, n_lt0, n_0le, n_eq0, n_eq1, n_eq2, n_m1, n_m1r, Nat.reduceEqDiff, Nat.reduceAdd, Int32.add_zero, nI_pred, div16, mul15, mul40, mul16, mul640, mulr16, xu_s, xu_c, xu_k, xu_cc, rows_xu, xf_s, xf_c, rows_xf, xul_c, rows_xul, xul_L, lgc]; rw [cT 29 (by omega), hc 29 (by omega)]; simp (disch := omega) only [forall_eq, true_and, and_true, and_self, not_true_eq_false, not_false_eq_true, false_imp_iff, true_imp_iff, imp_self, implies_true, ne_eq, reduceIte, cl, cl0, cl1, cl2, vpn, vp0, le8, le16, le40, le640, le1400, le6400, lt8, lt16, le15, le2, nI_leI, nI_ltI, nI_eq, nI_1, nI_add, n_le0, n_lt0, n_0le, n_eq0, n_eq1, n_eq2, n_m1, n_m1r, Nat.reduceEqDiff, Nat.reduceAdd, Int32.add_zero, nI_pred, div16, mul15, mul40, mul16, mul640, mulr16, xu_s, xu_c, xu_k, xu_cc, rows_xu, xf_s, xf_c, rows_xf, xul_c, rows_xul, xul_L, lgc]
    · simp (disch := omega) only [forall_eq, true_and, and_true, and_self, not_true_eq_false, not_false_eq_true, false_imp_iff, true_imp_iff, imp_self, implies_true, ne_eq, reduceIte, cl, cl0, cl1, cl2, vpn, vp0, le8, le16, le40, le640, le1400, le6400, lt8, lt16, le15, le2, nI_leI, nI_ltI, nI_eq, nI_1, nI_add, n_le0, n_lt0, n_0le, n_eq0, n_eq1, n_eq2, n_m1, n_m1r, Nat.reduceEqDiff, Nat.reduceAdd, Int32.add_zero, nI_pred, div16, mul15, mul40, mul16, mul640, mulr16, xu_s, xu_c, xu_k, xu_cc, rows_xu, xf_s, xf_c, rows_xf, xul_c, rows_xul, xul_L, lgc]; rw [cT 17 (by omega), hc 17 (by omega)]; simp (disch := omega) only [forall_eq, true_and, and_true, and_self, not_true_eq_false, not_false_eq_true, false_imp_iff, true_imp_iff, imp_self, implies_true, ne_eq, reduceIte, cl, cl0, cl1, cl2, vpn, vp0, le8, le16, le40, le640, le1400, le6400, lt8, lt16, le15, le2, nI_leI, nI_ltI, nI_eq, nI_1, nI_add, n_le0, n_lt0, n_0le, n_eq0, n_eq1, n_eq2, n_m1, n_m1r, Nat.reduceEqDiff, Nat.reduceAdd, Int32.add_zero, nI_pred, div16, mul15, mul40, mul16, mul640, mulr16, xu_s, xu_c, xu_k, xu_cc, rows_xu, xf_s, xf_c, rows_xf, xul_c, rows_xul, xul_L, lgc]; rw [q3 17 (by decide) (by decide)]; exact g0 17 (by decide)
    · simp (disch := omega) only [forall_eq, true_and, and_true, and_self, not_true_eq_false, not_false_eq_true, false_imp_iff, true_imp_iff, imp_self, implies_true, ne_eq, reduceIte, cl, cl0, cl1, cl2, vpn, vp0, le8, le16, le40, le640, le1400, le6400, lt8, lt16, le15, le2, nI_leI, nI_ltI, nI_eq, nI_1, nI_add, n_le0, n_lt0, n_0le, n_eq0, n_eq1, n_eq2, n_m1, n_m1r, Nat.reduceEqDiff, Nat.reduceAdd, Int32.add_zero, nI_pred, div16, mul15, mul40, mul16, mul640, mulr16, xu_s, xu_c, xu_k, xu_cc, rows_xu, xf_s, xf_c, rows_xf, xul_c, rows_xul, xul_L, lgc]; rw [cT 18 (by omega), hc 18 (by omega)]; simp (disch := omega) only [forall_eq, true_and, and_true, and_self, not_true_eq_false, not_false_eq_true, false_imp_iff, true_imp_iff, imp_self, implies_true, ne_eq, reduceIte, cl, cl0, cl1, cl2, vpn, vp0, le8, le16, le40, le640, le1400, le6400, lt8, lt16, le15, le2, nI_leI, nI_ltI, nI_eq, nI_1, nI_add, n_le0, n_lt0, n_0le, n_eq0, n_eq1, n_eq2, n_m1, n_m1r, Nat.reduceEqDiff, Nat.reduceAdd, Int32.add_zero, nI_pred, div16, mul15, mul40, mul16, mul640, mulr16, xu_s, xu_c, xu_k, xu_cc, rows_xu, xf_s, xf_c, rows_xf, xul_c, rows_xul, xul_L, lgc]
    · simp (disch := omega) only [forall_eq, true_and, and_true, and_self, not_true_eq_false, not_false_eq_true, false_imp_iff, true_imp_iff, imp_self, implies_true, ne_eq, reduceIte, cl, cl0, cl1, cl2, vpn, vp0, le8, le16, le40, le640, le1400, le6400, lt8, lt16, le15, le2, nI_leI, nI_ltI, nI_eq, nI_1, nI_add, n_le0, n_lt0, n_0le, n_eq0, n_eq1, n_eq2, n_m1, n_m1r, Nat.reduceEqDiff, Nat.reduceAdd, Int32.add_zero, nI_pred, div16, mul15, mul40, mul16, mul640, mulr16, xu_s, xu_c, xu_k, xu_cc, rows_xu, xf_s, xf_c, rows_xf, xul_c, rows_xul, xul_L, lgc]; rw [cT 24 (by omega), hc 24 (by omega)]; simp (disch := omega) only [forall_eq, true_and, and_true, and_self, not_true_eq_false, not_false_eq_true, false_imp_iff, true_imp_iff, imp_self, implies_true, ne_eq, reduceIte, cl, cl0, cl1, cl2, vpn, vp0, le8, le16, le40, le640, le1400, le6400, lt8, lt16, le15, le2, nI_leI, nI_ltI, nI_eq, nI_1, nI_add, n_le0, n_lt0, n_0le, n_eq0, n_eq1, n_eq2, n_m1, n_m1r, Nat.reduceEqDiff, Nat.reduceAdd, Int32.add_zero, nI_pred, div16, mul15, mul40, mul16, mul640, mulr16, xu_s, xu_c, xu_k, xu_cc, rows_xu, xf_s, xf_c, rows_xf, xul_c, rows_xul, xul_L, lgc]
    · simp (disch := omega) only [forall_eq, true_and, and_true, and_self, not_true_eq_false, not_false_eq_true, false_imp_iff, true_imp_iff, imp_self, implies_true, ne_eq, reduceIte, cl, cl0, cl1, cl2, vpn, vp0, le8, le16, le40, le640, le1400, le6400, lt8, lt16, le15, le2, nI_leI, nI_ltI, nI_eq, nI_1, nI_add, n_le0, n_lt0, n_0le, n_eq0, n_eq1, n_eq2, n_m1, n_m1r, Nat.reduceEqDiff, Nat.reduceAdd, Int32.add_zero, nI_pred, div16, mul15, mul40, mul16, mul640, mulr16, xu_s, xu_c, xu_k, xu_cc, rows_xu, xf_s, xf_c, rows_xf, xul_c, rows_xul, xul_L, lgc]; rw [cT 25 (by omega), hc 25 (by omega)]; simp (disch := omega) only [forall_eq, true_and, and_true, and_self, not_true_eq_false, not_false_eq_true, false_imp_iff, true_imp_iff, imp_self, implies_true, ne_eq, reduceIte, cl, cl0, cl1, cl2, vpn, vp0, le8, le16, le40, le640, le1400, le6400, lt8, lt16, le15, le2, nI_leI, nI_ltI, nI_eq, nI_1, nI_add, n_le0, n_lt0, n_0le, n_eq0, n_eq1, n_eq2, n_m1, n_m1r, Nat.reduceEqDiff, Nat.reduceAdd, Int32.add_zero, nI_pred, div16, mul15, mul40, mul16, mul640, mulr16, xu_s, xu_c, xu_k, xu_cc, rows_xu, xf_s, xf_c, rows_xf, xul_c, rows_xul, xul_L, lgc]
    · simp (disch := omega) only [forall_eq, true_and, and_true, and_self, not_true_eq_false, not_false_eq_true, false_imp_iff, true_imp_iff, imp_self, implies_true, ne_eq, reduceIte, cl, cl0, cl1, cl2, vpn, vp0, le8, le16, le40, le640, le1400, le6400, lt8, lt16, le15, le2, nI_leI, nI_ltI, nI_eq, nI_1, nI_add, n_le0, n_lt0, n_0le, n_eq0, n_eq1, n_eq2, n_m1, n_m1r, Nat.reduceEqDiff, Nat.reduceAdd, Int32.add_zero, nI_pred, div16, mul15, mul40, mul16, mul640, mulr16, xu_s, xu_c, xu_k, xu_cc, rows_xu, xf_s, xf_c, rows_xf, xul_c, rows_xul, xul_L, lgc]; rw [cT 8 (by omega), hc 8 (by omega)]; simp (disch := omega) only [forall_eq, true_and, and_true, and_self, not_true_eq_false, not_false_eq_true, false_imp_iff, true_imp_iff, imp_self, implies_true, ne_eq, reduceIte, cl, cl0, cl1, cl2, vpn, vp0, le8, le16, le40, le640, le1400, le6400, lt8, lt16, le15, le2, nI_leI, nI_ltI, nI_eq, nI_1, nI_add, n_le0, n_lt0, n_0le, n_eq0, n_eq1, n_eq2, n_m1, n_m1r, Nat.reduceEqDiff, Nat.reduceAdd, Int32.add_zero, nI_pred, div16, mul15, mul40, mul16, mul640, mulr16, xu_s, xu_c, xu_k, xu_cc, rows_xu, xf_s, xf_c, rows_xf, xul_c, rows_xul, xul_L, lgc]; rw [q3 8 (by decide) (by decide)]; exact g0 8 (by decide)
    · simp (disch := omega) only [forall_eq, true_and, and_true, and_self, not_true_eq_false, not_false_eq_true, false_imp_iff, true_imp_iff, imp_self, implies_true, ne_eq, reduceIte, cl, cl0, cl1, cl2, vpn, vp0, le8, le16, le40, le640, le1400, le6400, lt8, lt16, le15, le2, nI_leI, nI_ltI, nI_eq, nI_1, nI_add, n_le0, n_lt0, n_0le, n_eq0, n_eq1, n_eq2, n_m1, n_m1r, Nat.reduceEqDiff, Nat.reduceAdd, Int32.add_zero, nI_pred, div16, mul15, mul40, mul16, mul640, mulr16, xu_s, xu_c, xu_k, xu_cc, rows_xu, xf_s, xf_c, rows_xf, xul_c, rows_xul, xul_L, lgc]; rw [cT 9 (by omega), hc 9 (by omega)]; simp (disch := omega) only [forall_eq, true_and, and_true, and_self, not_true_eq_false, not_false_eq_true, false_imp_iff, true_imp_iff, imp_self, implies_true, ne_eq, reduceIte, cl, cl0, cl1, cl2, vpn, vp0, le8, le16, le40, le640, le1400, le6400, lt8, lt16, le15, le2, nI_leI, nI_ltI, nI_eq, nI_1, nI_add, n_le0, n_lt0, n_0le, n_eq0, n_eq1, n_eq2, n_m1, n_m1r, Nat.reduceEqDiff, Nat.reduceAdd, Int32.add_zero, nI_pred, div16, mul15, mul40, mul16, mul640, mulr16, xu_s, xu_c, xu_k, xu_cc, rows_xu, xf_s, xf_c, rows_xf, xul_c, rows_xul, xul_L, lgc]; rw [q3 9 (by decide) (by decide)]; exact g0 9 (by decide)
    · simp (disch := omega) only [forall_eq, true_and, and_true, and_self, not_true_eq_false, not_false_eq_true, false_imp_iff, true_imp_iff, imp_self, implies_true, ne_eq, reduceIte, cl, cl0, cl1, cl2, vpn, vp0, le8, le16, le40, le640, le1400, le6400, lt8, lt16, le15, le2, nI_leI, nI_ltI, nI_eq, nI_1, nI_add, n_le0, n_lt0, n_0le, n_eq0, n_eq1, n_eq2, n_m1, n_m1r, Nat.reduceEqDiff, Nat.reduceAdd, Int32.add_zero, nI_pred, div16, mul15, mul40, mul16, mul640, mulr16, xu_s, xu_c, xu_k, xu_cc, rows_xu, xf_s, xf_c, rows_xf, xul_c, rows_xul, xul_L, lgc]; rw [cT d (by omega), hc d (by omega)]; simp (disch := omega) only [forall_eq, true_and, and_true, and_self, not_true_eq_false, not_false_eq_true, false_imp_iff, true_imp_iff, imp_self, implies_true, ne_eq, reduceIte, cl, cl0, cl1, cl2, vpn, vp0, le8, le16, le40, le640, le1400, le6400, lt8, lt16, le15, le2, nI_leI, nI_ltI, nI_eq, nI_1, nI_add, n_le0, n_lt0, n_0le, n_eq0, n_eq1, n_eq2, n_m1, n_m1r, Nat.reduceEqDiff, Nat.reduceAdd, Int32.add_zero, nI_pred, div16, mul15, mul40, mul16, mul640, mulr16, xu_s, xu_c, xu_k, xu_cc, rows_xu, xf_s, xf_c, rows_xf, xul_c, rows_xul, xul_L, lgc]; rw [q3 d (by omega) (by omega)]; exact g2 d (by omega)
    · simp (disch := omega) only [forall_eq, true_and, and_true, and_self, not_true_eq_false, not_false_eq_true, false_imp_iff, true_imp_iff, imp_self, implies_true, ne_eq, reduceIte, cl, cl0, cl1, cl2, vpn, vp0, le8, le16, le40, le640, le1400, le6400, lt8, lt16, le15, le2, nI_leI, nI_ltI, nI_eq, nI_1, nI_add, n_le0, n_lt0, n_0le, n_eq0, n_eq1, n_eq2, n_m1, n_m1r, Nat.reduceEqDiff, Nat.reduceAdd, Int32.add_zero, nI_pred, div16, mul15, mul40, mul16, mul640, mulr16, xu_s, xu_c, xu_k, xu_cc, rows_xu, xf_s, xf_c, rows_xf, xul_c, rows_xul, xul_L, lgc]; rw [cT 2 (by omega), hc 2 (by omega)]; simp (disch := omega) only [forall_eq, true_and, and_true, and_self, not_true_eq_false, not_false_eq_true, false_imp_iff, true_imp_iff, imp_self, implies_true, ne_eq, reduceIte, cl, cl0, cl1, cl2, vpn, vp0, le8, le16, le40, le640, le1400, le6400, lt8, lt16, le15, le2, nI_leI, nI_ltI, nI_eq, nI_1, nI_add, n_le0, n_lt0, n_0le, n_eq0, n_eq1, n_eq2, n_m1, n_m1r, Nat.reduceEqDiff, Nat.reduceAdd, Int32.add_zero, nI_pred, div16, mul15, mul40, mul16, mul640, mulr16, xu_s, xu_c, xu_k, xu_cc, rows_xu, xf_s, xf_c, rows_xf, xul_c, rows_xul, xul_L, lgc]; rw [q3 2 (by decide) (by decide)]; exact g0 2 (by decide)
    · simp (disch := omega) only [forall_eq, true_and, and_true, and_self, not_true_eq_false, not_false_eq_true, false_imp_iff, true_imp_iff, imp_self, implies_true, ne_eq, reduceIte, cl, cl0, cl1, cl2, vpn, vp0, le8, le16, le40, le640, le1400, le6400, lt8, lt16, le15, le2, nI_leI, nI_ltI, nI_eq, nI_1, nI_add, n_le0, n_lt0, n_0le, n_eq0, n_eq1, n_eq2, n_m1, n_m1r, Nat.reduceEqDiff, Nat.reduceAdd, Int32.add_zero, nI_pred, div16, mul15, mul40, mul16, mul640, mulr16, xu_s, xu_c, xu_k, xu_cc, rows_xu, xf_s, xf_c, rows_xf, xul_c, rows_xul, xul_L, lgc]; rw [cT 0 (by omega), hc 0 (by omega)]; simp (disch := omega) only [forall_eq, true_and, and_true, and_self, not_true_eq_false, not_false_eq_true, false_imp_iff, true_imp_iff, imp_self, implies_true, ne_eq, reduceIte, cl, cl0, cl1, cl2, vpn, vp0, le8, le16, le40, le640, le1400, le6400, lt8, lt16, le15, le2, nI_leI, nI_ltI, nI_eq, nI_1, nI_add, n_le0, n_lt0, n_0le, n_eq0, n_eq1, n_eq2, n_m1, n_m1r, Nat.reduceEqDiff, Nat.reduceAdd, Int32.add_zero, nI_pred, div16, mul15, mul40, mul16, mul640, mulr16, xu_s, xu_c, xu_k, xu_cc, rows_xu, xf_s, xf_c, rows_xf, xul_c, rows_xul, xul_L, lgc]
    · simp (disch := omega) only [forall_eq, true_and, and_true, and_self, not_true_eq_false, not_false_eq_true, false_imp_iff, true_imp_iff, imp_self, implies_true, ne_eq, reduceIte, cl, cl0, cl1, cl2, vpn, vp0, le8, le16, le40, le640, le1400, le6400, lt8, lt16, le15, le2, nI_leI, nI_ltI, nI_eq, nI_1, nI_add, n_le0, n_lt0, n_0le, n_eq0, n_eq1, n_eq2, n_m1, n_m1r, Nat.reduceEqDiff, Nat.reduceAdd, Int32.add_zero, nI_pred, div16, mul15, mul40, mul16, mul640, mulr16, xu_s, xu_c, xu_k, xu_cc, rows_xu, xf_s, xf_c, rows_xf, xul_c, rows_xul, xul_L, lgc]; rw [cT 0 (by omega), hc 0 (by omega)]; simp (disch := omega) only [forall_eq, true_and, and_true, and_self, not_true_eq_false, not_false_eq_true, false_imp_iff, true_imp_iff, imp_self, implies_true, ne_eq, reduceIte, cl, cl0, cl1, cl2, vpn, vp0, le8, le16, le40, le640, le1400, le6400, lt8, lt16, le15, le2, nI_leI, nI_ltI, nI_eq, nI_1, nI_add, n_le0, n_lt0, n_0le, n_eq0, n_eq1, n_eq2, n_m1, n_m1r, Nat.reduceEqDiff, Nat.reduceAdd, Int32.add_zero, nI_pred, div16, mul15, mul40, mul16, mul640, mulr16, xu_s, xu_c, xu_k, xu_cc, rows_xu, xf_s, xf_c, rows_xf, xul_c, rows_xul, xul_L, lgc]; rw [h04]
    · simp (disch := omega) only [forall_eq, true_and, and_true, and_self, not_true_eq_false, not_false_eq_true, false_imp_iff, true_imp_iff, imp_self, implies_true, ne_eq, reduceIte, cl, cl0, cl1, cl2, vpn, vp0, le8, le16, le40, le640, le1400, le6400, lt8, lt16, le15, le2, nI_leI, nI_ltI, nI_eq, nI_1, nI_add, n_le0, n_lt0, n_0le, n_eq0, n_eq1, n_eq2, n_m1, n_m1r, Nat.reduceEqDiff, Nat.reduceAdd, Int32.add_zero, nI_pred, div16, mul15, mul40, mul16, mul640, mulr16, xu_s, xu_c, xu_k, xu_cc, rows_xu, xf_s, xf_c, rows_xf, xul_c, rows_xul, xul_L, lgc]
      rw [cT 3 (by omega), hc 3 (by omega), cT 12 (by omega), hc 12 (by omega), cT 13 (by omega), hc 13 (by omega)]
      simp (disch := omega) only [forall_eq, true_and, and_true, and_self, not_true_eq_false, not_false_eq_true, false_imp_iff, true_imp_iff, imp_self, implies_true, ne_eq, reduceIte, cl, cl0, cl1, cl2, vpn, vp0, le8, le16, le40, le640, le1400, le6400, lt8, lt16, le15, le2, nI_leI, nI_ltI, nI_eq, nI_1, nI_add, n_le0, n_lt0, n_0le, n_eq0, n_eq1, n_eq2, n_m1, n_m1r, Nat.reduceEqDiff, Nat.reduceAdd, Int32.add_zero, nI_pred, div16, mul15, mul40, mul16, mul640, mulr16, xu_s, xu_c, xu_k, xu_cc, rows_xu, xf_s, xf_c, rows_xf, xul_c, rows_xul, xul_L, lgc]
      rw [q3 3 (by decide) (by decide), q3 12 (by decide) (by decide), q3 13 (by decide) (by decide), g1 3 (by decide), g1 12 (by decide), g1 13 (by decide)]
      exact PC_scr hPC s6 hB p6
    · simp (disch := omega) only [forall_eq, true_and, and_true, and_self, not_true_eq_false, not_false_eq_true, false_imp_iff, true_imp_iff, imp_self, implies_true, ne_eq, reduceIte, cl, cl0, cl1, cl2, vpn, vp0, le8, le16, le40, le640, le1400, le6400, lt8, lt16, le15, le2, nI_leI, nI_ltI, nI_eq, nI_1, nI_add, n_le0, n_lt0, n_0le, n_eq0, n_eq1, n_eq2, n_m1, n_m1r, Nat.reduceEqDiff, Nat.reduceAdd, Int32.add_zero, nI_pred, div16, mul15, mul40, mul16, mul640, mulr16, xu_s, xu_c, xu_k, xu_cc, rows_xu, xf_s, xf_c, rows_xf, xul_c, rows_xul, xul_L, lgc]; rw [m6 d (by omega)]; exact a d (by omega) (by omega) (by omega)
    · simp (disch := omega) only [forall_eq, true_and, and_true, and_self, not_true_eq_false, not_false_eq_true, false_imp_iff, true_imp_iff, imp_self, implies_true, ne_eq, reduceIte, cl, cl0, cl1, cl2, vpn, vp0, le8, le16, le40, le640, le1400, le6400, lt8, lt16, le15, le2, nI_leI, nI_ltI, nI_eq, nI_1, nI_add, n_le0, n_lt0, n_0le, n_eq0, n_eq1, n_eq2, n_m1, n_m1r, Nat.reduceEqDiff, Nat.reduceAdd, Int32.add_zero, nI_pred, div16, mul15, mul40, mul16, mul640, mulr16, xu_s, xu_c, xu_k, xu_cc, rows_xu, xf_s, xf_c, rows_xf, xul_c, rows_xul, xul_L, lgc]; exact M1 o ho
    · simp (disch := omega) only [forall_eq, true_and, and_true, and_self, not_true_eq_false, not_false_eq_true, false_imp_iff, true_imp_iff, imp_self, implies_true, ne_eq, reduceIte, cl, cl0, cl1, cl2, vpn, vp0, le8, le16, le40, le640, le1400, le6400, lt8, lt16, le15, le2, nI_leI, nI_ltI, nI_eq, nI_1, nI_add, n_le0, n_lt0, n_0le, n_eq0, n_eq1, n_eq2, n_m1, n_m1r, Nat.reduceEqDiff, Nat.reduceAdd, Int32.add_zero, nI_pred, div16, mul15, mul40, mul16, mul640, mulr16, xu_s, xu_c, xu_k, xu_cc, rows_xu, xf_s, xf_c, rows_xf, xul_c, rows_xul, xul_L, lgc]; exact M2 p hp
    · simp (disch := omega) only [forall_eq, true_and, and_true, and_self, not_true_eq_false, not_false_eq_true, false_imp_iff, true_imp_iff, imp_self, implies_true, ne_eq, reduceIte, cl, cl0, cl1, cl2, vpn, vp0, le8, le16, le40, le640, le1400, le6400, lt8, lt16, le15, le2, nI_leI, nI_ltI, nI_eq, nI_1, nI_add, n_le0, n_lt0, n_0le, n_eq0, n_eq1, n_eq2, n_m1, n_m1r, Nat.reduceEqDiff, Nat.reduceAdd, Int32.add_zero, nI_pred, div16, mul15, mul40, mul16, mul640, mulr16, xu_s, xu_c, xu_k, xu_cc, rows_xu, xf_s, xf_c, rows_xf, xul_c, rows_xul, xul_L, lgc]; exact M3 o ho
    · simp (disch := omega) only [forall_eq, true_and, and_true, and_self, not_true_eq_false, not_false_eq_true, false_imp_iff, true_imp_iff, imp_self, implies_true, ne_eq, reduceIte, cl, cl0, cl1, cl2, vpn, vp0, le8, le16, le40, le640, le1400, le6400, lt8, lt16, le15, le2, nI_leI, nI_ltI, nI_eq, nI_1, nI_add, n_le0, n_lt0, n_0le, n_eq0, n_eq1, n_eq2, n_m1, n_m1r, Nat.reduceEqDiff, Nat.reduceAdd, Int32.add_zero, nI_pred, div16, mul15, mul40, mul16, mul640, mulr16, xu_s, xu_c, xu_k, xu_cc, rows_xu, xf_s, xf_c, rows_xf, xul_c, rows_xul, xul_L, lgc]; exact M4 o ho
    · simp (disch := omega) only [forall_eq, true_and, and_true, and_self, not_true_eq_false, not_false_eq_true, false_imp_iff, true_imp_iff, imp_self, implies_true, ne_eq, reduceIte, cl, cl0, cl1, cl2, vpn, vp0, le8, le16, le40, le640, le1400, le6400, lt8, lt16, le15, le2, nI_leI, nI_ltI, nI_eq, nI_1, nI_add, n_le0, n_lt0, n_0le, n_eq0, n_eq1, n_eq2, n_m1, n_m1r, Nat.reduceEqDiff, Nat.reduceAdd, Int32.add_zero, nI_pred, div16, mul15, mul40, mul16, mul640, mulr16, xu_s, xu_c, xu_k, xu_cc, rows_xu, xf_s, xf_c, rows_xf, xul_c, rows_xul, xul_L, lgc]; exact M5.1
    · simp (disch := omega) only [forall_eq, true_and, and_true, and_self, not_true_eq_false, not_false_eq_true, false_imp_iff, true_imp_iff, imp_self, implies_true, ne_eq, reduceIte, cl, cl0, cl1, cl2, vpn, vp0, le8, le16, le40, le640, le1400, le6400, lt8, lt16, le15, le2, nI_leI, nI_ltI, nI_eq, nI_1, nI_add, n_le0, n_lt0, n_0le, n_eq0, n_eq1, n_eq2, n_m1, n_m1r, Nat.reduceEqDiff, Nat.reduceAdd, Int32.add_zero, nI_pred, div16, mul15, mul40, mul16, mul640, mulr16, xu_s, xu_c, xu_k, xu_cc, rows_xu, xf_s, xf_c, rows_xf, xul_c, rows_xul, xul_L, lgc]; exact M5.2.1
    · simp (disch := omega) only [forall_eq, true_and, and_true, and_self, not_true_eq_false, not_false_eq_true, false_imp_iff, true_imp_iff, imp_self, implies_true, ne_eq, reduceIte, cl, cl0, cl1, cl2, vpn, vp0, le8, le16, le40, le640, le1400, le6400, lt8, lt16, le15, le2, nI_leI, nI_ltI, nI_eq, nI_1, nI_add, n_le0, n_lt0, n_0le, n_eq0, n_eq1, n_eq2, n_m1, n_m1r, Nat.reduceEqDiff, Nat.reduceAdd, Int32.add_zero, nI_pred, div16, mul15, mul40, mul16, mul640, mulr16, xu_s, xu_c, xu_k, xu_cc, rows_xu, xf_s, xf_c, rows_xf, xul_c, rows_xul, xul_L, lgc]; exact M5.2.2.1
    · simp (disch := omega) only [forall_eq, true_and, and_true, and_self, not_true_eq_false, not_false_eq_true, false_imp_iff, true_imp_iff, imp_self, implies_true, ne_eq, reduceIte, cl, cl0, cl1, cl2, vpn, vp0, le8, le16, le40, le640, le1400, le6400, lt8, lt16, le15, le2, nI_leI, nI_ltI, nI_eq, nI_1, nI_add, n_le0, n_lt0, n_0le, n_eq0, n_eq1, n_eq2, n_m1, n_m1r, Nat.reduceEqDiff, Nat.reduceAdd, Int32.add_zero, nI_pred, div16, mul15, mul40, mul16, mul640, mulr16, xu_s, xu_c, xu_k, xu_cc, rows_xu, xf_s, xf_c, rows_xf, xul_c, rows_xul, xul_L, lgc]; exact M5.2.2.2
    · simp (disch := omega) only [forall_eq, true_and, and_true, and_self, not_true_eq_false, not_false_eq_true, false_imp_iff, true_imp_iff, imp_self, implies_true, ne_eq, reduceIte, cl, cl0, cl1, cl2, vpn, vp0, le8, le16, le40, le640, le1400, le6400, lt8, lt16, le15, le2, nI_leI, nI_ltI, nI_eq, nI_1, nI_add, n_le0, n_lt0, n_0le, n_eq0, n_eq1, n_eq2, n_m1, n_m1r, Nat.reduceEqDiff, Nat.reduceAdd, Int32.add_zero, nI_pred, div16, mul15, mul40, mul16, mul640, mulr16, xu_s, xu_c, xu_k, xu_cc, rows_xu, xf_s, xf_c, rows_xf, xul_c, rows_xul, xul_L, lgc]; rw [m6 31 (by decide)]; exact b k k1 k2
    · simp (disch := omega) only [forall_eq, true_and, and_true, and_self, not_true_eq_false, not_false_eq_true, false_imp_iff, true_imp_iff, imp_self, implies_true, ne_eq, reduceIte, cl, cl0, cl1, cl2, vpn, vp0, le8, le16, le40, le640, le1400, le6400, lt8, lt16, le15, le2, nI_leI, nI_ltI, nI_eq, nI_1, nI_add, n_le0, n_lt0, n_0le, n_eq0, n_eq1, n_eq2, n_m1, n_m1r, Nat.reduceEqDiff, Nat.reduceAdd, Int32.add_zero, nI_pred, div16, mul15, mul40, mul16, mul640, mulr16, xu_s, xu_c, xu_k, xu_cc, rows_xu, xf_s, xf_c, rows_xf, xul_c, rows_xul, xul_L, lgc]; rw [b 24 (by decide) (by decide)]
  · rw [free_eq hT1] at hroom
    simp (disch := omega) only [forall_eq, true_and, and_true, and_self, not_true_eq_false, not_false_eq_true, false_imp_iff, true_imp_iff, imp_self, implies_true, ne_eq, reduceIte, cl, cl0, cl1, cl2, vpn, vp0, le8, le16, le40, le640, le1400, le6400, lt8, lt16, le15, le2, nI_leI, nI_ltI, nI_eq, nI_1, nI_add, n_le0, n_lt0, n_0le, n_eq0, n_eq1, n_eq2, n_m1, n_m1r, Nat.reduceEqDiff, Nat.reduceAdd, Int32.add_zero, nI_pred, div16, mul15, mul40, mul16, mul640, mulr16, xu_s, xu_c, xu_k, xu_cc, rows_xu, xf_s, xf_c, rows_xf, xul_c, rows_xul, xul_L, lgc]
    refine start τ1 (-1) (fun d hd' => C4 d (by omega) (by omega) (by omega)) (fun τ hE hc h0 h30 hPM => ?_)
    refine room τ _ hE hPM (fun x => absurd x hroom) (fun _ => ?_)
    simp (disch := omega) only [forall_eq, true_and, and_true, and_self, not_true_eq_false, not_false_eq_true, false_imp_iff, true_imp_iff, imp_self, implies_true, ne_eq, reduceIte, cl, cl0, cl1, cl2, vpn, vp0, le8, le16, le40, le640, le1400, le6400, lt8, lt16, le15, le2, nI_leI, nI_ltI, nI_eq, nI_1, nI_add, n_le0, n_lt0, n_0le, n_eq0, n_eq1, n_eq2, n_m1, n_m1r, Nat.reduceEqDiff, Nat.reduceAdd, Int32.add_zero, nI_pred, div16, mul15, mul40, mul16, mul640, mulr16, xu_s, xu_c, xu_k, xu_cc, rows_xu, xf_s, xf_c, rows_xf, xul_c, rows_xul, xul_L, lgc]
    exact mkQ_i h0 h30 (RE_CF_Inv hI1 hE hc)
