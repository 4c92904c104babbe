theorem colM {t : Nat} {σ ρ τ : xS} {r : Nat} {dd : Nat → Nat} {N : Nat} (ht : t < 100000) (hI : Inv2 t σ ρ) (hD : DD ρ r dd N) (hr : r < rN ρ) (hE : RE ρ τ) (Q : Int32 → xS → Prop)
    (h : ∀ τ', RE (r7 ρ r dd N) τ' → CF τ τ' → Q (nI (g7 ρ r dd N)) τ') : p_Mod_collectFrom (nI r) τ Q := by
  have hG := Inv2_Gd ht hI
  have hG1 : Gd (r1 ρ r) := Gd_clr hG _
  have hG2 := Gd_r2 hG hD
  have hG3 : Gd (r3 ρ r dd N) := Gd_clr hG2 _
  have hR8 : rN ρ ≤ 8 := hI.1.2.2.2.2.2.1.2.1
  have hr8 : r < 8 := by omega
  unfold p_Mod_collectFrom
  refine m_find hG hE hr8 _ (fun l1 hl1 => ?_)
  obtain ⟨E1, F1⟩ := RE_48 hE l1
  refine m_forget hG E1 hr8 (L := L_ ρ r) (by rw [xf_s]; exact hl1) (fun o ho hn => L_old ho hn) _ (fun τ2 E2 h48 F2 => ?_)
  rw [xf_s] at h48
  obtain ⟨a, b⟩ := id E2
  have c40 : clr ρ (wZ ρ (L_ ρ r)) 40 = ρ 40 := clr_d _ _ (by decide)
  have c45 : clr ρ (wZ ρ (L_ ρ r)) 45 = ρ 45 := clr_d _ _ (by decide)
  have c56 : clr ρ (wZ ρ (L_ ρ r)) 56 = ρ 56 := clr_d _ _ (by decide)
  have c31 : clr ρ (wZ ρ (L_ ρ r)) 31 = ρ 31 := clr_d _ _ (by decide)
  have e40 := a 40 (by decide) (by decide) (by decide)
  have e42 := a 42 (by decide) (by decide) (by decide)
  have e43 := a 43 (by decide) (by decide) (by decide)
  have e45 := a 45 (by decide) (by decide) (by decide)
  have e46 := a 46 (by decide) (by decide) (by decide)
  have e47 := a 47 (by decide) (by decide) (by decide)
  have e56 := a 56 (by decide) (by decide) (by decide)
  have e19 := b 19 (by decide) (by decide)
  rw [c40] at e40
  rw [c45] at e45
  rw [c56] at e56
  rw [c31] at e19
  have hT : Rt (τ2 40) (τ2 42) (τ2 43) (τ2 46) (τ2 47) (oM ρ) (oG ρ) := by
    rw [a 40 (by decide) (by decide) (by decide), e42, e43, e46, e47]
    exact Gd_Rt hG1
  have hcand : ∀ o, (iA (τ2 40) o ∧ r ≤ oG ρ o ∧ τ2 48 o = 0 ∧ 0 < oW ρ o) ↔ (oB ρ o ∧ ¬ L_ ρ r o ∧ 0 < oW ρ o) := fun o => by
    rw [e40, h48]
    constructor
    · rintro ⟨x, y, z, v⟩
      refine ⟨x, ?_, v⟩
      rcases hl1 o x.1 with w | w
      · exact w.2
      · rw [w.1] at z; exact absurd z n10
    · rintro ⟨x, y, v⟩
      refine ⟨x, L_old x y, ?_, v⟩
      rcases hl1 o x.1 with w | w
      · exact w.1
      · exact absurd w.2.2 y
  refine e_mDue (mn := oM ρ) (g := oG ρ) (wt := oW ρ) (dd := dd) (n := oN ρ) (N := N) hr8 hT (fun o ho => ?_) (by rw [e19]; exact hG.2.2.2.1.1) hD.2.2.2 (fun j hj => (hcand _).mpr (hD.1 j hj)) hD.2.1 (fun o ho => by
    obtain ⟨x, y, z⟩ := (hcand o).mp ho
    exact hD.2.2.1 o x y z) Q ?_
  · rw [e40] at ho
    rw [e45]
    exact (hG.1 o ho).2.2.2.1
  obtain ⟨τ3, e3⟩ : ∃ τ3, dus τ2 (cw (fun _ => True) dd (fun _ => 0) (τ2 45) N) (cw (fun _ => True) (fun j => oN ρ + j) (fun j => nI (dd j)) (τ2 56) N) (nI (oN ρ + N)) = τ3 := ⟨_, rfl⟩
  rw [e3]
  have E3 : RE (r2 ρ r dd N) τ3 := by
    refine ⟨fun d h1 h2 h3 => ?_, fun k h1 h2 => ?_⟩
    · rw [← e3]
      unfold r2
      by_cases x : d = 45
      · subst x; rw [dus_45, dus_45, e45]
      · by_cases y : d = 56
        · subst y; rw [dus_56, dus_56, e56]
        · rw [dus_d _ _ _ _ ⟨x, y, by omega⟩, dus_d _ _ _ _ ⟨x, y, by omega⟩]
          exact a d h1 h2 h3
    · rw [← e3]
      by_cases x : k = 19
      · subst x
        unfold r2
        rw [dus_31, dus_31]
      · rw [r2_31 _ _ _ _ x]
        unfold dus
        rw [xu_k _ _ _ _ x, xf_c _ _ _ (by decide), xf_c _ _ _ (by decide), b k h1 h2, c31]
  have F3 : CF τ2 τ3 := ⟨fun d hd => by rw [← e3, dus_d _ _ _ _ ⟨by omega, by omega, by omega⟩], by rw [← e3]; unfold dus; rw [xu_k _ _ _ _ (by decide), xf_c _ _ _ (by decide), xf_c _ _ _ (by decide)]⟩
  refine m_find hG2 E3 hr8 _ (fun l2 hl2 => ?_)
  obtain ⟨E4, F4⟩ := RE_48 E3 l2
  have hL2 : ∀ o, oB (r2 ρ r dd N) o → ¬ L2 ρ r dd N o → r ≤ oG (r2 ρ r dd N) o := fun o ho hn => L_old ho hn
  refine m_keyed hG2 E4 hr8 (L := L2 ρ r dd N) (by rw [xf_s]; exact hl2) hL2 Q (fun τ5 E5 h5 F5 => ?_)
  rw [xf_s] at h5
  refine m_forget hG3 E5 hr8 (L := L2 ρ r dd N) (by rw [h5]; exact hl2) hL2 _ (fun τ6 E6 h6 F6 => ?_)
  rw [h5] at h6
  exact m_slide ht hI hD hr E6 (by rw [h6]; exact hl2) Q (fun τ' E7 F7 => h τ' E7 (CF_t F1 (CF_t F2 (CF_t F3 (CF_t F4 (CF_t F5 (CF_t F6 F7)))))))
theorem e_crg {j R : Nat} (hR : R ≤ 8) (h : j < R) {σ : xS} (e : σ 7 4 = nI R) (Q : xS → Prop) : p_Rp_checkRegion (nI j) σ Q ↔ Q σ := by
  have : ¬ R ≤ j := by omega
  unfold p_Rp_checkRegion p_Reg_has
  simp (disch := omega) only [forall_eq, true_and, and_true, and_self, not_true_eq_false, not_false_eq_true, false_imp_iff, true_imp_iff, imp_self, implies_true, ne_eq, reduceIte, cl, cl0, cl1, cl2, vpn, vp0, le8, le16, le40, le640, le1400, le6400, lt8, lt16, le15, le2, nI_leI, nI_ltI, nI_eq, nI_1, nI_add, n_le0, n_lt0, n_0le, n_eq0, n_eq1, n_eq2, n_m1, n_m1r, Nat.reduceEqDiff, Nat.reduceAdd, Int32.add_zero, nI_pred, div16, mul15, mul40, mul16, mul640, mulr16, xu_s, xu_c, xu_k, xu_cc, rows_xu, xf_s, xf_c, rows_xf, xul_c, rows_xul, xul_L, lgc, e, this, n10]
theorem e_qrg {j R : Nat} (hR : R ≤ 8) (h : j < R) {σ : xS} (e : σ 7 4 = nI R) (E : String) : q_Rp_checkRegion (nI j) σ E ↔ False := by
  have : ¬ R ≤ j := by omega
  unfold q_Rp_checkRegion p_Reg_has
  simp (disch := omega) only [forall_eq, true_and, and_true, and_self, not_true_eq_false, not_false_eq_true, false_imp_iff, true_imp_iff, imp_self, implies_true, ne_eq, reduceIte, cl, cl0, cl1, cl2, vpn, vp0, le8, le16, le40, le640, le1400, le6400, lt8, lt16, le15, le2, nI_leI, nI_ltI, nI_eq, nI_1, nI_add, n_le0, n_lt0, n_0le, n_eq0, n_eq1, n_eq2, n_m1, n_m1r, Nat.reduceEqDiff, Nat.reduceAdd, Int32.add_zero, nI_pred, div16, mul15, mul40, mul16, mul640, mulr16, xu_s, xu_c, xu_k, xu_cc, rows_xu, xf_s, xf_c, rows_xf, xul_c, rows_xul, xul_L, lgc, e, this, n10]
def badReg (x : Int32) (R : Nat) : Prop := x < 0 ∨ ¬ x < 0 ∧ nI R ≤ x
theorem e_crgN {x : Int32} {R : Nat} (h : badReg x R) {σ : xS} (e : σ 7 4 = nI R) (Q : xS → Prop) : p_Rp_checkRegion x σ Q ↔ False := by
  unfold p_Rp_checkRegion p_Reg_has
  rcases h with h | ⟨h, h'⟩
  · simp (disch := omega) only [forall_eq, true_and, and_true, and_self, not_true_eq_false, not_false_eq_true, false_imp_iff, true_imp_iff, imp_self, implies_true, ne_eq, reduceIte, cl, cl0, cl1, cl2, vpn, vp0, le8, le16, le40, le640, le1400, le6400, lt8, lt16, le15, le2, nI_leI, nI_ltI, nI_eq, nI_1, nI_add, n_le0, n_lt0, n_0le, n_eq0, n_eq1, n_eq2, n_m1, n_m1r, Nat.reduceEqDiff, Nat.reduceAdd, Int32.add_zero, nI_pred, div16, mul15, mul40, mul16, mul640, mulr16, xu_s, xu_c, xu_k, xu_cc, rows_xu, xf_s, xf_c, rows_xf, xul_c, rows_xul, xul_L, lgc, h, n10]
  · simp (disch := omega) only [forall_eq, true_and, and_true, and_self, not_true_eq_false, not_false_eq_true, false_imp_iff, true_imp_iff, imp_self, implies_true, ne_eq, reduceIte, cl, cl0, cl1, cl2, vpn, vp0, le8, le16, le40, le640, le1400, le6400, lt8, lt16, le15, le2, nI_leI, nI_ltI, nI_eq, nI_1, nI_add, n_le0, n_lt0, n_0le, n_eq0, n_eq1, n_eq2, n_m1, n_m1r, Nat.reduceEqDiff, Nat.reduceAdd, Int32.add_zero, nI_pred, div16, mul15, mul40, mul16, mul640, mulr16, xu_s, xu_c, xu_k, xu_cc, rows_xu, xf_s, xf_c, rows_xf, xul_c, rows_xul, xul_L, lgc, e, h, h', n10]
theorem e_qrgN {x : Int32} {R : Nat} (h : badReg x R) {σ : xS} (e : σ 7 4 = nI R) (E : String) : q_Rp_checkRegion x σ E ↔ E = "java/lang/IllegalArgumentException" := by
  unfold q_Rp_checkRegion p_Reg_has
  rcases h with h | ⟨h, h'⟩
  · simp (disch := omega) only [forall_eq, true_and, and_true, and_self, not_true_eq_false, not_false_eq_true, false_imp_iff, true_imp_iff, imp_self, implies_true, ne_eq, reduceIte, cl, cl0, cl1, cl2, vpn, vp0, le8, le16, le40, le640, le1400, le6400, lt8, lt16, le15, le2, nI_leI, nI_ltI, nI_eq, nI_1, nI_add, n_le0, n_lt0, n_0le, n_eq0, n_eq1, n_eq2, n_m1, n_m1r, Nat.reduceEqDiff, Nat.reduceAdd, Int32.add_zero, nI_pred, div16, mul15, mul40, mul16, mul640, mulr16, xu_s, xu_c, xu_k, xu_cc, rows_xu, xf_s, xf_c, rows_xf, xul_c, rows_xul, xul_L, lgc, h, n10]
  · simp (disch := omega) only [forall_eq, true_and, and_true, and_self, not_true_eq_false, not_false_eq_true, false_imp_iff, true_imp_iff, imp_self, implies_true, ne_eq, reduceIte, cl, cl0, cl1, cl2, vpn, vp0, le8, le16, le40, le640, le1400, le6400, lt8, lt16, le15, le2, nI_leI, nI_ltI, nI_eq, nI_1, nI_add, n_le0, n_lt0, n_0le, n_eq0, n_eq1, n_eq2, n_m1, n_m1r, Nat.reduceEqDiff, Nat.reduceAdd, Int32.add_zero, nI_pred, div16, mul15, mul40, mul16, mul640, mulr16, xu_s, xu_c, xu_k, xu_cc, rows_xu, xf_s, xf_c, rows_xf, xul_c, rows_xul, xul_L, lgc, e, h, h', n10]
theorem e_mrg {j R : Nat} (hR : R ≤ 8) (h : j < R) {σ : xS} (e : σ 31 13 = nI R) (Q : Int32 → xS → Prop) : p_Mod_isRegion (nI j) σ Q ↔ Q 1 σ := by
  have : ¬ R ≤ j := by omega
  unfold p_Mod_isRegion
  simp (disch := omega) only [forall_eq, true_and, and_true, and_self, not_true_eq_false, not_false_eq_true, false_imp_iff, true_imp_iff, imp_self, implies_true, ne_eq, reduceIte, cl, cl0, cl1, cl2, vpn, vp0, le8, le16, le40, le640, le1400, le6400, lt8, lt16, le15, le2, nI_leI, nI_ltI, nI_eq, nI_1, nI_add, n_le0, n_lt0, n_0le, n_eq0, n_eq1, n_eq2, n_m1, n_m1r, Nat.reduceEqDiff, Nat.reduceAdd, Int32.add_zero, nI_pred, div16, mul15, mul40, mul16, mul640, mulr16, xu_s, xu_c, xu_k, xu_cc, rows_xu, xf_s, xf_c, rows_xf, xul_c, rows_xul, xul_L, lgc, e, this]
theorem e_mrgN {x : Int32} {R : Nat} (h : badReg x R) {σ : xS} (e : σ 31 13 = nI R) (Q : Int32 → xS → Prop) : p_Mod_isRegion x σ Q ↔ Q 0 σ := by
  unfold p_Mod_isRegion
  rcases h with h | ⟨h, h'⟩
  · simp (disch := omega) only [forall_eq, true_and, and_true, and_self, not_true_eq_false, not_false_eq_true, false_imp_iff, true_imp_iff, imp_self, implies_true, ne_eq, reduceIte, cl, cl0, cl1, cl2, vpn, vp0, le8, le16, le40, le640, le1400, le6400, lt8, lt16, le15, le2, nI_leI, nI_ltI, nI_eq, nI_1, nI_add, n_le0, n_lt0, n_0le, n_eq0, n_eq1, n_eq2, n_m1, n_m1r, Nat.reduceEqDiff, Nat.reduceAdd, Int32.add_zero, nI_pred, div16, mul15, mul40, mul16, mul640, mulr16, xu_s, xu_c, xu_k, xu_cc, rows_xu, xf_s, xf_c, rows_xf, xul_c, rows_xul, xul_L, lgc, h]
  · simp (disch := omega) only [forall_eq, true_and, and_true, and_self, not_true_eq_false, not_false_eq_true, false_imp_iff, true_imp_iff, imp_self, implies_true, ne_eq, reduceIte, cl, cl0, cl1, cl2, vpn, vp0, le8, le16, le40, le640, le1400, le6400, lt8, lt16, le15, le2, nI_leI, nI_ltI, nI_eq, nI_1, nI_add, n_le0, n_lt0, n_0le, n_eq0, n_eq1, n_eq2, n_m1, n_m1r, Nat.reduceEqDiff, Nat.reduceAdd, Int32.add_zero, nI_pred, div16, mul15, mul40, mul16, mul640, mulr16, xu_s, xu_c, xu_k, xu_cc, rows_xu, xf_s, xf_c, rows_xf, xul_c, rows_xul, xul_L, lgc, e, h, h']
