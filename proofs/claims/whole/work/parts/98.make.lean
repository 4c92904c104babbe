def mkQ (K : xS → Prop) : Int32 → xS → Prop := fun r14 σ13 => p_Mod_thrown σ13 (fun r16 σ15 => ((r16 = 0 → ((¬ (0 : Int32) = 0 → K σ15) ∧ ((0 : Int32) = 0 → (vp_in 0 1 ∧ (((lg_cmp (xL (σ15 30) (0 : Int32).toNatClampNeg) r14.toInt64) = 0 → K σ15) ∧ (¬ (lg_cmp (xL (σ15 30) (0 : Int32).toNatClampNeg) r14.toInt64) = 0 → False)))))) ∧ (¬ r16 = 0 → False)))
theorem mkQ_i {K : xS → Prop} {v : Int32} {τ : xS} (h0 : τ 31 0 = 0) (h30 : xL (τ 30) 0 = v.toInt64) (hK : K τ) : mkQ K v τ := by
  unfold mkQ p_Mod_thrown
  rw [h0]
  refine ⟨fun _ => ⟨fun _ => hK, fun _ => ⟨(vp0 (by decide) (by decide)).mpr trivial, fun _ => hK, fun h => h ?_⟩⟩, fun h => h rfl⟩
  rw [lgc]; exact h30
theorem RE_CF_Inv {t : Nat} {σ ρ τ : xS} (h : Inv2 t σ ρ) (hE : RE ρ τ) (hc : ∀ d, (d < 30 ∨ (32 ≤ d ∧ d < 40)) → τ d = σ d) : Inv t τ := Inv2_s.mp (Inv2_RE (Inv2_CF h hc) hE)
theorem R4_of {ρ τ : xS} (h : RE ρ τ) : R4 ρ τ := ⟨h.1 50 (by decide) (by decide) (by decide), h.1 51 (by decide) (by decide) (by decide), h.1 52 (by decide) (by decide) (by decide), h.1 53 (by decide) (by decide) (by decide)⟩
theorem mk_end {t : Nat} {σ ρ σ' ρ' τ : xS} {i j k g n q : Nat} (hi : i < 16) (hI : Inv2 t σ ρ) (hj : j < rN ρ) (hT : Tk σ ρ j (n + 1) σ' ρ' q) (hk : k < 3) (hg : g < 1000) (hn : n < 16) (h2 : k = 2 → 0 < n) (hE : RE ρ τ)
    (hc : ∀ d, (d < 30 ∨ (32 ≤ d ∧ d < 40)) → τ d = xu (xu (nwC σ' q n (hdI (nI k) (nI g) (nI n))) 17 i 2) 18 i (nI q) d) (h0 : τ 31 0 = 0) (h30 : xL (τ 30) 0 = (nI q).toInt64) : p_Mod_make_J121 (mkQ (Inv t)) (nI i) (nI j) (nI k) (nI g) (nI n) τ := by
  have hq := (Tk_ok (Inv2_TR hI) hj ⟨by omega, by omega⟩ hT).2.1
  have hR8 : rN ρ ≤ 8 := hI.1.2.2.2.2.2.1.2.1
  unfold p_Mod_make_J121
  simp (disch := omega) only [forall_eq, true_and, and_true, and_self, not_true_eq_false, not_false_eq_true, false_imp_iff, true_imp_iff, imp_self, implies_true, ne_eq, reduceIte, cl, cl0, cl1, cl2, vpn, vp0, le8, le16, le40, le640, le1400, le6400, lt8, lt16, le15, le2, nI_leI, nI_ltI, nI_eq, nI_1, nI_add, n_le0, n_lt0, n_0le, n_eq0, n_eq1, n_eq2, n_m1, n_m1r, Nat.reduceEqDiff, Nat.reduceAdd, Int32.add_zero, nI_pred, div16, mul15, mul40, mul16, mul640, mulr16, xu_s, xu_c, xu_k, xu_cc, rows_xu, xf_s, xf_c, rows_xf, xul_c, rows_xul, xul_L, lgc]
  refine tk_find (Inv2_TR hI) hj ⟨by omega, by omega⟩ (R4_of hE) _ (fun σ1 ρ1 q1 hT1 => ?_) (fun hno => ?_)
  · have hq1 := (Tk_ok (Inv2_TR hI) hj ⟨by omega, by omega⟩ hT1).2.1
    simp (disch := omega) only [forall_eq, true_and, and_true, and_self, not_true_eq_false, not_false_eq_true, false_imp_iff, true_imp_iff, imp_self, implies_true, ne_eq, reduceIte, cl, cl0, cl1, cl2, vpn, vp0, le8, le16, le40, le640, le1400, le6400, lt8, lt16, le15, le2, nI_leI, nI_ltI, nI_eq, nI_1, nI_add, n_le0, n_lt0, n_0le, n_eq0, n_eq1, n_eq2, n_m1, n_m1r, Nat.reduceEqDiff, Nat.reduceAdd, Int32.add_zero, nI_pred, div16, mul15, mul40, mul16, mul640, mulr16, xu_s, xu_c, xu_k, xu_cc, rows_xu, xf_s, xf_c, rows_xf, xul_c, rows_xul, xul_L, lgc]
    refine e_mCreate hI hj hT hn hE _ (fun o τ' ho hO hE' hf => ?_)
    simp (disch := omega) only [forall_eq, true_and, and_true, and_self, not_true_eq_false, not_false_eq_true, false_imp_iff, true_imp_iff, imp_self, implies_true, ne_eq, reduceIte, cl, cl0, cl1, cl2, vpn, vp0, le8, le16, le40, le640, le1400, le6400, lt8, lt16, le15, le2, nI_leI, nI_ltI, nI_eq, nI_1, nI_add, n_le0, n_lt0, n_0le, n_eq0, n_eq1, n_eq2, n_m1, n_m1r, Nat.reduceEqDiff, Nat.reduceAdd, Int32.add_zero, nI_pred, div16, mul15, mul40, mul16, mul640, mulr16, xu_s, xu_c, xu_k, xu_cc, rows_xu, xf_s, xf_c, rows_xf, xul_c, rows_xul, xul_L, lgc]
    have e44 : τ' 44 o = nI q := by
      rw [hE'.1 44 (by decide) (by decide) (by decide)]
      unfold nwR
      simp (disch := omega) only [forall_eq, true_and, and_true, and_self, not_true_eq_false, not_false_eq_true, false_imp_iff, true_imp_iff, imp_self, implies_true, ne_eq, reduceIte, cl, cl0, cl1, cl2, vpn, vp0, le8, le16, le40, le640, le1400, le6400, lt8, lt16, le15, le2, nI_leI, nI_ltI, nI_eq, nI_1, nI_add, n_le0, n_lt0, n_0le, n_eq0, n_eq1, n_eq2, n_m1, n_m1r, Nat.reduceEqDiff, Nat.reduceAdd, Int32.add_zero, nI_pred, div16, mul15, mul40, mul16, mul640, mulr16, xu_s, xu_c, xu_k, xu_cc, rows_xu, xf_s, xf_c, rows_xf, xul_c, rows_xul, xul_L, lgc, upd_s]
    rw [e44]
    refine mkQ_i ?_ ?_ ?_
    · simp (disch := omega) only [forall_eq, true_and, and_true, and_self, not_true_eq_false, not_false_eq_true, false_imp_iff, true_imp_iff, imp_self, implies_true, ne_eq, reduceIte, cl, cl0, cl1, cl2, vpn, vp0, le8, le16, le40, le640, le1400, le6400, lt8, lt16, le15, le2, nI_leI, nI_ltI, nI_eq, nI_1, nI_add, n_le0, n_lt0, n_0le, n_eq0, n_eq1, n_eq2, n_m1, n_m1r, Nat.reduceEqDiff, Nat.reduceAdd, Int32.add_zero, nI_pred, div16, mul15, mul40, mul16, mul640, mulr16, xu_s, xu_c, xu_k, xu_cc, rows_xu, xf_s, xf_c, rows_xf, xul_c, rows_xul, xul_L, lgc]
      rw [hf 31 (by omega)]; exact h0
    · simp (disch := omega) only [forall_eq, true_and, and_true, and_self, not_true_eq_false, not_false_eq_true, false_imp_iff, true_imp_iff, imp_self, implies_true, ne_eq, reduceIte, cl, cl0, cl1, cl2, vpn, vp0, le8, le16, le40, le640, le1400, le6400, lt8, lt16, le15, le2, nI_leI, nI_ltI, nI_eq, nI_1, nI_add, n_le0, n_lt0, n_0le, n_eq0, n_eq1, n_eq2, n_m1, n_m1r, Nat.reduceEqDiff, Nat.reduceAdd, Int32.add_zero, nI_pred, div16, mul15, mul40, mul16, mul640, mulr16, xu_s, xu_c, xu_k, xu_cc, rows_xu, xf_s, xf_c, rows_xf, xul_c, rows_xul, xul_L, lgc]
      rw [hf 30 (by omega)]; exact h30
    · have hN := Inv2_new (o := o) hI hj hT hk hg hn h2 ho hO
      have e44' : nwR ρ' o k g n j q 44 o = nI q := by unfold nwR; simp (disch := omega) only [forall_eq, true_and, and_true, and_self, not_true_eq_false, not_false_eq_true, false_imp_iff, true_imp_iff, imp_self, implies_true, ne_eq, reduceIte, cl, cl0, cl1, cl2, vpn, vp0, le8, le16, le40, le640, le1400, le6400, lt8, lt16, le15, le2, nI_leI, nI_ltI, nI_eq, nI_1, nI_add, n_le0, n_lt0, n_0le, n_eq0, n_eq1, n_eq2, n_m1, n_m1r, Nat.reduceEqDiff, Nat.reduceAdd, Int32.add_zero, nI_pred, div16, mul15, mul40, mul16, mul640, mulr16, xu_s, xu_c, xu_k, xu_cc, rows_xu, xf_s, xf_c, rows_xf, xul_c, rows_xul, xul_L, lgc, upd_s]
      have hv : vOk (nwR ρ' o k g n j q 40) (nwR ρ' o k g n j q 43) 8 2 (nI o) := by
        refine Or.inr (Or.inr ⟨rfl, o, ⟨ho, ?_⟩, rfl, ?_⟩)
        · have : nwR ρ' o k g n j q 40 o = nI k := by unfold nwR; simp (disch := omega) only [forall_eq, true_and, and_true, and_self, not_true_eq_false, not_false_eq_true, false_imp_iff, true_imp_iff, imp_self, implies_true, ne_eq, reduceIte, cl, cl0, cl1, cl2, vpn, vp0, le8, le16, le40, le640, le1400, le6400, lt8, lt16, le15, le2, nI_leI, nI_ltI, nI_eq, nI_1, nI_add, n_le0, n_lt0, n_0le, n_eq0, n_eq1, n_eq2, n_m1, n_m1r, Nat.reduceEqDiff, Nat.reduceAdd, Int32.add_zero, nI_pred, div16, mul15, mul40, mul16, mul640, mulr16, xu_s, xu_c, xu_k, xu_cc, rows_xu, xf_s, xf_c, rows_xf, xul_c, rows_xul, xul_L, lgc, upd_s]
          rw [this]
          exact fun x => (n_m1 (by omega)).mp x
        · have : nwR ρ' o k g n j q 43 o = nI j := by unfold nwR; simp (disch := omega) only [forall_eq, true_and, and_true, and_self, not_true_eq_false, not_false_eq_true, false_imp_iff, true_imp_iff, imp_self, implies_true, ne_eq, reduceIte, cl, cl0, cl1, cl2, vpn, vp0, le8, le16, le40, le640, le1400, le6400, lt8, lt16, le15, le2, nI_leI, nI_ltI, nI_eq, nI_1, nI_add, n_le0, n_lt0, n_0le, n_eq0, n_eq1, n_eq2, n_m1, n_m1r, Nat.reduceEqDiff, Nat.reduceAdd, Int32.add_zero, nI_pred, div16, mul15, mul40, mul16, mul640, mulr16, xu_s, xu_c, xu_k, xu_cc, rows_xu, xf_s, xf_c, rows_xf, xul_c, rows_xul, xul_L, lgc, upd_s]
          rw [this, cl (by omega)]; omega
      have hR := Inv2_root i hi 2 (nI o) hv hN
      rw [tr_2, cl (by omega), e44'] at hR
      refine RE_CF_Inv hR ⟨fun d h1 h2 h3 => ?_, fun x h1 h2 => ?_⟩ (fun d hd => ?_)
      · by_cases x55 : d = 55
        · subst x55; simp (disch := omega) only [forall_eq, true_and, and_true, and_self, not_true_eq_false, not_false_eq_true, false_imp_iff, true_imp_iff, imp_self, implies_true, ne_eq, reduceIte, cl, cl0, cl1, cl2, vpn, vp0, le8, le16, le40, le640, le1400, le6400, lt8, lt16, le15, le2, nI_leI, nI_ltI, nI_eq, nI_1, nI_add, n_le0, n_lt0, n_0le, n_eq0, n_eq1, n_eq2, n_m1, n_m1r, Nat.reduceEqDiff, Nat.reduceAdd, Int32.add_zero, nI_pred, div16, mul15, mul40, mul16, mul640, mulr16, xu_s, xu_c, xu_k, xu_cc, rows_xu, xf_s, xf_c, rows_xf, xul_c, rows_xul, xul_L, lgc]; rw [hE'.1 55 (by decide) (by decide) (by decide)]
        · rw [xu_c _ _ _ _ x55, xu_c _ _ _ _ x55]
          by_cases x54 : d = 54
          · subst x54; simp (disch := omega) only [forall_eq, true_and, and_true, and_self, not_true_eq_false, not_false_eq_true, false_imp_iff, true_imp_iff, imp_self, implies_true, ne_eq, reduceIte, cl, cl0, cl1, cl2, vpn, vp0, le8, le16, le40, le640, le1400, le6400, lt8, lt16, le15, le2, nI_leI, nI_ltI, nI_eq, nI_1, nI_add, n_le0, n_lt0, n_0le, n_eq0, n_eq1, n_eq2, n_m1, n_m1r, Nat.reduceEqDiff, Nat.reduceAdd, Int32.add_zero, nI_pred, div16, mul15, mul40, mul16, mul640, mulr16, xu_s, xu_c, xu_k, xu_cc, rows_xu, xf_s, xf_c, rows_xf, xul_c, rows_xul, xul_L, lgc]; rw [hE'.1 54 (by decide) (by decide) (by decide)]
          · rw [xu_c _ _ _ _ x54, xu_c _ _ _ _ x54]; exact hE'.1 d h1 h2 h3
      · simp (disch := omega) only [forall_eq, true_and, and_true, and_self, not_true_eq_false, not_false_eq_true, false_imp_iff, true_imp_iff, imp_self, implies_true, ne_eq, reduceIte, cl, cl0, cl1, cl2, vpn, vp0, le8, le16, le40, le640, le1400, le6400, lt8, lt16, le15, le2, nI_leI, nI_ltI, nI_eq, nI_1, nI_add, n_le0, n_lt0, n_0le, n_eq0, n_eq1, n_eq2, n_m1, n_m1r, Nat.reduceEqDiff, Nat.reduceAdd, Int32.add_zero, nI_pred, div16, mul15, mul40, mul16, mul640, mulr16, xu_s, xu_c, xu_k, xu_cc, rows_xu, xf_s, xf_c, rows_xf, xul_c, rows_xul, xul_L, lgc]; exact hE'.2 x h1 h2
      · rw [xu_c _ _ _ _ (by omega), xu_c _ _ _ _ (by omega), hf d (by omega)]; exact hc d hd
  · exfalso
    rcases hT with ⟨b1, b2, _⟩ | ⟨b0, p, b1, b2, _⟩
    · have := hno.1; omega
    · exact hno.2 p b1 b2
theorem mk_none {t : Nat} {σ ρ τ : xS} {i j k g n : Nat} (hI : Inv2 t σ ρ) (hj : j < rN ρ) (hN : noR ρ j (n + 1)) (hn : n < 16) (hE : RE ρ τ)
    (hc : ∀ d, (d < 30 ∨ (32 ≤ d ∧ d < 40)) → τ d = σ d) (h0 : τ 31 0 = 0) (h30 : xL (τ 30) 0 = (-1 : Int32).toInt64) : p_Mod_make_J121 (mkQ (Inv t)) (nI i) (nI j) (nI k) (nI g) (nI n) τ := by
  have hR8 : rN ρ ≤ 8 := hI.1.2.2.2.2.2.1.2.1
  unfold p_Mod_make_J121
  simp (disch := omega) only [forall_eq, true_and, and_true, and_self, not_true_eq_false, not_false_eq_true, false_imp_iff, true_imp_iff, imp_self, implies_true, ne_eq, reduceIte, cl, cl0, cl1, cl2, vpn, vp0, le8, le16, le40, le640, le1400, le6400, lt8, lt16, le15, le2, nI_leI, nI_ltI, nI_eq, nI_1, nI_add, n_le0, n_lt0, n_0le, n_eq0, n_eq1, n_eq2, n_m1, n_m1r, Nat.reduceEqDiff, Nat.reduceAdd, Int32.add_zero, nI_pred, div16, mul15, mul40, mul16, mul640, mulr16, xu_s, xu_c, xu_k, xu_cc, rows_xu, xf_s, xf_c, rows_xf, xul_c, rows_xul, xul_L, lgc]
  refine tk_find (Inv2_TR hI) hj ⟨by omega, by omega⟩ (R4_of hE) _ (fun σ1 ρ1 q1 hT1 => ?_) (fun hno => ?_)
  · exfalso
    rcases hT1 with ⟨b1, b2, _⟩ | ⟨b0, p, b1, b2, _⟩
    · have := hN.1; omega
    · exact hN.2 p b1 b2
  · simp (disch := omega) only [forall_eq, true_and, and_true, and_self, not_true_eq_false, not_false_eq_true, false_imp_iff, true_imp_iff, imp_self, implies_true, ne_eq, reduceIte, cl, cl0, cl1, cl2, vpn, vp0, le8, le16, le40, le640, le1400, le6400, lt8, lt16, le15, le2, nI_leI, nI_ltI, nI_eq, nI_1, nI_add, n_le0, n_lt0, n_0le, n_eq0, n_eq1, n_eq2, n_m1, n_m1r, Nat.reduceEqDiff, Nat.reduceAdd, Int32.add_zero, nI_pred, div16, mul15, mul40, mul16, mul640, mulr16, xu_s, xu_c, xu_k, xu_cc, rows_xu, xf_s, xf_c, rows_xf, xul_c, rows_xul, xul_L, lgc]
    exact mkQ_i h0 h30 (RE_CF_Inv hI hE hc)
theorem fd_y {σ ρ σ' ρ' τ : xS} {r s q : Nat} (hT : TR σ ρ) (hr : r < rN ρ) (hs : 1 ≤ s ∧ s ≤ 16) (h4 : R4 ρ τ) (hk : Tk σ ρ r s σ' ρ' q) (Q : Int32 → xS → Prop) (hy : ∀ q', q' + s ≤ 640 → Q (nI q') τ) : p_Mod_find (nI r) (nI s) τ Q :=
  tk_find hT hr hs h4 Q (fun _ _ q1 hk1 => hy q1 (Tk_ok hT hr hs hk1).2.1) (fun hno => by
    exfalso
    rcases hk with ⟨b1, b2, _⟩ | ⟨b0, p, b1, b2, _⟩
    · have := hno.1; omega
    · exact hno.2 p b1 b2)
theorem fd_n {σ ρ τ : xS} {r s : Nat} (hT : TR σ ρ) (hr : r < rN ρ) (hs : 1 ≤ s ∧ s ≤ 16) (h4 : R4 ρ τ) (hk : noR ρ r s) (Q : Int32 → xS → Prop) (hn : Q (-1) τ) : p_Mod_find (nI r) (nI s) τ Q :=
  tk_find hT hr hs h4 Q (fun _ _ q1 hk1 => by
    exfalso
    rcases hk1 with ⟨b1, b2, _⟩ | ⟨b0, p, b1, b2, _⟩
    · have := hk.1; omega
    · exact hk.2 p b1 b2) (fun _ => hn)
def mkG (t L : Nat) (x4 x1 x2 x3 x4' x5 : Int32) (v : Int32) (σF : xS) : Prop := vp_in 0 1 ∧ vp_in (x4 + 1) L ∧ vp_in (x4 + 2) L ∧ vp_in (x4 + 3) L ∧ vp_in (x4 + 4) L ∧ vp_in (x4 + 5) L ∧ p_Mod_make x1 x2 x3 x4' x5 (xul σF 30 (0 : Int32).toNatClampNeg v.toInt64) (mkQ (Inv (t + 1)))
theorem r7_N (ρ : xS) (r : Nat) (dd : Nat → Nat) (N : Nat) : rN (r7 ρ r dd N) = rN ρ := by
  have : r7 ρ r dd N 31 13 = ρ 31 13 := by
    have e : r7 ρ r dd N 31 = f31 ρ r dd N := by unfold r7; simp (disch := omega) only [forall_eq, true_and, and_true, and_self, not_true_eq_false, not_false_eq_true, false_imp_iff, true_imp_iff, imp_self, implies_true, ne_eq, reduceIte, cl, cl0, cl1, cl2, vpn, vp0, le8, le16, le40, le640, le1400, le6400, lt8, lt16, le15, le2, nI_leI, nI_ltI, nI_eq, nI_1, nI_add, n_le0, n_lt0, n_0le, n_eq0, n_eq1, n_eq2, n_m1, n_m1r, Nat.reduceEqDiff, Nat.reduceAdd, Int32.add_zero, nI_pred, div16, mul15, mul40, mul16, mul640, mulr16, xu_s, xu_c, xu_k, xu_cc, rows_xu, xf_s, xf_c, rows_xf, xul_c, rows_xul, xul_L, lgc]
    rw [e]
    unfold f31
    rw [upd_n _ _ (by decide), upd_n _ _ (by decide), upd_n _ _ (by decide), r4_d _ _ _ _ (by decide), r2_31 _ _ _ _ (by decide)]
  unfold rN
  rw [this]
theorem k_6 (xs : Nat → Int32) (L : Nat) (x4 : Int32) (t : Nat) (σ : xS) (ht : t < 512) (hI : Inv t σ) (hL : lawOk L x4) : o_6 xs L x4 σ (Inv (t + 1)) := by
  have hI' := Inv_nop t σ ht hI
  have hI2 : Inv2 (t + 1) σ σ := Inv2_s.mpr hI'
  obtain ⟨⟨h1, h2, h3, h4, h5, h6, h7, h8, h9⟩, c1, c2, c3, c4, c5, c6, c7⟩ := id hI'
  obtain ⟨R, hR, hR8⟩ : ∃ r, σ 31 13 = nI r ∧ r ≤ 8 := ⟨_, h6.1, h6.2.1⟩
  have hR7 : σ 7 4 = nI R := by rw [c3.1, hR]
  have eR : rN σ = R := by unfold rN; rw [hR, cl (by omega)]
  unfold o_6 p_Law_make
  generalize xs (x4 + 1).toNatClampNeg = x1
  generalize xs (x4 + 2).toNatClampNeg = x2
  generalize xs (x4 + 3).toNatClampNeg = x3
  generalize xs (x4 + 4).toNatClampNeg = x4'
  generalize xs (x4 + 5).toNatClampNeg = x5
  obtain ⟨l1, l2, l3, l4, l5⟩ := hL
  refine ⟨l1, l2, l3, l4, l5, ?_⟩
  rcases root_cases x1 with h | ⟨i, hi, rfl⟩
  · have h : badRoot x1 := h
    right; left
    refine ⟨Or.inl ((e_qrN h _ _).mpr rfl), l1, l2, l3, l4, l5, mk_any _ (fun y => ?_)⟩
    unfold p_Mod_make_J57 p_Mod_thrown
    rw [e_isRootN h, e_goes1]
    simp (disch := omega) only [forall_eq, true_and, and_true, and_self, not_true_eq_false, not_false_eq_true, false_imp_iff, true_imp_iff, imp_self, implies_true, ne_eq, reduceIte, cl, cl0, cl1, cl2, vpn, vp0, le8, le16, le40, le640, le1400, le6400, lt8, lt16, le15, le2, nI_leI, nI_ltI, nI_eq, nI_1, nI_add, n_le0, n_lt0, n_0le, n_eq0, n_eq1, n_eq2, n_m1, n_m1r, Nat.reduceEqDiff, Nat.reduceAdd, Int32.add_zero, nI_pred, div16, mul15, mul40, mul16, mul640, mulr16, xu_s, xu_c, xu_k, xu_cc, rows_xu, xf_s, xf_c, rows_xf, xul_c, rows_xul, xul_L, lgc, n10]
    exact Inv_thr _ _ _ hI'
  have bad : (badReg x2 R ∨ badShape x3 x4' x5) → (q_Rp_make (nI i) x2 x3 x4' x5 σ "java/lang/IllegalArgumentException") := fun hb => by
    refine Or.inr ((e_cr hi _ _).mpr ?_)
    rcases reg_cases x2 (r := R) (by omega) with h | ⟨j, hj, rfl⟩
    · exact Or.inl ((e_qrgN h hR7 _).mpr rfl)
    · right
      rw [e_crg hR8 hj hR7]
      rcases hb with hb | hb
      · exfalso
        rcases hb with hb | hb
        · exact nI_pos (by omega) hb
        · have := (nI_leI (by omega) (by omega)).mp hb.2; omega
      · exact Or.inl (e_qsN hb _)
  by_cases hbad : badReg x2 R ∨ badShape x3 x4' x5
  · right; right
    refine ⟨bad hbad, l1, l2, l3, l4, l5, mk_bad (R := R) hR hbad _ ?_⟩
    unfold p_Mod_make_J57 p_Mod_thrown
    rw [e_isRoot hi, e_goes2]
    simp (disch := omega) only [forall_eq, true_and, and_true, and_self, not_true_eq_false, not_false_eq_true, false_imp_iff, true_imp_iff, imp_self, implies_true, ne_eq, reduceIte, cl, cl0, cl1, cl2, vpn, vp0, le8, le16, le40, le640, le1400, le6400, lt8, lt16, le15, le2, nI_leI, nI_ltI, nI_eq, nI_1, nI_add, n_le0, n_lt0, n_0le, n_eq0, n_eq1, n_eq2, n_m1, n_m1r, Nat.reduceEqDiff, Nat.reduceAdd, Int32.add_zero, nI_pred, div16, mul15, mul40, mul16, mul640, mulr16, xu_s, xu_c, xu_k, xu_cc, rows_xu, xf_s, xf_c, rows_xf, xul_c, rows_xul, xul_L, lgc, n10, n20]
    exact Inv_thr _ _ _ hI'
  rcases reg_cases x2 (r := R) (by omega) with h | ⟨j, hj, rfl⟩
  · exact absurd (Or.inl h) hbad
  rcases shape_cases x3 x4' x5 with h | ⟨k, g, n, hk, hg, hn, hkn, rfl, rfl, rfl⟩
  · exact absurd (Or.inr h) hbad
  left
  unfold p_Rp_make
  rw [e_cr hi, e_crg hR8 hj hR7, e_cs hk hg hn hkn]
  show p_Rp_placesAfterCollecting (nI j) (nI n + 1) σ (fun r5 σ4 => ((¬ r5 = (-1) → p_Hea_found r5 (nI k) (nI g) (nI n) σ4 (fun σ7 => p_Val_setReference_5 (nI i) r5 σ7 (fun σ8 => mkG t L x4 (nI i) (nI j) (nI k) (nI g) (nI n) r5 σ8))) ∧ (r5 = (-1) → mkG t L x4 (nI i) (nI j) (nI k) (nI g) (nI n) (-1) σ4)))
  have start : ∀ (σF : xS) (v : Int32), (∀ d, (d = 30 ∨ d = 31 ∨ 40 ≤ d) → σF d = σ d) → (∀ τ, RE σ τ → (∀ d, (d < 30 ∨ (32 ≤ d ∧ d < 40)) → τ d = σF d) → τ 31 0 = 0 → xL (τ 30) 0 = v.toInt64 → p_Mod_find (nI j) (nI (n + 1)) τ (fun r10 σ9 => ((¬ r10 = (-1) → p_Mod_make_J97 (mkQ (Inv (t + 1))) (nI i) (nI j) (nI k) (nI g) (nI n) σ9) ∧ (r10 = (-1) → p_Mod_collectFrom (nI j) σ9 (fun r27 σ26 => p_Mod_make_J97 (mkQ (Inv (t + 1))) (nI i) (nI j) (nI k) (nI g) (nI n) σ26))))) →
      mkG t L x4 (nI i) (nI j) (nI k) (nI g) (nI n) v σF := fun σF v hF hgo => by
    refine ⟨(vp0 (by decide) (by decide)).mpr trivial, l1, l2, l3, l4, l5, mk_good hR8 hj ?_ hk hg hn hkn _ ?_⟩
    · simp (disch := omega) only [forall_eq, true_and, and_true, and_self, not_true_eq_false, not_false_eq_true, false_imp_iff, true_imp_iff, imp_self, implies_true, ne_eq, reduceIte, cl, cl0, cl1, cl2, vpn, vp0, le8, le16, le40, le640, le1400, le6400, lt8, lt16, le15, le2, nI_leI, nI_ltI, nI_eq, nI_1, nI_add, n_le0, n_lt0, n_0le, n_eq0, n_eq1, n_eq2, n_m1, n_m1r, Nat.reduceEqDiff, Nat.reduceAdd, Int32.add_zero, nI_pred, div16, mul15, mul40, mul16, mul640, mulr16, xu_s, xu_c, xu_k, xu_cc, rows_xu, xf_s, xf_c, rows_xf, xul_c, rows_xul, xul_L, lgc]; rw [hF 31 (by omega)]; exact hR
    · unfold p_Mod_make_J57
      rw [e_isRoot hi, e_goes]
      simp (disch := omega) only [forall_eq, true_and, and_true, and_self, not_true_eq_false, not_false_eq_true, false_imp_iff, true_imp_iff, imp_self, implies_true, ne_eq, reduceIte, cl, cl0, cl1, cl2, vpn, vp0, le8, le16, le40, le640, le1400, le6400, lt8, lt16, le15, le2, nI_leI, nI_ltI, nI_eq, nI_1, nI_add, n_le0, n_lt0, n_0le, n_eq0, n_eq1, n_eq2, n_m1, n_m1r, Nat.reduceEqDiff, Nat.reduceAdd, Int32.add_zero, nI_pred, div16, mul15, mul40, mul16, mul640, mulr16, xu_s, xu_c, xu_k, xu_cc, rows_xu, xf_s, xf_c, rows_xf, xul_c, rows_xul, xul_L, lgc, n10]
      refine hgo _ ⟨fun d h1 h2 h3 => ?_, fun x h1 h2 => ?_⟩ (fun d hd => ?_) ?_ ?_
      · simp (disch := omega) only [forall_eq, true_and, and_true, and_self, not_true_eq_false, not_false_eq_true, false_imp_iff, true_imp_iff, imp_self, implies_true, ne_eq, reduceIte, cl, cl0, cl1, cl2, vpn, vp0, le8, le16, le40, le640, le1400, le6400, lt8, lt16, le15, le2, nI_leI, nI_ltI, nI_eq, nI_1, nI_add, n_le0, n_lt0, n_0le, n_eq0, n_eq1, n_eq2, n_m1, n_m1r, Nat.reduceEqDiff, Nat.reduceAdd, Int32.add_zero, nI_pred, div16, mul15, mul40, mul16, mul640, mulr16, xu_s, xu_c, xu_k, xu_cc, rows_xu, xf_s, xf_c, rows_xf, xul_c, rows_xul, xul_L, lgc]; exact hF d (by omega)
      · simp (disch := omega) only [forall_eq, true_and, and_true, and_self, not_true_eq_false, not_false_eq_true, false_imp_iff, true_imp_iff, imp_self, implies_true, ne_eq, reduceIte, cl, cl0, cl1, cl2, vpn, vp0, le8, le16, le40, le640, le1400, le6400, lt8, lt16, le15, le2, nI_leI, nI_ltI, nI_eq, nI_1, nI_add, n_le0, n_lt0, n_0le, n_eq0, n_eq1, n_eq2, n_m1, n_m1r, Nat.reduceEqDiff, Nat.reduceAdd, Int32.add_zero, nI_pred, div16, mul15, mul40, mul16, mul640, mulr16, xu_s, xu_c, xu_k, xu_cc, rows_xu, xf_s, xf_c, rows_xf, xul_c, rows_xul, xul_L, lgc]; rw [hF 31 (by omega)]
      · simp (disch := omega) only [forall_eq, true_and, and_true, and_self, not_true_eq_false, not_false_eq_true, false_imp_iff, true_imp_iff, imp_self, implies_true, ne_eq, reduceIte, cl, cl0, cl1, cl2, vpn, vp0, le8, le16, le40, le640, le1400, le6400, lt8, lt16, le15, le2, nI_leI, nI_ltI, nI_eq, nI_1, nI_add, n_le0, n_lt0, n_0le, n_eq0, n_eq1, n_eq2, n_m1, n_m1r, Nat.reduceEqDiff, Nat.reduceAdd, Int32.add_zero, nI_pred, div16, mul15, mul40, mul16, mul640, mulr16, xu_s, xu_c, xu_k, xu_cc, rows_xu, xf_s, xf_c, rows_xf, xul_c, rows_xul, xul_L, lgc]
      · simp (disch := omega) only [forall_eq, true_and, and_true, and_self, not_true_eq_false, not_false_eq_true, false_imp_iff, true_imp_iff, imp_self, implies_true, ne_eq, reduceIte, cl, cl0, cl1, cl2, vpn, vp0, le8, le16, le40, le640, le1400, le6400, lt8, lt16, le15, le2, nI_leI, nI_ltI, nI_eq, nI_1, nI_add, n_le0, n_lt0, n_0le, n_eq0, n_eq1, n_eq2, n_m1, n_m1r, Nat.reduceEqDiff, Nat.reduceAdd, Int32.add_zero, nI_pred, div16, mul15, mul40, mul16, mul640, mulr16, xu_s, xu_c, xu_k, xu_cc, rows_xu, xf_s, xf_c, rows_xf, xul_c, rows_xul, xul_L, lgc]
      · simp (disch := omega) only [forall_eq, true_and, and_true, and_self, not_true_eq_false, not_false_eq_true, false_imp_iff, true_imp_iff, imp_self, implies_true, ne_eq, reduceIte, cl, cl0, cl1, cl2, vpn, vp0, le8, le16, le40, le640, le1400, le6400, lt8, lt16, le15, le2, nI_leI, nI_ltI, nI_eq, nI_1, nI_add, n_le0, n_lt0, n_0le, n_eq0, n_eq1, n_eq2, n_m1, n_m1r, Nat.reduceEqDiff, Nat.reduceAdd, Int32.add_zero, nI_pred, div16, mul15, mul40, mul16, mul640, mulr16, xu_s, xu_c, xu_k, xu_cc, rows_xu, xf_s, xf_c, rows_xf, xul_c, rows_xul, xul_L, lgc]
  have fin : ∀ (σk ρk σ' ρ' : xS) (q : Nat), Inv2 (t + 1) σk ρk → rN ρk = R → Tk σk ρk j (n + 1) σ' ρ' q → (∀ d, (d = 30 ∨ d = 31 ∨ 40 ≤ d) → σk d = σ d) → (∀ τ, RE σ τ → τ 31 0 = 0 → xL (τ 30) 0 = (nI q).toInt64 → (∀ d, (d < 30 ∨ (32 ≤ d ∧ d < 40)) → τ d = xu (xu (nwC σ' q n (hdI (nI k) (nI g) (nI n))) 17 i 2) 18 i (nI q) d) → p_Mod_find (nI j) (nI (n + 1)) τ (fun r10 σ9 => ((¬ r10 = (-1) → p_Mod_make_J97 (mkQ (Inv (t + 1))) (nI i) (nI j) (nI k) (nI g) (nI n) σ9) ∧ (r10 = (-1) → p_Mod_collectFrom (nI j) σ9 (fun r27 σ26 => p_Mod_make_J97 (mkQ (Inv (t + 1))) (nI i) (nI j) (nI k) (nI g) (nI n) σ26))))) →
      p_Hea_found (nI q) (nI k) (nI g) (nI n) σ' (fun σ7 => p_Val_setReference_5 (nI i) (nI q) σ7 (fun σ8 => mkG t L x4 (nI i) (nI j) (nI k) (nI g) (nI n) (nI q) σ8)) := fun σk ρk σ' ρ' q hIk hRk hTk hFk hgo => by
    have hq := (Tk_ok (Inv2_TR hIk) (by omega) ⟨by omega, by omega⟩ hTk).2.1
    have hfr := (Tk_fr hTk (by omega)).1
    refine e_found (by omega) hk hg hn _ ?_
    unfold p_Val_setReference_5 p_Val_assign_5
    simp (disch := omega) only [forall_eq, true_and, and_true, and_self, not_true_eq_false, not_false_eq_true, false_imp_iff, true_imp_iff, imp_self, implies_true, ne_eq, reduceIte, cl, cl0, cl1, cl2, vpn, vp0, le8, le16, le40, le640, le1400, le6400, lt8, lt16, le15, le2, nI_leI, nI_ltI, nI_eq, nI_1, nI_add, n_le0, n_lt0, n_0le, n_eq0, n_eq1, n_eq2, n_m1, n_m1r, Nat.reduceEqDiff, Nat.reduceAdd, Int32.add_zero, nI_pred, div16, mul15, mul40, mul16, mul640, mulr16, xu_s, xu_c, xu_k, xu_cc, rows_xu, xf_s, xf_c, rows_xf, xul_c, rows_xul, xul_L, lgc]
    refine start _ _ (fun d hd => ?_) (fun τ hE hc h0 h30 => hgo τ hE h0 h30 hc)
    unfold nwC hp2
    rw [xu_c _ _ _ _ (by omega), xu_c _ _ _ _ (by omega), xf_c _ _ _ (by omega), xf_c _ _ _ (by omega), hfr d (by omega) (by omega) (by omega) (by omega)]
    exact hFk d hd
  have hs : 1 ≤ n + 1 ∧ n + 1 ≤ 16 := ⟨by omega, by omega⟩
  have hj' : j < rN σ := by omega
  have j97y : ∀ (σk ρk σ' ρ' τ : xS) (q : Nat), Inv2 (t + 1) σk ρk → rN ρk = R → Tk σk ρk j (n + 1) σ' ρ' q → RE ρk τ → (∀ d, (d < 30 ∨ (32 ≤ d ∧ d < 40)) → τ d = xu (xu (nwC σ' q n (hdI (nI k) (nI g) (nI n))) 17 i 2) 18 i (nI q) d) → τ 31 0 = 0 → xL (τ 30) 0 = (nI q).toInt64 → p_Mod_make_J97 (mkQ (Inv (t + 1))) (nI i) (nI j) (nI k) (nI g) (nI n) τ := fun σk ρk σ' ρ' τ q hIk hRk hTk hE hc h0 h30 => by
    unfold p_Mod_make_J97
    simp (disch := omega) only [forall_eq, true_and, and_true, and_self, not_true_eq_false, not_false_eq_true, false_imp_iff, true_imp_iff, imp_self, implies_true, ne_eq, reduceIte, cl, cl0, cl1, cl2, vpn, vp0, le8, le16, le40, le640, le1400, le6400, lt8, lt16, le15, le2, nI_leI, nI_ltI, nI_eq, nI_1, nI_add, n_le0, n_lt0, n_0le, n_eq0, n_eq1, n_eq2, n_m1, n_m1r, Nat.reduceEqDiff, Nat.reduceAdd, Int32.add_zero, nI_pred, div16, mul15, mul40, mul16, mul640, mulr16, xu_s, xu_c, xu_k, xu_cc, rows_xu, xf_s, xf_c, rows_xf, xul_c, rows_xul, xul_L, lgc]
    refine fd_y (Inv2_TR hIk) (by omega) hs (R4_of hE) hTk _ (fun q' hq' => ?_)
    simp (disch := omega) only [forall_eq, true_and, and_true, and_self, not_true_eq_false, not_false_eq_true, false_imp_iff, true_imp_iff, imp_self, implies_true, ne_eq, reduceIte, cl, cl0, cl1, cl2, vpn, vp0, le8, le16, le40, le640, le1400, le6400, lt8, lt16, le15, le2, nI_leI, nI_ltI, nI_eq, nI_1, nI_add, n_le0, n_lt0, n_0le, n_eq0, n_eq1, n_eq2, n_m1, n_m1r, Nat.reduceEqDiff, Nat.reduceAdd, Int32.add_zero, nI_pred, div16, mul15, mul40, mul16, mul640, mulr16, xu_s, xu_c, xu_k, xu_cc, rows_xu, xf_s, xf_c, rows_xf, xul_c, rows_xul, xul_L, lgc]
    exact mk_end hi hIk (by omega) hTk hk hg hn hkn hE hc h0 h30
  unfold p_Rp_placesAfterCollecting p_Rp_placesAfterCollecting_J40
  simp (disch := omega) only [forall_eq, true_and, and_true, and_self, not_true_eq_false, not_false_eq_true, false_imp_iff, true_imp_iff, imp_self, implies_true, ne_eq, reduceIte, cl, cl0, cl1, cl2, vpn, vp0, le8, le16, le40, le640, le1400, le6400, lt8, lt16, le15, le2, nI_leI, nI_ltI, nI_eq, nI_1, nI_add, n_le0, n_lt0, n_0le, n_eq0, n_eq1, n_eq2, n_m1, n_m1r, Nat.reduceEqDiff, Nat.reduceAdd, Int32.add_zero, nI_pred, div16, mul15, mul40, mul16, mul640, mulr16, xu_s, xu_c, xu_k, xu_cc, rows_xu, xf_s, xf_c, rows_xf, xul_c, rows_xul, xul_L, lgc]
  refine tk_C (Inv2_TR hI2) hj' hs _ (fun σ' ρ' q hT => ?_) (fun hN0 => ?_)
  · have hq := (Tk_ok (Inv2_TR hI2) hj' hs hT).2.1
    simp (disch := omega) only [forall_eq, true_and, and_true, and_self, not_true_eq_false, not_false_eq_true, false_imp_iff, true_imp_iff, imp_self, implies_true, ne_eq, reduceIte, cl, cl0, cl1, cl2, vpn, vp0, le8, le16, le40, le640, le1400, le6400, lt8, lt16, le15, le2, nI_leI, nI_ltI, nI_eq, nI_1, nI_add, n_le0, n_lt0, n_0le, n_eq0, n_eq1, n_eq2, n_m1, n_m1r, Nat.reduceEqDiff, Nat.reduceAdd, Int32.add_zero, nI_pred, div16, mul15, mul40, mul16, mul640, mulr16, xu_s, xu_c, xu_k, xu_cc, rows_xu, xf_s, xf_c, rows_xf, xul_c, rows_xul, xul_L, lgc]
    refine fin σ σ σ' ρ' q hI2 eR hT (fun _ _ => rfl) (fun τ hE h0 h30 hc => ?_)
    refine fd_y (Inv2_TR hI2) hj' hs (R4_of hE) hT _ (fun q' hq' => ?_)
    simp (disch := omega) only [forall_eq, true_and, and_true, and_self, not_true_eq_false, not_false_eq_true, false_imp_iff, true_imp_iff, imp_self, implies_true, ne_eq, reduceIte, cl, cl0, cl1, cl2, vpn, vp0, le8, le16, le40, le640, le1400, le6400, lt8, lt16, le15, le2, nI_leI, nI_ltI, nI_eq, nI_1, nI_add, n_le0, n_lt0, n_0le, n_eq0, n_eq1, n_eq2, n_m1, n_m1r, Nat.reduceEqDiff, Nat.reduceAdd, Int32.add_zero, nI_pred, div16, mul15, mul40, mul16, mul640, mulr16, xu_s, xu_c, xu_k, xu_cc, rows_xu, xf_s, xf_c, rows_xf, xul_c, rows_xul, xul_L, lgc]
    exact j97y σ σ σ' ρ' τ q hI2 eR hT hE hc h0 h30
  simp (disch := omega) only [forall_eq, true_and, and_true, and_self, not_true_eq_false, not_false_eq_true, false_imp_iff, true_imp_iff, imp_self, implies_true, ne_eq, reduceIte, cl, cl0, cl1, cl2, vpn, vp0, le8, le16, le40, le640, le1400, le6400, lt8, lt16, le15, le2, nI_leI, nI_ltI, nI_eq, nI_1, nI_add, n_le0, n_lt0, n_0le, n_eq0, n_eq1, n_eq2, n_m1, n_m1r, Nat.reduceEqDiff, Nat.reduceAdd, Int32.add_zero, nI_pred, div16, mul15, mul40, mul16, mul640, mulr16, xu_s, xu_c, xu_k, xu_cc, rows_xu, xf_s, xf_c, rows_xf, xul_c, rows_xul, xul_L, lgc]
  obtain ⟨w, wn, hW⟩ := DW_ex hI2
  have hD := DW_DD (r := j) (by omega) hI2 hW
  refine colC (by omega) hI2 hj' hW _ (fun σ1 hI1 hF1 => ?_)
  obtain ⟨ρ1, e1⟩ : ∃ ρ1, r7 σ j (ddW σ j w wn) (nnW σ j w wn) = ρ1 := ⟨_, rfl⟩
  have eR1 : rN ρ1 = R := by rw [← e1, r7_N]; exact eR
  rw [e1] at hI1
  have hj1 : j < rN ρ1 := by omega
  have colA : ∀ (τ : xS) (Q : xS → Prop), RE σ τ → (∀ τ', RE ρ1 τ' → CF τ τ' → Q τ') → p_Mod_find (nI j) (nI (n + 1)) τ (fun r10 σ9 => ((¬ r10 = (-1) → Q σ9) ∧ (r10 = (-1) → p_Mod_collectFrom (nI j) σ9 (fun r27 σ26 => Q σ26)))) := fun τ Q hE hgo => by
    refine fd_n (Inv2_TR hI2) hj' hs (R4_of hE) hN0 _ ?_
    simp (disch := omega) only [forall_eq, true_and, and_true, and_self, not_true_eq_false, not_false_eq_true, false_imp_iff, true_imp_iff, imp_self, implies_true, ne_eq, reduceIte, cl, cl0, cl1, cl2, vpn, vp0, le8, le16, le40, le640, le1400, le6400, lt8, lt16, le15, le2, nI_leI, nI_ltI, nI_eq, nI_1, nI_add, n_le0, n_lt0, n_0le, n_eq0, n_eq1, n_eq2, n_m1, n_m1r, Nat.reduceEqDiff, Nat.reduceAdd, Int32.add_zero, nI_pred, div16, mul15, mul40, mul16, mul640, mulr16, xu_s, xu_c, xu_k, xu_cc, rows_xu, xf_s, xf_c, rows_xf, xul_c, rows_xul, xul_L, lgc]
    refine colM (by omega) hI2 hD hj' hE _ (fun τ' hE' hC' => hgo τ' ?_ hC')
    rw [← e1]; exact hE'
  refine tk_C (Inv2_TR hI1) hj1 hs _ (fun σ' ρ' q hT => ?_) (fun hN1 => ?_)
  · have hq := (Tk_ok (Inv2_TR hI1) hj1 hs hT).2.1
    simp (disch := omega) only [forall_eq, true_and, and_true, and_self, not_true_eq_false, not_false_eq_true, false_imp_iff, true_imp_iff, imp_self, implies_true, ne_eq, reduceIte, cl, cl0, cl1, cl2, vpn, vp0, le8, le16, le40, le640, le1400, le6400, lt8, lt16, le15, le2, nI_leI, nI_ltI, nI_eq, nI_1, nI_add, n_le0, n_lt0, n_0le, n_eq0, n_eq1, n_eq2, n_m1, n_m1r, Nat.reduceEqDiff, Nat.reduceAdd, Int32.add_zero, nI_pred, div16, mul15, mul40, mul16, mul640, mulr16, xu_s, xu_c, xu_k, xu_cc, rows_xu, xf_s, xf_c, rows_xf, xul_c, rows_xul, xul_L, lgc]
    refine fin σ1 ρ1 σ' ρ' q hI1 eR1 hT hF1 (fun τ hE h0 h30 hc => ?_)
    refine colA τ _ hE (fun τ' hE' hC' => ?_)
    exact j97y σ1 ρ1 σ' ρ' τ' q hI1 eR1 hT hE' (fun d hd => by rw [hC'.1 d (by omega)]; exact hc d hd) (by rw [hC'.2]; exact h0) (by rw [hC'.1 30 (by omega)]; exact h30)
  simp (disch := omega) only [forall_eq, true_and, and_true, and_self, not_true_eq_false, not_false_eq_true, false_imp_iff, true_imp_iff, imp_self, implies_true, ne_eq, reduceIte, cl, cl0, cl1, cl2, vpn, vp0, le8, le16, le40, le640, le1400, le6400, lt8, lt16, le15, le2, nI_leI, nI_ltI, nI_eq, nI_1, nI_add, n_le0, n_lt0, n_0le, n_eq0, n_eq1, n_eq2, n_m1, n_m1r, Nat.reduceEqDiff, Nat.reduceAdd, Int32.add_zero, nI_pred, div16, mul15, mul40, mul16, mul640, mulr16, xu_s, xu_c, xu_k, xu_cc, rows_xu, xf_s, xf_c, rows_xf, xul_c, rows_xul, xul_L, lgc]
  by_cases j0 : j = 0
  · subst j0
    simp (disch := omega) only [forall_eq, true_and, and_true, and_self, not_true_eq_false, not_false_eq_true, false_imp_iff, true_imp_iff, imp_self, implies_true, ne_eq, reduceIte, cl, cl0, cl1, cl2, vpn, vp0, le8, le16, le40, le640, le1400, le6400, lt8, lt16, le15, le2, nI_leI, nI_ltI, nI_eq, nI_1, nI_add, n_le0, n_lt0, n_0le, n_eq0, n_eq1, n_eq2, n_m1, n_m1r, Nat.reduceEqDiff, Nat.reduceAdd, Int32.add_zero, nI_pred, div16, mul15, mul40, mul16, mul640, mulr16, xu_s, xu_c, xu_k, xu_cc, rows_xu, xf_s, xf_c, rows_xf, xul_c, rows_xul, xul_L, lgc]
    refine start σ1 (-1) hF1 (fun τ hE hc h0 h30 => ?_)
    refine colA τ _ hE (fun τ' hE' hC' => ?_)
    unfold p_Mod_make_J97
    simp (disch := omega) only [forall_eq, true_and, and_true, and_self, not_true_eq_false, not_false_eq_true, false_imp_iff, true_imp_iff, imp_self, implies_true, ne_eq, reduceIte, cl, cl0, cl1, cl2, vpn, vp0, le8, le16, le40, le640, le1400, le6400, lt8, lt16, le15, le2, nI_leI, nI_ltI, nI_eq, nI_1, nI_add, n_le0, n_lt0, n_0le, n_eq0, n_eq1, n_eq2, n_m1, n_m1r, Nat.reduceEqDiff, Nat.reduceAdd, Int32.add_zero, nI_pred, div16, mul15, mul40, mul16, mul640, mulr16, xu_s, xu_c, xu_k, xu_cc, rows_xu, xf_s, xf_c, rows_xf, xul_c, rows_xul, xul_L, lgc]
    refine fd_n (Inv2_TR hI1) hj1 hs (R4_of hE') hN1 _ ?_
    simp (disch := omega) only [forall_eq, true_and, and_true, and_self, not_true_eq_false, not_false_eq_true, false_imp_iff, true_imp_iff, imp_self, implies_true, ne_eq, reduceIte, cl, cl0, cl1, cl2, vpn, vp0, le8, le16, le40, le640, le1400, le6400, lt8, lt16, le15, le2, nI_leI, nI_ltI, nI_eq, nI_1, nI_add, n_le0, n_lt0, n_0le, n_eq0, n_eq1, n_eq2, n_m1, n_m1r, Nat.reduceEqDiff, Nat.reduceAdd, Int32.add_zero, nI_pred, div16, mul15, mul40, mul16, mul640, mulr16, xu_s, xu_c, xu_k, xu_cc, rows_xu, xf_s, xf_c, rows_xf, xul_c, rows_xul, xul_L, lgc]
    exact mk_none hI1 hj1 hN1 hn hE' (fun d hd => by rw [hC'.1 d (by omega)]; exact hc d hd) (by rw [hC'.2]; exact h0) (by rw [hC'.1 30 (by omega)]; exact h30)
  simp (disch := omega) only [forall_eq, true_and, and_true, and_self, not_true_eq_false, not_false_eq_true, false_imp_iff, true_imp_iff, imp_self, implies_true, ne_eq, reduceIte, cl, cl0, cl1, cl2, vpn, vp0, le8, le16, le40, le640, le1400, le6400, lt8, lt16, le15, le2, nI_leI, nI_ltI, nI_eq, nI_1, nI_add, n_le0, n_lt0, n_0le, n_eq0, n_eq1, n_eq2, n_m1, n_m1r, Nat.reduceEqDiff, Nat.reduceAdd, Int32.add_zero, nI_pred, div16, mul15, mul40, mul16, mul640, mulr16, xu_s, xu_c, xu_k, xu_cc, rows_xu, xf_s, xf_c, rows_xf, xul_c, rows_xul, xul_L, lgc, j0]
  obtain ⟨w2, wn2, hW2⟩ := DW_ex hI1
  have hD2 := DW_DD (r := 0) (by omega) hI1 hW2
  have h01 : 0 < rN ρ1 := by omega
  have z0 : (0 : Int32) = nI 0 := rfl
  rw [z0]
  refine colC (by omega) hI1 h01 hW2 _ (fun σ2 hI3 hF2 => ?_)
  obtain ⟨ρ2, e2⟩ : ∃ ρ2, r7 ρ1 0 (ddW ρ1 0 w2 wn2) (nnW ρ1 0 w2 wn2) = ρ2 := ⟨_, rfl⟩
  have eR2 : rN ρ2 = R := by rw [← e2, r7_N]; exact eR1
  rw [e2] at hI3
  have hj2 : j < rN ρ2 := by omega
  have hF2' : ∀ d, (d = 30 ∨ d = 31 ∨ 40 ≤ d) → σ2 d = σ d := fun d hd => by rw [hF2 d hd, hF1 d hd]
  have colB : ∀ (τ : xS), RE ρ1 τ → (∀ τ', RE ρ2 τ' → CF τ τ' → p_Mod_make_J121 (mkQ (Inv (t + 1))) (nI i) (nI j) (nI k) (nI g) (nI n) τ') → p_Mod_make_J97 (mkQ (Inv (t + 1))) (nI i) (nI j) (nI k) (nI g) (nI n) τ := fun τ hE hgo => by
    unfold p_Mod_make_J97
    simp (disch := omega) only [forall_eq, true_and, and_true, and_self, not_true_eq_false, not_false_eq_true, false_imp_iff, true_imp_iff, imp_self, implies_true, ne_eq, reduceIte, cl, cl0, cl1, cl2, vpn, vp0, le8, le16, le40, le640, le1400, le6400, lt8, lt16, le15, le2, nI_leI, nI_ltI, nI_eq, nI_1, nI_add, n_le0, n_lt0, n_0le, n_eq0, n_eq1, n_eq2, n_m1, n_m1r, Nat.reduceEqDiff, Nat.reduceAdd, Int32.add_zero, nI_pred, div16, mul15, mul40, mul16, mul640, mulr16, xu_s, xu_c, xu_k, xu_cc, rows_xu, xf_s, xf_c, rows_xf, xul_c, rows_xul, xul_L, lgc]
    refine fd_n (Inv2_TR hI1) hj1 hs (R4_of hE) hN1 _ ?_
    simp (disch := omega) only [forall_eq, true_and, and_true, and_self, not_true_eq_false, not_false_eq_true, false_imp_iff, true_imp_iff, imp_self, implies_true, ne_eq, reduceIte, cl, cl0, cl1, cl2, vpn, vp0, le8, le16, le40, le640, le1400, le6400, lt8, lt16, le15, le2, nI_leI, nI_ltI, nI_eq, nI_1, nI_add, n_le0, n_lt0, n_0le, n_eq0, n_eq1, n_eq2, n_m1, n_m1r, Nat.reduceEqDiff, Nat.reduceAdd, Int32.add_zero, nI_pred, div16, mul15, mul40, mul16, mul640, mulr16, xu_s, xu_c, xu_k, xu_cc, rows_xu, xf_s, xf_c, rows_xf, xul_c, rows_xul, xul_L, lgc, j0]
    rw [z0]
    refine colM (by omega) hI1 hD2 h01 hE _ (fun τ' hE' hC' => hgo τ' ?_ hC')
    rw [← e2]; exact hE'
  refine tk_C (Inv2_TR hI3) hj2 hs _ (fun σ' ρ' q hT => ?_) (fun hN2 => ?_)
  · have hq := (Tk_ok (Inv2_TR hI3) hj2 hs hT).2.1
    simp (disch := omega) only [forall_eq, true_and, and_true, and_self, not_true_eq_false, not_false_eq_true, false_imp_iff, true_imp_iff, imp_self, implies_true, ne_eq, reduceIte, cl, cl0, cl1, cl2, vpn, vp0, le8, le16, le40, le640, le1400, le6400, lt8, lt16, le15, le2, nI_leI, nI_ltI, nI_eq, nI_1, nI_add, n_le0, n_lt0, n_0le, n_eq0, n_eq1, n_eq2, n_m1, n_m1r, Nat.reduceEqDiff, Nat.reduceAdd, Int32.add_zero, nI_pred, div16, mul15, mul40, mul16, mul640, mulr16, xu_s, xu_c, xu_k, xu_cc, rows_xu, xf_s, xf_c, rows_xf, xul_c, rows_xul, xul_L, lgc]
    refine fin σ2 ρ2 σ' ρ' q hI3 eR2 hT hF2' (fun τ hE h0 h30 hc => ?_)
    refine colA τ _ hE (fun τ' hE' hC' => ?_)
    refine colB τ' hE' (fun τ'' hE'' hC'' => ?_)
    exact mk_end hi hI3 hj2 hT hk hg hn hkn hE'' (fun d hd => by rw [hC''.1 d (by omega), hC'.1 d (by omega)]; exact hc d hd) (by rw [hC''.2, hC'.2]; exact h0) (by rw [hC''.1 30 (by omega), hC'.1 30 (by omega)]; exact h30)
  · simp (disch := omega) only [forall_eq, true_and, and_true, and_self, not_true_eq_false, not_false_eq_true, false_imp_iff, true_imp_iff, imp_self, implies_true, ne_eq, reduceIte, cl, cl0, cl1, cl2, vpn, vp0, le8, le16, le40, le640, le1400, le6400, lt8, lt16, le15, le2, nI_leI, nI_ltI, nI_eq, nI_1, nI_add, n_le0, n_lt0, n_0le, n_eq0, n_eq1, n_eq2, n_m1, n_m1r, Nat.reduceEqDiff, Nat.reduceAdd, Int32.add_zero, nI_pred, div16, mul15, mul40, mul16, mul640, mulr16, xu_s, xu_c, xu_k, xu_cc, rows_xu, xf_s, xf_c, rows_xf, xul_c, rows_xul, xul_L, lgc]
    refine start σ2 (-1) hF2' (fun τ hE hc h0 h30 => ?_)
    refine colA τ _ hE (fun τ' hE' hC' => ?_)
    refine colB τ' hE' (fun τ'' hE'' hC'' => ?_)
    exact mk_none hI3 hj2 hN2 hn hE'' (fun d hd => by rw [hC''.1 d (by omega), hC'.1 d (by omega)]; exact hc d hd) (by rw [hC''.2, hC'.2]; exact h0) (by rw [hC''.1 30 (by omega), hC'.1 30 (by omega)]; exact h30)
