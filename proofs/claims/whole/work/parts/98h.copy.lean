theorem Tk_tr {σ ρ σ' ρ' : xS} {r s q : Nat} (h : Tk σ ρ r s σ' ρ' q) (hr : r < 8) (a b : xS) (h4 : R4 ρ b) (hc : ∀ d, d = 20 ∨ d = 22 ∨ d = 23 ∨ (32 ≤ d ∧ d < 40) → a d = σ d) : ∃ a' b', Tk a b r s a' b' q ∧ R4 ρ' b' ∧ (∀ d, d = 20 ∨ d = 22 ∨ d = 23 ∨ (32 ≤ d ∧ d < 40) → a' d = σ' d) := by
  obtain ⟨e50, e51, e52, e53⟩ := h4
  have em : mm b r = mm ρ r := by unfold mm; rw [e51]
  have et : tf b r = tf ρ r := by unfold tf; rw [e53]
  have er : ∀ k, rr b r k = rr ρ r k := fun k => by unfold rr; rw [e52]
  have xuc : ∀ (x y : xS) (c k : Nat) (v : Int32) (d : Nat), x d = y d → xu x c k v d = xu y c k v d := fun x y c k v d hd => by
    by_cases z : d = c
    · subst z; rw [xu_cc, xu_cc, hd]
    · rw [xu_c _ _ _ _ z, xu_c _ _ _ _ z]; exact hd
  rcases h with ⟨b1, b2, b3, rfl, rfl⟩ | ⟨b0, p, b1, b2, b3, b4, rfl, rfl⟩
  · refine ⟨xu a 23 r (nI (tf ρ r + s)), xu b 53 r (nI (tf ρ r + s)), Or.inl ⟨by rw [em]; exact b1, by rw [et]; exact b2, by rw [em, et, er]; exact b3, by rw [et], by rw [et]⟩, ⟨?_, ?_, ?_, ?_⟩, fun d hd => xuc _ _ _ _ _ d (hc d hd)⟩
    · simp (disch := omega) only [forall_eq, true_and, and_true, and_self, not_true_eq_false, not_false_eq_true, false_imp_iff, true_imp_iff, imp_self, implies_true, ne_eq, reduceIte, cl, cl0, cl1, cl2, vpn, vp0, le8, le16, le40, le640, le1400, le6400, lt8, lt16, le15, le2, nI_leI, nI_ltI, nI_eq, nI_1, nI_add, n_le0, n_lt0, n_0le, n_eq0, n_eq1, n_eq2, n_m1, n_m1r, Nat.reduceEqDiff, Nat.reduceAdd, Int32.add_zero, nI_pred, div16, mul15, mul40, mul16, mul640, mulr16, xu_s, xu_c, xu_k, xu_cc, rows_xu, xf_s, xf_c, rows_xf, xul_c, rows_xul, xul_L, lgc]; exact e50
    · simp (disch := omega) only [forall_eq, true_and, and_true, and_self, not_true_eq_false, not_false_eq_true, false_imp_iff, true_imp_iff, imp_self, implies_true, ne_eq, reduceIte, cl, cl0, cl1, cl2, vpn, vp0, le8, le16, le40, le640, le1400, le6400, lt8, lt16, le15, le2, nI_leI, nI_ltI, nI_eq, nI_1, nI_add, n_le0, n_lt0, n_0le, n_eq0, n_eq1, n_eq2, n_m1, n_m1r, Nat.reduceEqDiff, Nat.reduceAdd, Int32.add_zero, nI_pred, div16, mul15, mul40, mul16, mul640, mulr16, xu_s, xu_c, xu_k, xu_cc, rows_xu, xf_s, xf_c, rows_xf, xul_c, rows_xul, xul_L, lgc]; exact e51
    · simp (disch := omega) only [forall_eq, true_and, and_true, and_self, not_true_eq_false, not_false_eq_true, false_imp_iff, true_imp_iff, imp_self, implies_true, ne_eq, reduceIte, cl, cl0, cl1, cl2, vpn, vp0, le8, le16, le40, le640, le1400, le6400, lt8, lt16, le15, le2, nI_leI, nI_ltI, nI_eq, nI_1, nI_add, n_le0, n_lt0, n_0le, n_eq0, n_eq1, n_eq2, n_m1, n_m1r, Nat.reduceEqDiff, Nat.reduceAdd, Int32.add_zero, nI_pred, div16, mul15, mul40, mul16, mul640, mulr16, xu_s, xu_c, xu_k, xu_cc, rows_xu, xf_s, xf_c, rows_xf, xul_c, rows_xul, xul_L, lgc]; exact e52
    · simp (disch := omega) only [forall_eq, true_and, and_true, and_self, not_true_eq_false, not_false_eq_true, false_imp_iff, true_imp_iff, imp_self, implies_true, ne_eq, reduceIte, cl, cl0, cl1, cl2, vpn, vp0, le8, le16, le40, le640, le1400, le6400, lt8, lt16, le15, le2, nI_leI, nI_ltI, nI_eq, nI_1, nI_add, n_le0, n_lt0, n_0le, n_eq0, n_eq1, n_eq2, n_m1, n_m1r, Nat.reduceEqDiff, Nat.reduceAdd, Int32.add_zero, nI_pred, div16, mul15, mul40, mul16, mul640, mulr16, xu_s, xu_c, xu_k, xu_cc, rows_xu, xf_s, xf_c, rows_xf, xul_c, rows_xul, xul_L, lgc]; rw [e53]
  · refine ⟨xu (xu (xu (xu a 20 p (nI r)) (32 + r) (mm ρ r) (nI p)) 22 r (nI (mm ρ r + 1))) 23 r (nI s), xu (xu (xu (xu b 52 (40 * r + mm ρ r) (nI p)) 51 r (nI (mm ρ r + 1))) 50 p 1) 53 r (nI s), Or.inr ⟨by rw [em, et]; exact b0, p, b1, by rw [e50]; exact b2, fun p' hp' => by rw [e50]; exact b3 p' hp', b4, by rw [em], by rw [em]⟩, ⟨?_, ?_, ?_, ?_⟩, fun d hd => xuc _ _ _ _ _ d (xuc _ _ _ _ _ d (xuc _ _ _ _ _ d (xuc _ _ _ _ _ d (hc d hd))))⟩
    · simp (disch := omega) only [forall_eq, true_and, and_true, and_self, not_true_eq_false, not_false_eq_true, false_imp_iff, true_imp_iff, imp_self, implies_true, ne_eq, reduceIte, cl, cl0, cl1, cl2, vpn, vp0, le8, le16, le40, le640, le1400, le6400, lt8, lt16, le15, le2, nI_leI, nI_ltI, nI_eq, nI_1, nI_add, n_le0, n_lt0, n_0le, n_eq0, n_eq1, n_eq2, n_m1, n_m1r, Nat.reduceEqDiff, Nat.reduceAdd, Int32.add_zero, nI_pred, div16, mul15, mul40, mul16, mul640, mulr16, xu_s, xu_c, xu_k, xu_cc, rows_xu, xf_s, xf_c, rows_xf, xul_c, rows_xul, xul_L, lgc]; rw [e50]
    · simp (disch := omega) only [forall_eq, true_and, and_true, and_self, not_true_eq_false, not_false_eq_true, false_imp_iff, true_imp_iff, imp_self, implies_true, ne_eq, reduceIte, cl, cl0, cl1, cl2, vpn, vp0, le8, le16, le40, le640, le1400, le6400, lt8, lt16, le15, le2, nI_leI, nI_ltI, nI_eq, nI_1, nI_add, n_le0, n_lt0, n_0le, n_eq0, n_eq1, n_eq2, n_m1, n_m1r, Nat.reduceEqDiff, Nat.reduceAdd, Int32.add_zero, nI_pred, div16, mul15, mul40, mul16, mul640, mulr16, xu_s, xu_c, xu_k, xu_cc, rows_xu, xf_s, xf_c, rows_xf, xul_c, rows_xul, xul_L, lgc]; rw [e51]
    · simp (disch := omega) only [forall_eq, true_and, and_true, and_self, not_true_eq_false, not_false_eq_true, false_imp_iff, true_imp_iff, imp_self, implies_true, ne_eq, reduceIte, cl, cl0, cl1, cl2, vpn, vp0, le8, le16, le40, le640, le1400, le6400, lt8, lt16, le15, le2, nI_leI, nI_ltI, nI_eq, nI_1, nI_add, n_le0, n_lt0, n_0le, n_eq0, n_eq1, n_eq2, n_m1, n_m1r, Nat.reduceEqDiff, Nat.reduceAdd, Int32.add_zero, nI_pred, div16, mul15, mul40, mul16, mul640, mulr16, xu_s, xu_c, xu_k, xu_cc, rows_xu, xf_s, xf_c, rows_xf, xul_c, rows_xul, xul_L, lgc]; rw [e52]
    · simp (disch := omega) only [forall_eq, true_and, and_true, and_self, not_true_eq_false, not_false_eq_true, false_imp_iff, true_imp_iff, imp_self, implies_true, ne_eq, reduceIte, cl, cl0, cl1, cl2, vpn, vp0, le8, le16, le40, le640, le1400, le6400, lt8, lt16, le15, le2, nI_leI, nI_ltI, nI_eq, nI_1, nI_add, n_le0, n_lt0, n_0le, n_eq0, n_eq1, n_eq2, n_m1, n_m1r, Nat.reduceEqDiff, Nat.reduceAdd, Int32.add_zero, nI_pred, div16, mul15, mul40, mul16, mul640, mulr16, xu_s, xu_c, xu_k, xu_cc, rows_xu, xf_s, xf_c, rows_xf, xul_c, rows_xul, xul_L, lgc]; rw [e53]
theorem Inv2_56 {t : Nat} {σ ρ : xS} {x : Nat} {v : Int32} (h : Inv2 t σ ρ) (hx : oN ρ ≤ x) : Inv2 t σ (xu ρ 56 x v) := by
  unfold Inv2 at h ⊢
  obtain ⟨⟨h1, h2, h3, h4, h5, h6, h7, h8, h9⟩, c1, c2, c3, c4, c5, c6, c7⟩ := h
  simp (disch := omega) only [forall_eq, true_and, and_true, and_self, not_true_eq_false, not_false_eq_true, false_imp_iff, true_imp_iff, imp_self, implies_true, ne_eq, reduceIte, cl, cl0, cl1, cl2, vpn, vp0, le8, le16, le40, le640, le1400, le6400, lt8, lt16, le15, le2, nI_leI, nI_ltI, nI_eq, nI_1, nI_add, n_le0, n_lt0, n_0le, n_eq0, n_eq1, n_eq2, n_m1, n_m1r, Nat.reduceEqDiff, Nat.reduceAdd, Int32.add_zero, nI_pred, div16, mul15, mul40, mul16, mul640, mulr16, xu_s, xu_c, xu_k, xu_cc, rows_xu, xf_s, xf_c, rows_xf, xul_c, rows_xul, xul_L, lgc]
  have e : ∀ k, k < (ρ 31 19).toNatClampNeg → upd (ρ 56) x v k = ρ 56 k := fun k hk => upd_n _ _ (by unfold oN at hx; omega)
  refine ⟨⟨h1, h2, h3, h4, ⟨h5.1, h5.2.1, fun k hk => ?_, fun j k hj hk => ?_⟩, h6, h7, h8, h9⟩, c1, c2, c3, ⟨c4.1, fun k hk => ?_⟩, c5, c6, c7⟩
  · rw [e k hk]; exact h5.2.2.1 k hk
  · rw [e k hk, e j (by omega)]; exact h5.2.2.2 j k hj hk
  · rw [e k hk]; exact c4.2 k hk
def CK (σ τ0 τ σt ρt : xS) (t r : Nat) (pt qs no : Nat → Nat) (k : Nat) : Prop :=
  (∀ j, j < k → no j < 640 ∧ σ 40 (no j) = -1) ∧ (∀ i j, i < j → j < k → no i ≠ no j) ∧ (∀ x, oB τ x ↔ oB σ x ∨ ∃ j, j < k ∧ no j = x) ∧
  (∀ x, oB σ x → τ 40 x = σ 40 x ∧ τ 41 x = σ 41 x ∧ τ 42 x = σ 42 x ∧ τ 43 x = σ 43 x ∧ τ 44 x = σ 44 x ∧ τ 45 x = σ 45 x ∧ ∀ i, i < 15 → τ 46 (15 * x + i) = σ 46 (15 * x + i) ∧ τ 47 (15 * x + i) = σ 47 (15 * x + i)) ∧
  (∀ j, j < k → τ 40 (no j) = σ 40 (pt j) ∧ τ 41 (no j) = σ 41 (pt j) ∧ τ 42 (no j) = σ 42 (pt j) ∧ τ 43 (no j) = nI r ∧ τ 44 (no j) = nI (qs j) ∧ τ 56 (oN σ + j) = nI (no j)) ∧
  (∀ j, j < oN σ → τ 56 j = σ 56 j) ∧ R4 ρt τ ∧ (∀ d, ¬ (40 ≤ d ∧ d ≤ 53) → d ≠ 56 → τ d = τ0 d) ∧ ∃ a : xS, Inv2 t a τ ∧ (∀ d, d = 20 ∨ d = 22 ∨ d = 23 ∨ (32 ≤ d ∧ d < 40) → a d = σt d) ∧ (∀ d, ¬ (d = 20 ∨ d = 22 ∨ d = 23 ∨ (32 ≤ d ∧ d < 40)) → d ≠ 28 → d ≠ 29 → a d = σ d)
theorem e_copyN {t : Nat} {σ τ0 : xS} {r c : Nat} {pt qs : Nat → Nat} {σs ρs : Nat → xS} (ht : t < 100000) (hI : Inv2 t σ σ) (hr : r < rN σ) (hE : RE σ τ0) (hC : Ch r (fun k => oM σ (pt k) + 1) σs ρs qs c) (hs0 : ∀ d, d = 20 ∨ d = 22 ∨ d = 23 ∨ (32 ≤ d ∧ d < 40) → σ d = σs 0 d) (hρ0 : ρs 0 = σ) (hB : ∀ k, k < c → oB σ (pt k)) (hc : τ0 31 26 = nI c) (c6 : c ≤ 640) (h57 : ∀ k, k < c → τ0 57 k = nI (pt k)) (x1 x2 : Int32) (Q : Int32 → xS → Prop)
    (h : ∀ τ no, CK σ τ0 τ (σs c) (ρs c) t r pt qs no c → ∃ n, p_Mod_copy_L117 Q n x1 x2 0 τ) : ∃ n, p_Mod_copy_L52 Q n x1 x2 (nI r) 0 τ0 := by
  have hG := Inv2_Gd ht hI
  have hR8 : rN σ ≤ 8 := hI.1.2.2.2.2.2.1.2.1
  have hr8 : r < 8 := by omega
  have hn6 := hG.2.2.2.1.2.1
  refine lpS (S := xS) (fun f k τ => p_Mod_copy_L52 Q f x1 x2 (nI r) (nI k) τ) (fun k τ => ∃ no, CK σ τ0 τ (σs k) (ρs k) t r pt qs no k) c ?_ ?_ (s := τ0) ?_
  · intro f k τ hk ⟨no, hCK⟩ hn
    show b_Mod_copy_L52 (p_Mod_copy_L52 Q f) Q x1 x2 (nI r) (nI k) τ
    unfold b_Mod_copy_L52
    obtain ⟨K1, K2, K3, K4, K5, K6, K7, K8, a, Ia, a1, a2⟩ := hCK
    have l1 : ¬ c ≤ k := by omega
    have t31 : τ 31 = τ0 31 := K8 31 (by omega) (by decide)
    have t57 : τ 57 = τ0 57 := K8 57 (by omega) (by decide)
    have b := hB k hk
    have b6 := b.1
    obtain ⟨⟨g1, g2, g3, g4, g5⟩, _⟩ := hG.1 _ b
    obtain ⟨y1, y2, y3, y4, y5, y6, y7⟩ := K4 _ b
    have htag := (hI.1.1 _ b).2.1
    have e40 : τ 40 (pt k) = nI (oK σ (pt k)) := by rw [y1]; exact g1
    have e41 : τ 41 (pt k) = nI ((σ 41 (pt k)).toNatClampNeg) := by rw [y2]; exact htag.1
    have e42 : τ 42 (pt k) = nI (oM σ (pt k)) := by rw [y3]; exact g3
    have e19 : τ 31 19 = nI (oN σ) := by rw [t31, hE.2 19 (by decide) (by decide)]; exact hG.2.2.2.1.1
    have eNN : oN τ = oN σ := by unfold oN; rw [t31, hE.2 19 (by decide) (by decide)]
    have erN : rN τ = rN σ := by unfold rN; rw [t31, hE.2 13 (by decide) (by decide)]
    obtain ⟨a', b', hk', k4', kc'⟩ := Tk_tr (hC k hk) hr8 a τ K7 a1
    have hrt : r < rN τ := by omega
    have c26 : τ 31 26 = nI c := by rw [t31]; exact hc
    simp (disch := omega) only [forall_eq, true_and, and_true, and_self, not_true_eq_false, not_false_eq_true, false_imp_iff, true_imp_iff, imp_self, implies_true, ne_eq, reduceIte, cl, cl0, cl1, cl2, vpn, vp0, le8, le16, le40, le640, le1400, le6400, lt8, lt16, le15, le2, nI_leI, nI_ltI, nI_eq, nI_1, nI_add, n_le0, n_lt0, n_0le, n_eq0, n_eq1, n_eq2, n_m1, n_m1r, Nat.reduceEqDiff, Nat.reduceAdd, Int32.add_zero, nI_pred, div16, mul15, mul40, mul16, mul640, mulr16, xu_s, xu_c, xu_k, xu_cc, rows_xu, xf_s, xf_c, rows_xf, xul_c, rows_xul, xul_L, lgc, c26, l1, t57, h57 k hk, e40, e41, e42]
    refine e_mCreate Ia hrt hk' g4 (RE_r τ) _ (fun o τ' ho hO hE' hf => ?_)
    simp (disch := omega) only [forall_eq, true_and, and_true, and_self, not_true_eq_false, not_false_eq_true, false_imp_iff, true_imp_iff, imp_self, implies_true, ne_eq, reduceIte, cl, cl0, cl1, cl2, vpn, vp0, le8, le16, le40, le640, le1400, le6400, lt8, lt16, le15, le2, nI_leI, nI_ltI, nI_eq, nI_1, nI_add, n_le0, n_lt0, n_0le, n_eq0, n_eq1, n_eq2, n_m1, n_m1r, Nat.reduceEqDiff, Nat.reduceAdd, Int32.add_zero, nI_pred, div16, mul15, mul40, mul16, mul640, mulr16, xu_s, xu_c, xu_k, xu_cc, rows_xu, xf_s, xf_c, rows_xf, xul_c, rows_xul, xul_L, lgc, e19]
    have hN := Inv2_new (o := o) (k := oK σ (pt k)) (tg := (σ 41 (pt k)).toNatClampNeg) Ia hrt hk' g2 htag.2 g4 g5 ho hO
    have hN' := Inv2_RE hN hE'
    have eN' : oN τ' = oN σ := by
      have : τ' 31 = τ 31 := hf 31 (by omega)
      unfold oN; rw [this]; exact eNN
    have hN'' := Inv2_56 (x := oN σ + k) (v := nI o) hN' (by omega)
    have fb := (Tk_fr hk' hr8).2
    have q640 : qs k + (oM σ (pt k) + 1) ≤ 640 := (Tk_ok (s := oM σ (pt k) + 1) (Inv2_TR Ia) hrt ⟨by omega, by omega⟩ hk').2.1
    have z40 : τ' 40 = upd (τ 40) o (nI (oK σ (pt k))) := by rw [hE'.1 40 (by decide) (by decide) (by decide)]; unfold nwR; simp (disch := omega) only [forall_eq, true_and, and_true, and_self, not_true_eq_false, not_false_eq_true, false_imp_iff, true_imp_iff, imp_self, implies_true, ne_eq, reduceIte, cl, cl0, cl1, cl2, vpn, vp0, le8, le16, le40, le640, le1400, le6400, lt8, lt16, le15, le2, nI_leI, nI_ltI, nI_eq, nI_1, nI_add, n_le0, n_lt0, n_0le, n_eq0, n_eq1, n_eq2, n_m1, n_m1r, Nat.reduceEqDiff, Nat.reduceAdd, Int32.add_zero, nI_pred, div16, mul15, mul40, mul16, mul640, mulr16, xu_s, xu_c, xu_k, xu_cc, rows_xu, xf_s, xf_c, rows_xf, xul_c, rows_xul, xul_L, lgc]; rw [fb 40 (by decide) (by decide) (by decide) (by decide)]
    have z41 : τ' 41 = upd (τ 41) o (nI ((σ 41 (pt k)).toNatClampNeg)) := by rw [hE'.1 41 (by decide) (by decide) (by decide)]; unfold nwR; simp (disch := omega) only [forall_eq, true_and, and_true, and_self, not_true_eq_false, not_false_eq_true, false_imp_iff, true_imp_iff, imp_self, implies_true, ne_eq, reduceIte, cl, cl0, cl1, cl2, vpn, vp0, le8, le16, le40, le640, le1400, le6400, lt8, lt16, le15, le2, nI_leI, nI_ltI, nI_eq, nI_1, nI_add, n_le0, n_lt0, n_0le, n_eq0, n_eq1, n_eq2, n_m1, n_m1r, Nat.reduceEqDiff, Nat.reduceAdd, Int32.add_zero, nI_pred, div16, mul15, mul40, mul16, mul640, mulr16, xu_s, xu_c, xu_k, xu_cc, rows_xu, xf_s, xf_c, rows_xf, xul_c, rows_xul, xul_L, lgc]; rw [fb 41 (by decide) (by decide) (by decide) (by decide)]
    have z42 : τ' 42 = upd (τ 42) o (nI (oM σ (pt k))) := by rw [hE'.1 42 (by decide) (by decide) (by decide)]; unfold nwR; simp (disch := omega) only [forall_eq, true_and, and_true, and_self, not_true_eq_false, not_false_eq_true, false_imp_iff, true_imp_iff, imp_self, implies_true, ne_eq, reduceIte, cl, cl0, cl1, cl2, vpn, vp0, le8, le16, le40, le640, le1400, le6400, lt8, lt16, le15, le2, nI_leI, nI_ltI, nI_eq, nI_1, nI_add, n_le0, n_lt0, n_0le, n_eq0, n_eq1, n_eq2, n_m1, n_m1r, Nat.reduceEqDiff, Nat.reduceAdd, Int32.add_zero, nI_pred, div16, mul15, mul40, mul16, mul640, mulr16, xu_s, xu_c, xu_k, xu_cc, rows_xu, xf_s, xf_c, rows_xf, xul_c, rows_xul, xul_L, lgc]; rw [fb 42 (by decide) (by decide) (by decide) (by decide)]
    have z43 : τ' 43 = upd (τ 43) o (nI r) := by rw [hE'.1 43 (by decide) (by decide) (by decide)]; unfold nwR; simp (disch := omega) only [forall_eq, true_and, and_true, and_self, not_true_eq_false, not_false_eq_true, false_imp_iff, true_imp_iff, imp_self, implies_true, ne_eq, reduceIte, cl, cl0, cl1, cl2, vpn, vp0, le8, le16, le40, le640, le1400, le6400, lt8, lt16, le15, le2, nI_leI, nI_ltI, nI_eq, nI_1, nI_add, n_le0, n_lt0, n_0le, n_eq0, n_eq1, n_eq2, n_m1, n_m1r, Nat.reduceEqDiff, Nat.reduceAdd, Int32.add_zero, nI_pred, div16, mul15, mul40, mul16, mul640, mulr16, xu_s, xu_c, xu_k, xu_cc, rows_xu, xf_s, xf_c, rows_xf, xul_c, rows_xul, xul_L, lgc]; rw [fb 43 (by decide) (by decide) (by decide) (by decide)]
    have z44 : τ' 44 = upd (τ 44) o (nI (qs k)) := by rw [hE'.1 44 (by decide) (by decide) (by decide)]; unfold nwR; simp (disch := omega) only [forall_eq, true_and, and_true, and_self, not_true_eq_false, not_false_eq_true, false_imp_iff, true_imp_iff, imp_self, implies_true, ne_eq, reduceIte, cl, cl0, cl1, cl2, vpn, vp0, le8, le16, le40, le640, le1400, le6400, lt8, lt16, le15, le2, nI_leI, nI_ltI, nI_eq, nI_1, nI_add, n_le0, n_lt0, n_0le, n_eq0, n_eq1, n_eq2, n_m1, n_m1r, Nat.reduceEqDiff, Nat.reduceAdd, Int32.add_zero, nI_pred, div16, mul15, mul40, mul16, mul640, mulr16, xu_s, xu_c, xu_k, xu_cc, rows_xu, xf_s, xf_c, rows_xf, xul_c, rows_xul, xul_L, lgc]; rw [fb 44 (by decide) (by decide) (by decide) (by decide)]
    have z45 : τ' 45 = upd (τ 45) o 0 := by rw [hE'.1 45 (by decide) (by decide) (by decide)]; unfold nwR; simp (disch := omega) only [forall_eq, true_and, and_true, and_self, not_true_eq_false, not_false_eq_true, false_imp_iff, true_imp_iff, imp_self, implies_true, ne_eq, reduceIte, cl, cl0, cl1, cl2, vpn, vp0, le8, le16, le40, le640, le1400, le6400, lt8, lt16, le15, le2, nI_leI, nI_ltI, nI_eq, nI_1, nI_add, n_le0, n_lt0, n_0le, n_eq0, n_eq1, n_eq2, n_m1, n_m1r, Nat.reduceEqDiff, Nat.reduceAdd, Int32.add_zero, nI_pred, div16, mul15, mul40, mul16, mul640, mulr16, xu_s, xu_c, xu_k, xu_cc, rows_xu, xf_s, xf_c, rows_xf, xul_c, rows_xul, xul_L, lgc]; rw [fb 45 (by decide) (by decide) (by decide) (by decide)]
    have z46 : τ' 46 = rng (τ 46) (15 * o) (oM σ (pt k)) 0 := by rw [hE'.1 46 (by decide) (by decide) (by decide)]; unfold nwR; simp (disch := omega) only [forall_eq, true_and, and_true, and_self, not_true_eq_false, not_false_eq_true, false_imp_iff, true_imp_iff, imp_self, implies_true, ne_eq, reduceIte, cl, cl0, cl1, cl2, vpn, vp0, le8, le16, le40, le640, le1400, le6400, lt8, lt16, le15, le2, nI_leI, nI_ltI, nI_eq, nI_1, nI_add, n_le0, n_lt0, n_0le, n_eq0, n_eq1, n_eq2, n_m1, n_m1r, Nat.reduceEqDiff, Nat.reduceAdd, Int32.add_zero, nI_pred, div16, mul15, mul40, mul16, mul640, mulr16, xu_s, xu_c, xu_k, xu_cc, rows_xu, xf_s, xf_c, rows_xf, xul_c, rows_xul, xul_L, lgc]; rw [fb 46 (by decide) (by decide) (by decide) (by decide)]
    have z47 : τ' 47 = rng (τ 47) (15 * o) (oM σ (pt k)) 0 := by rw [hE'.1 47 (by decide) (by decide) (by decide)]; unfold nwR; simp (disch := omega) only [forall_eq, true_and, and_true, and_self, not_true_eq_false, not_false_eq_true, false_imp_iff, true_imp_iff, imp_self, implies_true, ne_eq, reduceIte, cl, cl0, cl1, cl2, vpn, vp0, le8, le16, le40, le640, le1400, le6400, lt8, lt16, le15, le2, nI_leI, nI_ltI, nI_eq, nI_1, nI_add, n_le0, n_lt0, n_0le, n_eq0, n_eq1, n_eq2, n_m1, n_m1r, Nat.reduceEqDiff, Nat.reduceAdd, Int32.add_zero, nI_pred, div16, mul15, mul40, mul16, mul640, mulr16, xu_s, xu_c, xu_k, xu_cc, rows_xu, xf_s, xf_c, rows_xf, xul_c, rows_xul, xul_L, lgc]; rw [fb 47 (by decide) (by decide) (by decide) (by decide)]
    have z56 : τ' 56 = τ 56 := hf 56 (by omega)
    have oB' : ¬ oB σ o := fun x => by
      have := (K3 o).mpr (Or.inl x)
      exact this.2 hO
    have ono : ∀ j, j < k → no j ≠ o := fun j hj e => by
      have := (K3 o).mpr (Or.inr ⟨j, hj, e⟩)
      exact this.2 hO
    refine hn _ ⟨fun j => if j < k then no j else o, fun j hj => ?_, fun i j hij hj => ?_, fun x => ?_, fun x hx => ?_, fun j hj => ?_, fun j hj => ?_, ⟨?_, ?_, ?_, ?_⟩, fun d d1 d2 => ?_, nwC a' (qs k) (oM σ (pt k)) (hdI (nI (oK σ (pt k))) (nI ((σ 41 (pt k)).toNatClampNeg)) (nI (oM σ (pt k)))), hN'', fun d hd => ?_, fun d hd d1 d2 => ?_⟩
    · dsimp only
      by_cases x : j < k
      · rw [if_pos x]; exact K1 j x
      · rw [if_neg x]
        refine ⟨ho, Classical.byContradiction (fun y => oB' ⟨ho, y⟩)⟩
    · dsimp only
      rw [if_pos (show i < k by omega)]
      by_cases x : j < k
      · rw [if_pos x]; exact K2 i j hij x
      · rw [if_neg x]; exact ono i (by omega)
    · have e : oB (xu τ' 56 (oN σ + k) (nI o)) x ↔ iA (τ' 40) x := by unfold oB; simp (disch := omega) only [forall_eq, true_and, and_true, and_self, not_true_eq_false, not_false_eq_true, false_imp_iff, true_imp_iff, imp_self, implies_true, ne_eq, reduceIte, cl, cl0, cl1, cl2, vpn, vp0, le8, le16, le40, le640, le1400, le6400, lt8, lt16, le15, le2, nI_leI, nI_ltI, nI_eq, nI_1, nI_add, n_le0, n_lt0, n_0le, n_eq0, n_eq1, n_eq2, n_m1, n_m1r, Nat.reduceEqDiff, Nat.reduceAdd, Int32.add_zero, nI_pred, div16, mul15, mul40, mul16, mul640, mulr16, xu_s, xu_c, xu_k, xu_cc, rows_xu, xf_s, xf_c, rows_xf, xul_c, rows_xul, xul_L, lgc]
      rw [e, z40]
      have hiff : iA (upd (τ 40) o (nI (oK σ (pt k)))) x ↔ x = o ∨ oB τ x := by
        unfold oB iA
        by_cases y : x = o
        · rw [y, upd_s]; exact ⟨fun _ => Or.inl rfl, fun _ => ⟨ho, fun z => (n_m1 (by omega)).mp z⟩⟩
        · rw [upd_n _ _ y]; exact ⟨fun z => Or.inr z, fun z => z.elim (fun w => absurd w y) id⟩
      rw [hiff, K3 x]
      constructor
      · rintro (y | y | ⟨j, j1, j2⟩)
        · right; exact ⟨k, by omega, by dsimp only; rw [if_neg (by omega)]; exact y.symm⟩
        · exact Or.inl y
        · right; exact ⟨j, by omega, by dsimp only; rw [if_pos j1]; exact j2⟩
      · rintro (y | ⟨j, j1, j2⟩)
        · exact Or.inr (Or.inl y)
        · dsimp only at j2
          by_cases z : j < k
          · rw [if_pos z] at j2; exact Or.inr (Or.inr ⟨j, z, j2⟩)
          · rw [if_neg z] at j2; exact Or.inl j2.symm
    · have hne : x ≠ o := fun y => oB' (y ▸ hx)
      obtain ⟨w1, w2, w3, w4, w5, w6, w7⟩ := K4 x hx
      simp (disch := omega) only [forall_eq, true_and, and_true, and_self, not_true_eq_false, not_false_eq_true, false_imp_iff, true_imp_iff, imp_self, implies_true, ne_eq, reduceIte, cl, cl0, cl1, cl2, vpn, vp0, le8, le16, le40, le640, le1400, le6400, lt8, lt16, le15, le2, nI_leI, nI_ltI, nI_eq, nI_1, nI_add, n_le0, n_lt0, n_0le, n_eq0, n_eq1, n_eq2, n_m1, n_m1r, Nat.reduceEqDiff, Nat.reduceAdd, Int32.add_zero, nI_pred, div16, mul15, mul40, mul16, mul640, mulr16, xu_s, xu_c, xu_k, xu_cc, rows_xu, xf_s, xf_c, rows_xf, xul_c, rows_xul, xul_L, lgc]
      rw [z40, z41, z42, z43, z44, z45, upd_n _ _ hne, upd_n _ _ hne, upd_n _ _ hne, upd_n _ _ hne, upd_n _ _ hne, upd_n _ _ hne]
      refine ⟨w1, w2, w3, w4, w5, w6, fun i hi => ?_⟩
      rw [z46, z47, rng_n _ _ (by omega), rng_n _ _ (by omega)]
      exact w7 i hi
    · simp (disch := omega) only [forall_eq, true_and, and_true, and_self, not_true_eq_false, not_false_eq_true, false_imp_iff, true_imp_iff, imp_self, implies_true, ne_eq, reduceIte, cl, cl0, cl1, cl2, vpn, vp0, le8, le16, le40, le640, le1400, le6400, lt8, lt16, le15, le2, nI_leI, nI_ltI, nI_eq, nI_1, nI_add, n_le0, n_lt0, n_0le, n_eq0, n_eq1, n_eq2, n_m1, n_m1r, Nat.reduceEqDiff, Nat.reduceAdd, Int32.add_zero, nI_pred, div16, mul15, mul40, mul16, mul640, mulr16, xu_s, xu_c, xu_k, xu_cc, rows_xu, xf_s, xf_c, rows_xf, xul_c, rows_xul, xul_L, lgc]
      rw [z40, z41, z42, z43, z44, z56]
      by_cases x : j < k
      · obtain ⟨w1, w2, w3, w4, w5, w6⟩ := K5 j x
        rw [if_pos x, upd_n _ _ (ono j x), upd_n _ _ (ono j x), upd_n _ _ (ono j x), upd_n _ _ (ono j x), upd_n _ _ (ono j x), upd_n _ _ (by omega)]
        exact ⟨w1, w2, w3, w4, w5, w6⟩
      · have : j = k := by omega
        subst this
        rw [if_neg x, upd_s, upd_s, upd_s, upd_s, upd_s, upd_s]
        exact ⟨g1.symm, htag.1.symm, g3.symm, rfl, rfl, rfl⟩
    · simp (disch := omega) only [forall_eq, true_and, and_true, and_self, not_true_eq_false, not_false_eq_true, false_imp_iff, true_imp_iff, imp_self, implies_true, ne_eq, reduceIte, cl, cl0, cl1, cl2, vpn, vp0, le8, le16, le40, le640, le1400, le6400, lt8, lt16, le15, le2, nI_leI, nI_ltI, nI_eq, nI_1, nI_add, n_le0, n_lt0, n_0le, n_eq0, n_eq1, n_eq2, n_m1, n_m1r, Nat.reduceEqDiff, Nat.reduceAdd, Int32.add_zero, nI_pred, div16, mul15, mul40, mul16, mul640, mulr16, xu_s, xu_c, xu_k, xu_cc, rows_xu, xf_s, xf_c, rows_xf, xul_c, rows_xul, xul_L, lgc]
      rw [z56]
      exact K6 j hj
    · simp (disch := omega) only [forall_eq, true_and, and_true, and_self, not_true_eq_false, not_false_eq_true, false_imp_iff, true_imp_iff, imp_self, implies_true, ne_eq, reduceIte, cl, cl0, cl1, cl2, vpn, vp0, le8, le16, le40, le640, le1400, le6400, lt8, lt16, le15, le2, nI_leI, nI_ltI, nI_eq, nI_1, nI_add, n_le0, n_lt0, n_0le, n_eq0, n_eq1, n_eq2, n_m1, n_m1r, Nat.reduceEqDiff, Nat.reduceAdd, Int32.add_zero, nI_pred, div16, mul15, mul40, mul16, mul640, mulr16, xu_s, xu_c, xu_k, xu_cc, rows_xu, xf_s, xf_c, rows_xf, xul_c, rows_xul, xul_L, lgc]; rw [hE'.1 50 (by decide) (by decide) (by decide)]; unfold nwR; simp (disch := omega) only [forall_eq, true_and, and_true, and_self, not_true_eq_false, not_false_eq_true, false_imp_iff, true_imp_iff, imp_self, implies_true, ne_eq, reduceIte, cl, cl0, cl1, cl2, vpn, vp0, le8, le16, le40, le640, le1400, le6400, lt8, lt16, le15, le2, nI_leI, nI_ltI, nI_eq, nI_1, nI_add, n_le0, n_lt0, n_0le, n_eq0, n_eq1, n_eq2, n_m1, n_m1r, Nat.reduceEqDiff, Nat.reduceAdd, Int32.add_zero, nI_pred, div16, mul15, mul40, mul16, mul640, mulr16, xu_s, xu_c, xu_k, xu_cc, rows_xu, xf_s, xf_c, rows_xf, xul_c, rows_xul, xul_L, lgc]; exact k4'.1
    · simp (disch := omega) only [forall_eq, true_and, and_true, and_self, not_true_eq_false, not_false_eq_true, false_imp_iff, true_imp_iff, imp_self, implies_true, ne_eq, reduceIte, cl, cl0, cl1, cl2, vpn, vp0, le8, le16, le40, le640, le1400, le6400, lt8, lt16, le15, le2, nI_leI, nI_ltI, nI_eq, nI_1, nI_add, n_le0, n_lt0, n_0le, n_eq0, n_eq1, n_eq2, n_m1, n_m1r, Nat.reduceEqDiff, Nat.reduceAdd, Int32.add_zero, nI_pred, div16, mul15, mul40, mul16, mul640, mulr16, xu_s, xu_c, xu_k, xu_cc, rows_xu, xf_s, xf_c, rows_xf, xul_c, rows_xul, xul_L, lgc]; rw [hE'.1 51 (by decide) (by decide) (by decide)]; unfold nwR; simp (disch := omega) only [forall_eq, true_and, and_true, and_self, not_true_eq_false, not_false_eq_true, false_imp_iff, true_imp_iff, imp_self, implies_true, ne_eq, reduceIte, cl, cl0, cl1, cl2, vpn, vp0, le8, le16, le40, le640, le1400, le6400, lt8, lt16, le15, le2, nI_leI, nI_ltI, nI_eq, nI_1, nI_add, n_le0, n_lt0, n_0le, n_eq0, n_eq1, n_eq2, n_m1, n_m1r, Nat.reduceEqDiff, Nat.reduceAdd, Int32.add_zero, nI_pred, div16, mul15, mul40, mul16, mul640, mulr16, xu_s, xu_c, xu_k, xu_cc, rows_xu, xf_s, xf_c, rows_xf, xul_c, rows_xul, xul_L, lgc]; exact k4'.2.1
    · simp (disch := omega) only [forall_eq, true_and, and_true, and_self, not_true_eq_false, not_false_eq_true, false_imp_iff, true_imp_iff, imp_self, implies_true, ne_eq, reduceIte, cl, cl0, cl1, cl2, vpn, vp0, le8, le16, le40, le640, le1400, le6400, lt8, lt16, le15, le2, nI_leI, nI_ltI, nI_eq, nI_1, nI_add, n_le0, n_lt0, n_0le, n_eq0, n_eq1, n_eq2, n_m1, n_m1r, Nat.reduceEqDiff, Nat.reduceAdd, Int32.add_zero, nI_pred, div16, mul15, mul40, mul16, mul640, mulr16, xu_s, xu_c, xu_k, xu_cc, rows_xu, xf_s, xf_c, rows_xf, xul_c, rows_xul, xul_L, lgc]; rw [hE'.1 52 (by decide) (by decide) (by decide)]; unfold nwR; simp (disch := omega) only [forall_eq, true_and, and_true, and_self, not_true_eq_false, not_false_eq_true, false_imp_iff, true_imp_iff, imp_self, implies_true, ne_eq, reduceIte, cl, cl0, cl1, cl2, vpn, vp0, le8, le16, le40, le640, le1400, le6400, lt8, lt16, le15, le2, nI_leI, nI_ltI, nI_eq, nI_1, nI_add, n_le0, n_lt0, n_0le, n_eq0, n_eq1, n_eq2, n_m1, n_m1r, Nat.reduceEqDiff, Nat.reduceAdd, Int32.add_zero, nI_pred, div16, mul15, mul40, mul16, mul640, mulr16, xu_s, xu_c, xu_k, xu_cc, rows_xu, xf_s, xf_c, rows_xf, xul_c, rows_xul, xul_L, lgc]; exact k4'.2.2.1
    · simp (disch := omega) only [forall_eq, true_and, and_true, and_self, not_true_eq_false, not_false_eq_true, false_imp_iff, true_imp_iff, imp_self, implies_true, ne_eq, reduceIte, cl, cl0, cl1, cl2, vpn, vp0, le8, le16, le40, le640, le1400, le6400, lt8, lt16, le15, le2, nI_leI, nI_ltI, nI_eq, nI_1, nI_add, n_le0, n_lt0, n_0le, n_eq0, n_eq1, n_eq2, n_m1, n_m1r, Nat.reduceEqDiff, Nat.reduceAdd, Int32.add_zero, nI_pred, div16, mul15, mul40, mul16, mul640, mulr16, xu_s, xu_c, xu_k, xu_cc, rows_xu, xf_s, xf_c, rows_xf, xul_c, rows_xul, xul_L, lgc]; rw [hE'.1 53 (by decide) (by decide) (by decide)]; unfold nwR; simp (disch := omega) only [forall_eq, true_and, and_true, and_self, not_true_eq_false, not_false_eq_true, false_imp_iff, true_imp_iff, imp_self, implies_true, ne_eq, reduceIte, cl, cl0, cl1, cl2, vpn, vp0, le8, le16, le40, le640, le1400, le6400, lt8, lt16, le15, le2, nI_leI, nI_ltI, nI_eq, nI_1, nI_add, n_le0, n_lt0, n_0le, n_eq0, n_eq1, n_eq2, n_m1, n_m1r, Nat.reduceEqDiff, Nat.reduceAdd, Int32.add_zero, nI_pred, div16, mul15, mul40, mul16, mul640, mulr16, xu_s, xu_c, xu_k, xu_cc, rows_xu, xf_s, xf_c, rows_xf, xul_c, rows_xul, xul_L, lgc]; exact k4'.2.2.2
    · simp (disch := omega) only [forall_eq, true_and, and_true, and_self, not_true_eq_false, not_false_eq_true, false_imp_iff, true_imp_iff, imp_self, implies_true, ne_eq, reduceIte, cl, cl0, cl1, cl2, vpn, vp0, le8, le16, le40, le640, le1400, le6400, lt8, lt16, le15, le2, nI_leI, nI_ltI, nI_eq, nI_1, nI_add, n_le0, n_lt0, n_0le, n_eq0, n_eq1, n_eq2, n_m1, n_m1r, Nat.reduceEqDiff, Nat.reduceAdd, Int32.add_zero, nI_pred, div16, mul15, mul40, mul16, mul640, mulr16, xu_s, xu_c, xu_k, xu_cc, rows_xu, xf_s, xf_c, rows_xf, xul_c, rows_xul, xul_L, lgc]; rw [hf d d1]; exact K8 d d1 d2
    · unfold nwC hp2
      rw [xf_c _ _ _ (by omega), xf_c _ _ _ (by omega)]; exact kc' d hd
    · unfold nwC hp2
      rw [xf_c _ _ _ d2, xf_c _ _ _ d1, (Tk_fr hk' hr8).1 d (by omega) (by omega) (by omega) (by omega)]
      exact a2 d hd d1 d2
  · intro f τ ⟨no, hCK⟩
    show b_Mod_copy_L52 (p_Mod_copy_L52 Q f) Q x1 x2 (nI r) (nI c) τ
    unfold b_Mod_copy_L52
    have t31 : τ 31 = τ0 31 := hCK.2.2.2.2.2.2.2.1 31 (by omega) (by decide)
    have c26 : τ 31 26 = nI c := by rw [t31]; exact hc
    simp (disch := omega) only [forall_eq, true_and, and_true, and_self, not_true_eq_false, not_false_eq_true, false_imp_iff, true_imp_iff, imp_self, implies_true, ne_eq, reduceIte, cl, cl0, cl1, cl2, vpn, vp0, le8, le16, le40, le640, le1400, le6400, lt8, lt16, le15, le2, nI_leI, nI_ltI, nI_eq, nI_1, nI_add, n_le0, n_lt0, n_0le, n_eq0, n_eq1, n_eq2, n_m1, n_m1r, Nat.reduceEqDiff, Nat.reduceAdd, Int32.add_zero, nI_pred, div16, mul15, mul40, mul16, mul640, mulr16, xu_s, xu_c, xu_k, xu_cc, rows_xu, xf_s, xf_c, rows_xf, xul_c, rows_xul, xul_L, lgc, c26, Nat.le_refl]
    exact h τ no hCK
  · obtain ⟨a, b⟩ := id hE
    have e40 := a 40 (by decide) (by decide) (by decide)
    refine ⟨fun _ => 0, fun j hj => by omega, fun i j _ hj => by omega, fun x => ?_, fun x hx => ⟨by rw [e40], by rw [a 41 (by decide) (by decide) (by decide)], by rw [a 42 (by decide) (by decide) (by decide)], by rw [a 43 (by decide) (by decide) (by decide)], by rw [a 44 (by decide) (by decide) (by decide)], by rw [a 45 (by decide) (by decide) (by decide)], fun i _ => ⟨by rw [a 46 (by decide) (by decide) (by decide)], by rw [a 47 (by decide) (by decide) (by decide)]⟩⟩, fun j hj => by omega, fun j _ => by rw [a 56 (by decide) (by decide) (by decide)], by rw [hρ0]; exact R4_of hE, fun _ _ _ => rfl, σ, Inv2_RE hI hE, hs0, fun _ _ _ _ => rfl⟩
    unfold oB
    rw [e40]
    exact ⟨fun y => Or.inl y, fun y => y.elim id (fun ⟨j, hj, _⟩ => by omega)⟩
