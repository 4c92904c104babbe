def RE (ρ τ : xS) : Prop := (∀ d, 40 ≤ d → d ≤ 56 → d ≠ 48 → τ d = ρ d) ∧ (∀ k, 10 ≤ k → k ≤ 25 → τ 31 k = ρ 31 k)
def CF (τ τ' : xS) : Prop := (∀ d, (d < 31 ∨ (32 ≤ d ∧ d < 40)) → τ' d = τ d) ∧ τ' 31 0 = τ 31 0
theorem CF_t {a b c : xS} (h : CF a b) (h' : CF b c) : CF a c := ⟨fun d hd => by rw [h'.1 d hd, h.1 d hd], by rw [h'.2, h.2]⟩
theorem RE_r (ρ : xS) : RE ρ ρ := ⟨fun _ _ _ _ => rfl, fun _ _ _ => rfl⟩
theorem RE_48 {ρ τ : xS} (h : RE ρ τ) (l : Nat → Int32) : RE ρ (va_up τ 48 l) ∧ CF τ (va_up τ 48 l) :=
  ⟨⟨fun d h1 h2 h3 => by rw [xf_c _ _ _ h3]; exact h.1 d h1 h2 h3, fun k h1 h2 => by rw [xf_c _ _ _ (by decide)]; exact h.2 k h1 h2⟩, fun d hd => xf_c _ _ _ (by omega), by rw [xf_c _ _ _ (by decide)]⟩
theorem Inv2_RE {t : Nat} {σ ρ τ : xS} (h : Inv2 t σ ρ) (hE : RE ρ τ) : Inv2 t σ τ := by
  obtain ⟨a, b⟩ := hE
  unfold Inv2 at h ⊢
  rw [a 40 (by decide) (by decide) (by decide), a 41 (by decide) (by decide) (by decide), a 42 (by decide) (by decide) (by decide), a 43 (by decide) (by decide) (by decide), a 44 (by decide) (by decide) (by decide), a 45 (by decide) (by decide) (by decide), a 46 (by decide) (by decide) (by decide), a 47 (by decide) (by decide) (by decide), a 49 (by decide) (by decide) (by decide), a 50 (by decide) (by decide) (by decide), a 51 (by decide) (by decide) (by decide), a 52 (by decide) (by decide) (by decide), a 53 (by decide) (by decide) (by decide), a 54 (by decide) (by decide) (by decide), a 55 (by decide) (by decide) (by decide), a 56 (by decide) (by decide) (by decide), b 10 (by decide) (by decide), b 13 (by decide) (by decide), b 19 (by decide) (by decide), b 21 (by decide) (by decide), b 22 (by decide) (by decide), b 23 (by decide) (by decide), b 24 (by decide) (by decide), b 25 (by decide) (by decide)]
  exact h
theorem Inv2_CF {t : Nat} {σ σ' ρ : xS} (h : Inv2 t σ ρ) (hE : ∀ d, (d < 30 ∨ (32 ≤ d ∧ d < 40)) → σ' d = σ d) : Inv2 t σ' ρ := by
  have er : rowsF σ' = rowsF σ := by
    funext q k
    unfold rowsF
    by_cases x : q < 8
    · rw [if_pos x, if_pos x, hE (32 + q) (by omega)]
    · rw [if_neg x, if_neg x]
  unfold Inv2 at h ⊢
  rw [er, hE 20 (by decide), hE 28 (by decide), hE 29 (by decide), hE 17 (by decide), hE 18 (by decide), hE 7 (by decide), hE 22 (by decide), hE 23 (by decide), hE 8 (by decide), hE 24 (by decide), hE 9 (by decide), hE 25 (by decide), hE 2 (by decide), hE 0 (by decide), hE 3 (by decide), hE 12 (by decide), hE 13 (by decide)]
  exact h
theorem m_find {ρ τ : xS} {r : Nat} (hG : Gd ρ) (hE : RE ρ τ) (hr : r < 8) (Q : xS → Prop) (h : ∀ l, lvo (ρ 40) (L_ ρ r) l → Q (va_up τ 48 l)) : p_Mod_findLive (nI r) τ Q := by
  obtain ⟨a, b⟩ := id hE
  have e40 := a 40 (by decide) (by decide) (by decide)
  have e42 := a 42 (by decide) (by decide) (by decide)
  have e43 := a 43 (by decide) (by decide) (by decide)
  have e46 := a 46 (by decide) (by decide) (by decide)
  have e47 := a 47 (by decide) (by decide) (by decide)
  have e54 := a 54 (by decide) (by decide) (by decide)
  have e55 := a 55 (by decide) (by decide) (by decide)
  have e56 := a 56 (by decide) (by decide) (by decide)
  have e19 := b 19 (by decide) (by decide)
  refine e_findLive (mn := oM ρ) (kd := oK ρ) (g := oG ρ) (fs := oS ρ) (fv := oV ρ) (Sd := sd ρ r) (rt := oR ρ) (qu := oQ ρ) (m := oN ρ) hr (by rw [e40, e42, e46, e47]; exact Gd_FdR hG) (fun o ho => ?_) (fun k hk e => ?_) (by rw [e19]; exact hG.2.2.2.1.1) (by have := hG.2.2.2.1.2.1; omega) (fun k hk => ?_) (fun q => ?_) Q (fun l hl => h l ?_)
  · rw [e40] at ho
    rw [e43]
    exact (hG.1 o ho).2.1
  · rw [e54] at e
    rw [e55, e40]
    exact hG.2.2.1 k hk e
  · rw [e56, e40]
    exact hG.2.2.2.1.2.2 k hk
  · rw [e40, e54]; exact Iff.rfl
  · rw [e40] at hl; exact hl
theorem m_forget {ρ τ : xS} {r : Nat} {L : Nat → Prop} (hG : Gd ρ) (hE : RE ρ τ) (hr : r < 8) (hl : lvo (ρ 40) L (τ 48)) (hL : ∀ o, oB ρ o → ¬ L o → r ≤ oG ρ o) (Q : xS → Prop) (h : ∀ τ', RE (clr ρ (wZ ρ L)) τ' → τ' 48 = τ 48 → CF τ τ' → Q τ') : p_Mod_forget (nI r) τ Q := by
  obtain ⟨a, b⟩ := id hE
  have e40 := a 40 (by decide) (by decide) (by decide)
  have e42 := a 42 (by decide) (by decide) (by decide)
  have e43 := a 43 (by decide) (by decide) (by decide)
  have e46 := a 46 (by decide) (by decide) (by decide)
  have e47 := a 47 (by decide) (by decide) (by decide)
  have hz : ∀ n, fZ (ρ 40) (τ 48) (ρ 46) (ρ 47) (oM ρ) (oG ρ) r n ↔ wZ ρ L n := fun n => by
    have en : 15 * (n / 15) + n % 15 = n := by omega
    have eS : oS ρ (n / 15) (n % 15) = ρ 46 n := by unfold oS; rw [en]
    have eV : oV ρ (n / 15) (n % 15) = (ρ 47 n).toNatClampNeg := by unfold oV; rw [en]
    unfold fZ wZ
    rw [eS, eV]
    constructor
    · rintro ⟨z1, z2, z3, z4, z5, z6, z7⟩
      have hk : oK ρ (n / 15) = 1 := by unfold oK; rw [z4]; rfl
      have hv := ((hG.2.1 _ _ z1 z5).2 (by rw [eS]; exact z6)).2.1
      rw [eV] at hv
      refine ⟨z1, z5, ?_, hk, z6, ?_⟩
      · rcases hl _ z1.1 with y | y
        · exact absurd y.1 z3
        · exact y.2.2
      · rcases hl _ hv.1 with y | y
        · exact y.2
        · rw [y.1] at z7; exact absurd z7 n10
    · rintro ⟨z1, z2, z3, z4, z5, z6⟩
      have hv := (hG.2.1 _ _ z1 z2).2 (by rw [eS]; exact z5)
      rw [eV] at hv
      refine ⟨z1, ?_, ?_, ?_, z2, z5, ?_⟩
      · have := hL _ hv.2.1 z6
        have := hv.2.2
        omega
      · rcases hl _ z1.1 with y | y
        · exact absurd z3 y.2
        · rw [y.1]; exact n10
      · have := (hG.1 _ z1).1.1
        rw [this, z4]; rfl
      · rcases hl _ hv.2.1.1 with y | y
        · exact y.1
        · exact absurd y.2.2 z6
  refine e_forget (mn := oM ρ) (g := oG ρ) hr (by rw [e40, e42, e43, e46, e47]; exact Gd_Rt hG) Q (h _ ⟨fun d h1 h2 h3 => ?_, fun k h1 h2 => ?_⟩ (by simp (disch := omega) only [forall_eq, true_and, and_true, and_self, not_true_eq_false, not_false_eq_true, false_imp_iff, true_imp_iff, imp_self, implies_true, ne_eq, reduceIte, cl, cl0, cl1, cl2, vpn, vp0, le8, le16, le40, le640, le1400, le6400, lt8, lt16, le15, le2, nI_leI, nI_ltI, nI_eq, nI_1, nI_add, n_le0, n_lt0, n_0le, n_eq0, n_eq1, n_eq2, n_m1, n_m1r, Nat.reduceEqDiff, Nat.reduceAdd, Int32.add_zero, nI_pred, div16, mul15, mul40, mul16, mul640, mulr16, xu_s, xu_c, xu_k, xu_cc, rows_xu, xf_s, xf_c, rows_xf, xul_c, rows_xul, xul_L, lgc]) ⟨fun d hd => ?_, by simp (disch := omega) only [forall_eq, true_and, and_true, and_self, not_true_eq_false, not_false_eq_true, false_imp_iff, true_imp_iff, imp_self, implies_true, ne_eq, reduceIte, cl, cl0, cl1, cl2, vpn, vp0, le8, le16, le40, le640, le1400, le6400, lt8, lt16, le15, le2, nI_leI, nI_ltI, nI_eq, nI_1, nI_add, n_le0, n_lt0, n_0le, n_eq0, n_eq1, n_eq2, n_m1, n_m1r, Nat.reduceEqDiff, Nat.reduceAdd, Int32.add_zero, nI_pred, div16, mul15, mul40, mul16, mul640, mulr16, xu_s, xu_c, xu_k, xu_cc, rows_xu, xf_s, xf_c, rows_xf, xul_c, rows_xul, xul_L, lgc]⟩)
  · rw [e40, e46, e47, zc_iff hz, zc_iff hz]
    by_cases x : d = 47
    · subst x; rw [xf_s, clr_47]
    · rw [xf_c _ _ _ x]
      by_cases y : d = 46
      · subst y; rw [xf_s, clr_46]
      · rw [xf_c _ _ _ y, clr_d _ _ ⟨y, x⟩]; exact a d h1 h2 h3
  · simp (disch := omega) only [forall_eq, true_and, and_true, and_self, not_true_eq_false, not_false_eq_true, false_imp_iff, true_imp_iff, imp_self, implies_true, ne_eq, reduceIte, cl, cl0, cl1, cl2, vpn, vp0, le8, le16, le40, le640, le1400, le6400, lt8, lt16, le15, le2, nI_leI, nI_ltI, nI_eq, nI_1, nI_add, n_le0, n_lt0, n_0le, n_eq0, n_eq1, n_eq2, n_m1, n_m1r, Nat.reduceEqDiff, Nat.reduceAdd, Int32.add_zero, nI_pred, div16, mul15, mul40, mul16, mul640, mulr16, xu_s, xu_c, xu_k, xu_cc, rows_xu, xf_s, xf_c, rows_xf, xul_c, rows_xul, xul_L, lgc, clr_d]
    exact b k h1 h2
  · rw [xf_c _ _ _ (by omega), xf_c _ _ _ (by omega)]
theorem m_keyed {ρ τ : xS} {r : Nat} {L : Nat → Prop} (hG : Gd ρ) (hE : RE ρ τ) (hr : r < 8) (hl : lvo (ρ 40) L (τ 48)) (hL : ∀ o, oB ρ o → ¬ L o → r ≤ oG ρ o) (Q : Int32 → xS → Prop) (h : ∀ τ', RE (clr ρ (kZ ρ L)) τ' → τ' 48 = τ 48 → CF τ τ' → p_Mod_forget (nI r) τ' (fun σ8 => (∃ n, p_Mod_collectFrom_L176 Q n (nI r) 0 0 σ8))) : ∃ n, p_Mod_collectFrom_L64 Q n (nI r) 0 τ := by
  obtain ⟨a, b⟩ := id hE
  have e40 := a 40 (by decide) (by decide) (by decide)
  have e42 := a 42 (by decide) (by decide) (by decide)
  have e43 := a 43 (by decide) (by decide) (by decide)
  have e46 := a 46 (by decide) (by decide) (by decide)
  have e47 := a 47 (by decide) (by decide) (by decide)
  have hz : ∀ n, gZ (ρ 40) (τ 48) (ρ 46) (ρ 47) (oM ρ) (oG ρ) r n ↔ kZ ρ L n := fun n => by
    have eS : oS ρ (n / 15) 0 = ρ 46 (15 * (n / 15)) := rfl
    have eV : oV ρ (n / 15) 0 = (ρ 47 (15 * (n / 15))).toNatClampNeg := rfl
    unfold gZ kZ
    rw [eS, eV]
    constructor
    · rintro ⟨z1, z2, z3, z4, z5, z6, z7⟩
      have hk : oK ρ (n / 15) = 2 := by unfold oK; rw [z4]; rfl
      have hv := ((hG.2.1 _ 0 z1 (by omega)).2 z6).2.1
      rw [eV] at hv
      refine ⟨z1, z5, ?_, hk, z6, ?_⟩
      · rcases hl _ z1.1 with y | y
        · exact absurd y.1 z3
        · exact y.2.2
      · rcases hl _ hv.1 with y | y
        · exact y.2
        · rw [y.1] at z7; exact absurd z7 n10
    · rintro ⟨z1, z2, z3, z4, z5, z6⟩
      have hv := (hG.2.1 _ 0 z1 (by omega)).2 z5
      rw [eV] at hv
      refine ⟨z1, ?_, ?_, ?_, z2, z5, ?_⟩
      · have := hL _ hv.2.1 z6
        have := hv.2.2
        omega
      · rcases hl _ z1.1 with y | y
        · exact absurd z3 y.2
        · rw [y.1]; exact n10
      · have := (hG.1 _ z1).1.1
        rw [this, z4]; rfl
      · rcases hl _ hv.2.1.1 with y | y
        · exact y.1
        · exact absurd y.2.2 z6
  refine e_mKeyed (mn := oM ρ) (g := oG ρ) hr (by rw [e40, e42, e43, e46, e47]; exact Gd_Rt hG) (fun o ho e => ?_) Q (h _ ⟨fun d h1 h2 h3 => ?_, fun k h1 h2 => ?_⟩ (by simp (disch := omega) only [forall_eq, true_and, and_true, and_self, not_true_eq_false, not_false_eq_true, false_imp_iff, true_imp_iff, imp_self, implies_true, ne_eq, reduceIte, cl, cl0, cl1, cl2, vpn, vp0, le8, le16, le40, le640, le1400, le6400, lt8, lt16, le15, le2, nI_leI, nI_ltI, nI_eq, nI_1, nI_add, n_le0, n_lt0, n_0le, n_eq0, n_eq1, n_eq2, n_m1, n_m1r, Nat.reduceEqDiff, Nat.reduceAdd, Int32.add_zero, nI_pred, div16, mul15, mul40, mul16, mul640, mulr16, xu_s, xu_c, xu_k, xu_cc, rows_xu, xf_s, xf_c, rows_xf, xul_c, rows_xul, xul_L, lgc]) ⟨fun d hd => ?_, by simp (disch := omega) only [forall_eq, true_and, and_true, and_self, not_true_eq_false, not_false_eq_true, false_imp_iff, true_imp_iff, imp_self, implies_true, ne_eq, reduceIte, cl, cl0, cl1, cl2, vpn, vp0, le8, le16, le40, le640, le1400, le6400, lt8, lt16, le15, le2, nI_leI, nI_ltI, nI_eq, nI_1, nI_add, n_le0, n_lt0, n_0le, n_eq0, n_eq1, n_eq2, n_m1, n_m1r, Nat.reduceEqDiff, Nat.reduceAdd, Int32.add_zero, nI_pred, div16, mul15, mul40, mul16, mul640, mulr16, xu_s, xu_c, xu_k, xu_cc, rows_xu, xf_s, xf_c, rows_xf, xul_c, rows_xul, xul_L, lgc]⟩)
  · rw [e40] at ho e
    exact (hG.1 o ho).1.2.2.2.2 (by unfold oK; rw [e]; rfl)
  · rw [e40, e46, e47, zc_iff hz, zc_iff hz]
    by_cases x : d = 47
    · subst x; rw [xf_s, clr_47]
    · rw [xf_c _ _ _ x]
      by_cases y : d = 46
      · subst y; rw [xf_s, clr_46]
      · rw [xf_c _ _ _ y, clr_d _ _ ⟨y, x⟩]; exact a d h1 h2 h3
  · simp (disch := omega) only [forall_eq, true_and, and_true, and_self, not_true_eq_false, not_false_eq_true, false_imp_iff, true_imp_iff, imp_self, implies_true, ne_eq, reduceIte, cl, cl0, cl1, cl2, vpn, vp0, le8, le16, le40, le640, le1400, le6400, lt8, lt16, le15, le2, nI_leI, nI_ltI, nI_eq, nI_1, nI_add, n_le0, n_lt0, n_0le, n_eq0, n_eq1, n_eq2, n_m1, n_m1r, Nat.reduceEqDiff, Nat.reduceAdd, Int32.add_zero, nI_pred, div16, mul15, mul40, mul16, mul640, mulr16, xu_s, xu_c, xu_k, xu_cc, rows_xu, xf_s, xf_c, rows_xf, xul_c, rows_xul, xul_L, lgc, clr_d]
    exact b k h1 h2
  · rw [xf_c _ _ _ (by omega), xf_c _ _ _ (by omega)]
theorem cw_iff {B B' : Nat → Prop} {ix : Nat → Nat} {v f : Nat → Int32} : ∀ i, (∀ k, k < i → (B k ↔ B' k)) → cw B ix v f i = cw B' ix v f i := by
  intro i
  induction i with
  | zero => intro _; rfl
  | succ i ih =>
    intro h
    have e := ih (fun k hk => h k (by omega))
    by_cases x : B i
    · rw [← cw_y ix v f x, ← cw_y ix v f ((h i (by omega)).mp x), e]
    · rw [cw_n ix v f x, cw_n ix v f (fun y => x ((h i (by omega)).mpr y)), e]
theorem m_slide {t : Nat} {σ ρ τ : xS} {r : Nat} {dd : Nat → Nat} {N : Nat} (ht : t < 100000) (hI : Inv2 t σ ρ) (hD : DD ρ r dd N) (hr : r < rN ρ) (hE : RE (r4 ρ r dd N) τ) (hl : lvo (ρ 40) (L2 ρ r dd N) (τ 48)) (Q : Int32 → xS → Prop)
    (h : ∀ τ', RE (r7 ρ r dd N) τ' → CF τ τ' → Q (nI (g7 ρ r dd N)) τ') : ∃ n, p_Mod_collectFrom_L176 Q n (nI r) 0 0 τ := by
  have hG := Inv2_Gd ht hI
  have hG2 := Gd_r2 hG hD
  have hA : ∀ o, L2 ρ r dd N o → oB ρ o := fun o ho => L_A hG2 ho
  have hH := RH_of ht hI hD
  obtain ⟨p1, p2, p3, p4, p5, p6⟩ := P7_at ht hI hD hr
  obtain ⟨⟨h1, h2, h3, h4, h5, h6, h7, h8, h9⟩, c1, c2, c3, c4, c5, c6, c7⟩ := id hI
  have hR8 : rN ρ ≤ 8 := h6.2.1
  obtain ⟨a, b⟩ := id hE
  have ed : ∀ d, 40 ≤ d → d ≤ 56 → d ≠ 48 → d ≠ 46 → d ≠ 47 → d ≠ 45 → d ≠ 56 → τ d = ρ d := fun d x1 x2 x3 x4 x5 x6 x7 => by
    rw [a d x1 x2 x3, r4_d _ _ _ _ ⟨x4, x5⟩, r2_d _ _ _ _ ⟨x6, x7, by omega, x4, x5⟩]
  have e40 := ed 40 (by decide) (by decide) (by decide) (by decide) (by decide) (by decide) (by decide)
  have e42 := ed 42 (by decide) (by decide) (by decide) (by decide) (by decide) (by decide) (by decide)
  have e43 := ed 43 (by decide) (by decide) (by decide) (by decide) (by decide) (by decide) (by decide)
  have e44 := ed 44 (by decide) (by decide) (by decide) (by decide) (by decide) (by decide) (by decide)
  have e49 := ed 49 (by decide) (by decide) (by decide) (by decide) (by decide) (by decide) (by decide)
  have e50 := ed 50 (by decide) (by decide) (by decide) (by decide) (by decide) (by decide) (by decide)
  have e51 := ed 51 (by decide) (by decide) (by decide) (by decide) (by decide) (by decide) (by decide)
  have e52 := ed 52 (by decide) (by decide) (by decide) (by decide) (by decide) (by decide) (by decide)
  have e53 := ed 53 (by decide) (by decide) (by decide) (by decide) (by decide) (by decide) (by decide)
  have hb : ∀ o, (iA (τ 40) o ∧ r ≤ oG ρ o ∧ τ 48 o = 0) ↔ (oB ρ o ∧ ¬ L2 ρ r dd N o) := fun o => by
    rw [e40]
    constructor
    · rintro ⟨x, y, z⟩
      refine ⟨x, ?_⟩
      rcases hl o x.1 with w | w
      · exact w.2
      · rw [w.1] at z; exact absurd z n10
    · rintro ⟨x, y⟩
      refine ⟨x, L_old (ρ := r2 ρ r dd N) x y, ?_⟩
      rcases hl o x.1 with w | w
      · exact w.1
      · exact absurd w.2.2 y
  refine e_mRem2 (g := oG ρ) (pl := oP ρ) (by omega) (fun o ho => ?_) Q ?_
  · rw [e40] at ho
    rw [e43, e44]
    obtain ⟨_, x, y, _⟩ := hG.1 o ho
    exact ⟨x.1, x.2, y.1, by omega⟩
  have c1' : cnt (fun o => iA (τ 40) o ∧ r ≤ oG ρ o ∧ τ 48 o = 0) 640 = g7 ρ r dd N := cnt_iff (fun o _ => hb o)
  have w1 : cw (fun o => iA (τ 40) o ∧ r ≤ oG ρ o ∧ τ 48 o = 0) id (fun _ => -1) (τ 40) 640 = K7 ρ r dd N := by rw [cw_iff 640 (fun o _ => hb o), e40]; rfl
  have w2 : cw (fun o => iA (τ 40) o ∧ r ≤ oG ρ o ∧ τ 48 o = 0) (oP ρ) (fun _ => -1) (τ 49) 640 = O5 ρ r dd N := by rw [cw_iff 640 (fun o _ => hb o), e49]; rfl
  rw [c1', w1, w2]
  have kA := fun o => (K7_iff hA o).1
  have pinj : ∀ o q, oB ρ o → oB ρ q → oP ρ o = oP ρ q → o = q := fun o q ho hq e => by
    by_cases x : o = q
    · exact x
    · have := hG.2.2.2.2 o q ho hq x; omega
  have hH' : RH (L2 ρ r dd N) (L2 ρ r dd N) (oM ρ) (oG ρ) (rr ρ) (mm ρ) r (rN ρ) (oP ρ) := ⟨fun _ x => x, fun o ho => ⟨(hH.2.1 o (hA o ho)).1, Or.inl ho, (hH.2.1 o (hA o ho)).2.2⟩, fun o q ho hq => hH.2.2.1 o q (hA o ho) (hA q hq), hH.2.2.2⟩
  have o5 : ∀ o, L2 ρ r dd N o → O5 ρ r dd N (oP ρ o) = nI o := fun o ho => by
    unfold O5
    rw [cw_no 640 (fun k _ hk e => hk.2 (pinj k o hk.1 (hA o ho) e ▸ ho))]
    exact (h1 o (hA o ho)).2.2.2.2.2.2.2
  refine e_regsM (A := L2 ρ r dd N) (mn := oM ρ) (g := oG ρ) (ro := rr ρ) (m := mm ρ) (R := rN ρ) (pl := oP ρ) hH' (by omega) hR8 ?_ (fun q hq => ?_) (fun o ho => ?_) (fun o ho => ?_) (fun p hp => ?_) (fun o ho => ?_) _ Q (fun τ1 hM => ?_)
  · simp (disch := omega) only [forall_eq, true_and, and_true, and_self, not_true_eq_false, not_false_eq_true, false_imp_iff, true_imp_iff, imp_self, implies_true, ne_eq, reduceIte, cl, cl0, cl1, cl2, vpn, vp0, le8, le16, le40, le640, le1400, le6400, lt8, lt16, le15, le2, nI_leI, nI_ltI, nI_eq, nI_1, nI_add, n_le0, n_lt0, n_0le, n_eq0, n_eq1, n_eq2, n_m1, n_m1r, Nat.reduceEqDiff, Nat.reduceAdd, Int32.add_zero, nI_pred, div16, mul15, mul40, mul16, mul640, mulr16, xu_s, xu_c, xu_k, xu_cc, rows_xu, xf_s, xf_c, rows_xf, xul_c, rows_xul, xul_L, lgc]
    rw [b 13 (by decide) (by decide), r4_d _ _ _ _ (by decide), r2_31 _ _ _ _ (by decide)]; exact h6.1
  · simp (disch := omega) only [forall_eq, true_and, and_true, and_self, not_true_eq_false, not_false_eq_true, false_imp_iff, true_imp_iff, imp_self, implies_true, ne_eq, reduceIte, cl, cl0, cl1, cl2, vpn, vp0, le8, le16, le40, le640, le1400, le6400, lt8, lt16, le15, le2, nI_leI, nI_ltI, nI_eq, nI_1, nI_add, n_le0, n_lt0, n_0le, n_eq0, n_eq1, n_eq2, n_m1, n_m1r, Nat.reduceEqDiff, Nat.reduceAdd, Int32.add_zero, nI_pred, div16, mul15, mul40, mul16, mul640, mulr16, xu_s, xu_c, xu_k, xu_cc, rows_xu, xf_s, xf_c, rows_xf, xul_c, rows_xul, xul_L, lgc]
    rw [e51, e52]
    exact ⟨(h6.2.2 q hq).1.2, (h6.2.2 q hq).1.1, fun k hk => ⟨((h6.2.2 q hq).2.2.2.1 k hk).1, (p6 q k hq hk).1⟩⟩
  · simp (disch := omega) only [forall_eq, true_and, and_true, and_self, not_true_eq_false, not_false_eq_true, false_imp_iff, true_imp_iff, imp_self, implies_true, ne_eq, reduceIte, cl, cl0, cl1, cl2, vpn, vp0, le8, le16, le40, le640, le1400, le6400, lt8, lt16, le15, le2, nI_leI, nI_ltI, nI_eq, nI_1, nI_add, n_le0, n_lt0, n_0le, n_eq0, n_eq1, n_eq2, n_m1, n_m1r, Nat.reduceEqDiff, Nat.reduceAdd, Int32.add_zero, nI_pred, div16, mul15, mul40, mul16, mul640, mulr16, xu_s, xu_c, xu_k, xu_cc, rows_xu, xf_s, xf_c, rows_xf, xul_c, rows_xul, xul_L, lgc]
    rw [e42]
    exact ⟨(hA o ho).1, (hG.1 o (hA o ho)).1.2.2.1, (hG.1 o (hA o ho)).1.2.2.2.1⟩
  · simp (disch := omega) only [forall_eq, true_and, and_true, and_self, not_true_eq_false, not_false_eq_true, false_imp_iff, true_imp_iff, imp_self, implies_true, ne_eq, reduceIte, cl, cl0, cl1, cl2, vpn, vp0, le8, le16, le40, le640, le1400, le6400, lt8, lt16, le15, le2, nI_leI, nI_ltI, nI_eq, nI_1, nI_add, n_le0, n_lt0, n_0le, n_eq0, n_eq1, n_eq2, n_m1, n_m1r, Nat.reduceEqDiff, Nat.reduceAdd, Int32.add_zero, nI_pred, div16, mul15, mul40, mul16, mul640, mulr16, xu_s, xu_c, xu_k, xu_cc, rows_xu, xf_s, xf_c, rows_xf, xul_c, rows_xul, xul_L, lgc]
    rw [e44]
    exact (hG.1 o (hA o ho)).2.2.1.1
  · simp (disch := omega) only [forall_eq, true_and, and_true, and_self, not_true_eq_false, not_false_eq_true, false_imp_iff, true_imp_iff, imp_self, implies_true, ne_eq, reduceIte, cl, cl0, cl1, cl2, vpn, vp0, le8, le16, le40, le640, le1400, le6400, lt8, lt16, le15, le2, nI_leI, nI_ltI, nI_eq, nI_1, nI_add, n_le0, n_lt0, n_0le, n_eq0, n_eq1, n_eq2, n_m1, n_m1r, Nat.reduceEqDiff, Nat.reduceAdd, Int32.add_zero, nI_pred, div16, mul15, mul40, mul16, mul640, mulr16, xu_s, xu_c, xu_k, xu_cc, rows_xu, xf_s, xf_c, rows_xf, xul_c, rows_xul, xul_L, lgc]
    by_cases hx : ∃ k, (oB ρ k ∧ ¬ L2 ρ r dd N k) ∧ oP ρ k = p
    · obtain ⟨k, k1, k2⟩ := hx
      left
      unfold O5
      exact cw_c k1.1.1 k1 k2
    · have e : O5 ρ r dd N p = ρ 49 p := by unfold O5; exact cw_no 640 (fun k _ hk e => hx ⟨k, hk, e⟩)
      rw [e]
      rcases h2 p hp with y | ⟨o, o1, o2, o3⟩
      · exact Or.inl y
      · exact Or.inr ⟨o, Classical.byContradiction (fun y => hx ⟨o, ⟨o1, y⟩, o3⟩), o2, o3⟩
  · simp (disch := omega) only [forall_eq, true_and, and_true, and_self, not_true_eq_false, not_false_eq_true, false_imp_iff, true_imp_iff, imp_self, implies_true, ne_eq, reduceIte, cl, cl0, cl1, cl2, vpn, vp0, le8, le16, le40, le640, le1400, le6400, lt8, lt16, le15, le2, nI_leI, nI_ltI, nI_eq, nI_1, nI_add, n_le0, n_lt0, n_0le, n_eq0, n_eq1, n_eq2, n_m1, n_m1r, Nat.reduceEqDiff, Nat.reduceAdd, Int32.add_zero, nI_pred, div16, mul15, mul40, mul16, mul640, mulr16, xu_s, xu_c, xu_k, xu_cc, rows_xu, xf_s, xf_c, rows_xf, xul_c, rows_xul, xul_L, lgc]
    exact o5 o ho
  obtain ⟨M1, M2, M3, M4, M5, M6, M7, M8, M9, MA, MB⟩ := hM
  simp (disch := omega) only [forall_eq, true_and, and_true, and_self, not_true_eq_false, not_false_eq_true, false_imp_iff, true_imp_iff, imp_self, implies_true, ne_eq, reduceIte, cl, cl0, cl1, cl2, vpn, vp0, le8, le16, le40, le640, le1400, le6400, lt8, lt16, le15, le2, nI_leI, nI_ltI, nI_eq, nI_1, nI_add, n_le0, n_lt0, n_0le, n_eq0, n_eq1, n_eq2, n_m1, n_m1r, Nat.reduceEqDiff, Nat.reduceAdd, Int32.add_zero, nI_pred, div16, mul15, mul40, mul16, mul640, mulr16, xu_s, xu_c, xu_k, xu_cc, rows_xu, xf_s, xf_c, rows_xf, xul_c, rows_xul, xul_L, lgc] at M4 M5 M6 M7 M8 M9 MA MB ⊢
  refine h _ ⟨fun d h1 h2 h3 => ?_, fun k h1 h2 => ?_⟩ ⟨fun d hd => ?_, ?_⟩
  · rw [xu_c _ _ _ _ (by omega), xu_c _ _ _ _ (by omega)]
    unfold r7
    rw [xf_c _ _ _ (by omega)]
    by_cases x53 : d = 53
    · subst x53
      rw [xf_s]
      funext q
      unfold f53
      by_cases x : r ≤ q ∧ q < rN ρ
      · rw [if_pos x]; exact (M4 q x.1 (by omega)).2
      · rw [if_neg x, (M5 q (fun y => x ⟨y.1, by omega⟩)).2, e53]
    rw [xf_c _ _ _ x53]
    by_cases x51 : d = 51
    · subst x51
      rw [xf_s]
      funext q
      unfold f51
      by_cases x : r ≤ q ∧ q < rN ρ
      · rw [if_pos x]; exact (M4 q x.1 (by omega)).1
      · rw [if_neg x, (M5 q (fun y => x ⟨y.1, by omega⟩)).1, e51]
    rw [xf_c _ _ _ x51]
    by_cases x50 : d = 50
    · subst x50
      rw [xf_s]
      funext p
      unfold f50
      by_cases x : fr7 ρ r dd N p
      · rw [if_pos x]; exact (M6 p).1 x
      · rw [if_neg x, (M6 p).2 x, e50]
    rw [xf_c _ _ _ x50]
    by_cases x49 : d = 49
    · subst x49
      rw [xf_s]
      funext p
      by_cases hp : p < 640
      · unfold f49
        rw [if_pos hp]
        by_cases hx : ∃ o, L2 ρ r dd N o ∧ P7 ρ r dd N o = p
        · rw [dif_pos hx]
          have y := M3 _ (Classical.choose_spec hx).1
          have e : plQ (L2 ρ r dd N) (oM ρ) (rr ρ) (mm ρ) r (oP ρ) (rN ρ - r) (Classical.choose hx) = p := (Classical.choose_spec hx).2
          rw [e] at y
          exact y
        · rw [dif_neg hx]
          rcases M2 p hp with y | ⟨o, o1, o2, o3⟩
          · exact y
          · exact absurd ⟨o, o1, o3⟩ hx
      · unfold f49
        rw [if_neg hp]
        exact MB p (by omega)
    rw [xf_c _ _ _ x49]
    by_cases x44 : d = 44
    · subst x44
      rw [xf_s]
      funext o
      unfold f44
      by_cases x : L2 ρ r dd N o
      · rw [if_pos x]; exact M1 o x
      · rw [if_neg x, MA o x, e44]
    rw [xf_c _ _ _ x44]
    by_cases x40 : d = 40
    · subst x40
      rw [xf_s, M8 40 (by decide) (by decide) (by decide) (by decide) (by decide) (by decide)]
      simp (disch := omega) only [forall_eq, true_and, and_true, and_self, not_true_eq_false, not_false_eq_true, false_imp_iff, true_imp_iff, imp_self, implies_true, ne_eq, reduceIte, cl, cl0, cl1, cl2, vpn, vp0, le8, le16, le40, le640, le1400, le6400, lt8, lt16, le15, le2, nI_leI, nI_ltI, nI_eq, nI_1, nI_add, n_le0, n_lt0, n_0le, n_eq0, n_eq1, n_eq2, n_m1, n_m1r, Nat.reduceEqDiff, Nat.reduceAdd, Int32.add_zero, nI_pred, div16, mul15, mul40, mul16, mul640, mulr16, xu_s, xu_c, xu_k, xu_cc, rows_xu, xf_s, xf_c, rows_xf, xul_c, rows_xul, xul_L, lgc]
    rw [xf_c _ _ _ x40, M8 d x44 x49 x51 x53 x50 (by omega)]
    simp (disch := omega) only [forall_eq, true_and, and_true, and_self, not_true_eq_false, not_false_eq_true, false_imp_iff, true_imp_iff, imp_self, implies_true, ne_eq, reduceIte, cl, cl0, cl1, cl2, vpn, vp0, le8, le16, le40, le640, le1400, le6400, lt8, lt16, le15, le2, nI_leI, nI_ltI, nI_eq, nI_1, nI_add, n_le0, n_lt0, n_0le, n_eq0, n_eq1, n_eq2, n_m1, n_m1r, Nat.reduceEqDiff, Nat.reduceAdd, Int32.add_zero, nI_pred, div16, mul15, mul40, mul16, mul640, mulr16, xu_s, xu_c, xu_k, xu_cc, rows_xu, xf_s, xf_c, rows_xf, xul_c, rows_xul, xul_L, lgc]
    exact a d h1 h2 h3
  · have ez : r7 ρ r dd N 31 = f31 ρ r dd N := by unfold r7; simp (disch := omega) only [forall_eq, true_and, and_true, and_self, not_true_eq_false, not_false_eq_true, false_imp_iff, true_imp_iff, imp_self, implies_true, ne_eq, reduceIte, cl, cl0, cl1, cl2, vpn, vp0, le8, le16, le40, le640, le1400, le6400, lt8, lt16, le15, le2, nI_leI, nI_ltI, nI_eq, nI_1, nI_add, n_le0, n_lt0, n_0le, n_eq0, n_eq1, n_eq2, n_m1, n_m1r, Nat.reduceEqDiff, Nat.reduceAdd, Int32.add_zero, nI_pred, div16, mul15, mul40, mul16, mul640, mulr16, xu_s, xu_c, xu_k, xu_cc, rows_xu, xf_s, xf_c, rows_xf, xul_c, rows_xul, xul_L, lgc]
    rw [ez]
    unfold f31
    by_cases x22 : k = 22
    · subst x22
      rw [upd_s]
      simp (disch := omega) only [forall_eq, true_and, and_true, and_self, not_true_eq_false, not_false_eq_true, false_imp_iff, true_imp_iff, imp_self, implies_true, ne_eq, reduceIte, cl, cl0, cl1, cl2, vpn, vp0, le8, le16, le40, le640, le1400, le6400, lt8, lt16, le15, le2, nI_leI, nI_ltI, nI_eq, nI_1, nI_add, n_le0, n_lt0, n_0le, n_eq0, n_eq1, n_eq2, n_m1, n_m1r, Nat.reduceEqDiff, Nat.reduceAdd, Int32.add_zero, nI_pred, div16, mul15, mul40, mul16, mul640, mulr16, xu_s, xu_c, xu_k, xu_cc, rows_xu, xf_s, xf_c, rows_xf, xul_c, rows_xul, xul_L, lgc]
      rw [M9 22 (by decide), b 22 (by decide) (by decide), r4_d _ _ _ _ (by decide), r2_31 _ _ _ _ (by decide)]
    rw [upd_n _ _ x22]
    by_cases x21 : k = 21
    · subst x21
      rw [upd_s]
      simp (disch := omega) only [forall_eq, true_and, and_true, and_self, not_true_eq_false, not_false_eq_true, false_imp_iff, true_imp_iff, imp_self, implies_true, ne_eq, reduceIte, cl, cl0, cl1, cl2, vpn, vp0, le8, le16, le40, le640, le1400, le6400, lt8, lt16, le15, le2, nI_leI, nI_ltI, nI_eq, nI_1, nI_add, n_le0, n_lt0, n_0le, n_eq0, n_eq1, n_eq2, n_m1, n_m1r, Nat.reduceEqDiff, Nat.reduceAdd, Int32.add_zero, nI_pred, div16, mul15, mul40, mul16, mul640, mulr16, xu_s, xu_c, xu_k, xu_cc, rows_xu, xf_s, xf_c, rows_xf, xul_c, rows_xul, xul_L, lgc]
      rw [M9 21 (by decide), b 21 (by decide) (by decide), r4_d _ _ _ _ (by decide), r2_31 _ _ _ _ (by decide)]
    rw [upd_n _ _ x21]
    by_cases x23 : k = 23
    · subst x23
      rw [upd_s]
      simp (disch := omega) only [forall_eq, true_and, and_true, and_self, not_true_eq_false, not_false_eq_true, false_imp_iff, true_imp_iff, imp_self, implies_true, ne_eq, reduceIte, cl, cl0, cl1, cl2, vpn, vp0, le8, le16, le40, le640, le1400, le6400, lt8, lt16, le15, le2, nI_leI, nI_ltI, nI_eq, nI_1, nI_add, n_le0, n_lt0, n_0le, n_eq0, n_eq1, n_eq2, n_m1, n_m1r, Nat.reduceEqDiff, Nat.reduceAdd, Int32.add_zero, nI_pred, div16, mul15, mul40, mul16, mul640, mulr16, xu_s, xu_c, xu_k, xu_cc, rows_xu, xf_s, xf_c, rows_xf, xul_c, rows_xul, xul_L, lgc]
      rw [M7, b 23 (by decide) (by decide), r4_d _ _ _ _ (by decide), r2_31 _ _ _ _ (by decide)]
    rw [upd_n _ _ x23]
    simp (disch := omega) only [forall_eq, true_and, and_true, and_self, not_true_eq_false, not_false_eq_true, false_imp_iff, true_imp_iff, imp_self, implies_true, ne_eq, reduceIte, cl, cl0, cl1, cl2, vpn, vp0, le8, le16, le40, le640, le1400, le6400, lt8, lt16, le15, le2, nI_leI, nI_ltI, nI_eq, nI_1, nI_add, n_le0, n_lt0, n_0le, n_eq0, n_eq1, n_eq2, n_m1, n_m1r, Nat.reduceEqDiff, Nat.reduceAdd, Int32.add_zero, nI_pred, div16, mul15, mul40, mul16, mul640, mulr16, xu_s, xu_c, xu_k, xu_cc, rows_xu, xf_s, xf_c, rows_xf, xul_c, rows_xul, xul_L, lgc]
    rw [M9 k x23]
    exact b k h1 h2
  · rw [xu_c _ _ _ _ (by omega), xu_c _ _ _ _ (by omega), M8 d (by omega) (by omega) (by omega) (by omega) (by omega) (by omega)]
    simp (disch := omega) only [forall_eq, true_and, and_true, and_self, not_true_eq_false, not_false_eq_true, false_imp_iff, true_imp_iff, imp_self, implies_true, ne_eq, reduceIte, cl, cl0, cl1, cl2, vpn, vp0, le8, le16, le40, le640, le1400, le6400, lt8, lt16, le15, le2, nI_leI, nI_ltI, nI_eq, nI_1, nI_add, n_le0, n_lt0, n_0le, n_eq0, n_eq1, n_eq2, n_m1, n_m1r, Nat.reduceEqDiff, Nat.reduceAdd, Int32.add_zero, nI_pred, div16, mul15, mul40, mul16, mul640, mulr16, xu_s, xu_c, xu_k, xu_cc, rows_xu, xf_s, xf_c, rows_xf, xul_c, rows_xul, xul_L, lgc]
  · simp (disch := omega) only [forall_eq, true_and, and_true, and_self, not_true_eq_false, not_false_eq_true, false_imp_iff, true_imp_iff, imp_self, implies_true, ne_eq, reduceIte, cl, cl0, cl1, cl2, vpn, vp0, le8, le16, le40, le640, le1400, le6400, lt8, lt16, le15, le2, nI_leI, nI_ltI, nI_eq, nI_1, nI_add, n_le0, n_lt0, n_0le, n_eq0, n_eq1, n_eq2, n_m1, n_m1r, Nat.reduceEqDiff, Nat.reduceAdd, Int32.add_zero, nI_pred, div16, mul15, mul40, mul16, mul640, mulr16, xu_s, xu_c, xu_k, xu_cc, rows_xu, xf_s, xf_c, rows_xf, xul_c, rows_xul, xul_L, lgc]
    rw [M9 0 (by decide)]
