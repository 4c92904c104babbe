def prs (K M G : Nat → Int32) (r q : Nat) : Prop := (¬ K (q / 16) = -1 ∧ G (q / 16) = nI r) ∧ q % 16 < (M (q / 16)).toNatClampNeg + 1
theorem prs_y {K M G : Nat → Int32} {r o m : Nat} (h : ¬ K o = -1) (hg : G o = nI r) (hm : M o = nI m) (h6 : m < 16) : cnt (fun i => prs K M G r (o * 16 + i)) 16 = m + 1 := by
  have : ∀ k, k < 16 → (prs K M G r (o * 16 + k) ↔ k < m + 1) := fun k hk => by
    unfold prs
    rw [show (o * 16 + k) / 16 = o by omega, show (o * 16 + k) % 16 = k by omega, hm, cl (by omega)]
    exact ⟨fun x => x.2, fun x => ⟨⟨h, hg⟩, x⟩⟩
  rw [cnt_iff this, cnt_below]; omega
theorem prs_n {K M G : Nat → Int32} {r o : Nat} (h : K o = -1 ∨ ¬ G o = nI r) : cnt (fun i => prs K M G r (o * 16 + i)) 16 = 0 := by
  refine cnt_none (fun k hk x => ?_)
  unfold prs at x
  rw [show (o * 16 + k) / 16 = o by omega] at x
  rcases h with h | h
  · exact x.1.1 h
  · exact h x.1.2
theorem e_mRegion {σ : xS} {r : Nat} (hr : r < 8) (x : Int32) (hM : ∀ o, iA (σ 40) o → ∃ m, σ 42 o = nI m ∧ m < 16) (Q : Int32 → xS → Prop) (h : ∀ y : Int32, (x = 0 → y = σ 51 r) → (x = 1 → y = nI (cnt (fun o => ¬ σ 40 o = -1 ∧ σ 43 o = nI r) 640)) → (x = 2 → y = nI (cnt (prs (σ 40) (σ 42) (σ 43) r) (640 * 16))) → (x = 3 → y = 16 * σ 51 r - nI (cnt (prs (σ 40) (σ 42) (σ 43) r) (640 * 16))) → (¬ x = 0 → ¬ x = 1 → ¬ x = 2 → ¬ x = 3 → y = -1) → Q y σ) : ∃ f, p_Mod_region_L23 Q f (nI r) x 0 0 0 σ := by
  refine lpF (fun f i => p_Mod_region_L23 Q f (nI r) x (nI (cnt (fun o => ¬ σ 40 o = -1 ∧ σ 43 o = nI r) i)) (nI (cnt (prs (σ 40) (σ 42) (σ 43) r) (i * 16))) (nI i) σ) 640 (fun f i hi hk => ?_) (fun f => ?_)
  · show b_Mod_region_L23 (p_Mod_region_L23 Q f) Q _ _ _ _ _ _
    rw [show (i + 1) * 16 = i * 16 + 16 by omega, cnt_add (prs (σ 40) (σ 42) (σ 43) r)] at hk
    unfold b_Mod_region_L23
    have l1 : ¬ 640 ≤ i := by omega
    by_cases e : σ 40 i = -1
    · rw [cnt_n (fun o => ¬ σ 40 o = -1 ∧ σ 43 o = nI r) (fun x => x.1 e), prs_n (Or.inl e)] at hk
      simp (disch := omega) only [forall_eq, true_and, and_true, and_self, not_true_eq_false, not_false_eq_true, false_imp_iff, true_imp_iff, imp_self, implies_true, ne_eq, reduceIte, cl, cl0, cl1, cl2, vpn, vp0, le8, le16, le40, le640, le1400, le6400, lt8, lt16, le15, le2, nI_leI, nI_ltI, nI_eq, nI_1, nI_add, n_le0, n_lt0, n_0le, n_eq0, n_eq1, n_eq2, n_m1, n_m1r, Nat.reduceEqDiff, Nat.reduceAdd, Int32.add_zero, nI_pred, div16, mul15, mul40, mul16, mul640, mulr16, xu_s, xu_c, xu_k, xu_cc, rows_xu, xf_s, xf_c, rows_xf, xul_c, rows_xul, xul_L, lgc, l1, e]
      exact hk
    · by_cases e' : σ 43 i = nI r
      · obtain ⟨m, hm, hm6⟩ := hM i ⟨hi, e⟩
        rw [cnt_y (fun o => ¬ σ 40 o = -1 ∧ σ 43 o = nI r) ⟨e, e'⟩, prs_y e e' hm hm6] at hk
        simp (disch := omega) only [forall_eq, true_and, and_true, and_self, not_true_eq_false, not_false_eq_true, false_imp_iff, true_imp_iff, imp_self, implies_true, ne_eq, reduceIte, cl, cl0, cl1, cl2, vpn, vp0, le8, le16, le40, le640, le1400, le6400, lt8, lt16, le15, le2, nI_leI, nI_ltI, nI_eq, nI_1, nI_add, n_le0, n_lt0, n_0le, n_eq0, n_eq1, n_eq2, n_m1, n_m1r, Nat.reduceEqDiff, Nat.reduceAdd, Int32.add_zero, nI_pred, div16, mul15, mul40, mul16, mul640, mulr16, xu_s, xu_c, xu_k, xu_cc, rows_xu, xf_s, xf_c, rows_xf, xul_c, rows_xul, xul_L, lgc, l1, e, e', hm]
        exact hk
      · rw [cnt_n (fun o => ¬ σ 40 o = -1 ∧ σ 43 o = nI r) (fun x => e' x.2), prs_n (Or.inr e')] at hk
        simp (disch := omega) only [forall_eq, true_and, and_true, and_self, not_true_eq_false, not_false_eq_true, false_imp_iff, true_imp_iff, imp_self, implies_true, ne_eq, reduceIte, cl, cl0, cl1, cl2, vpn, vp0, le8, le16, le40, le640, le1400, le6400, lt8, lt16, le15, le2, nI_leI, nI_ltI, nI_eq, nI_1, nI_add, n_le0, n_lt0, n_0le, n_eq0, n_eq1, n_eq2, n_m1, n_m1r, Nat.reduceEqDiff, Nat.reduceAdd, Int32.add_zero, nI_pred, div16, mul15, mul40, mul16, mul640, mulr16, xu_s, xu_c, xu_k, xu_cc, rows_xu, xf_s, xf_c, rows_xf, xul_c, rows_xul, xul_L, lgc, l1, e, e']
        exact hk
  · show b_Mod_region_L23 (p_Mod_region_L23 Q f) Q _ _ _ _ _ _
    unfold b_Mod_region_L23
    simp (disch := omega) only [forall_eq, true_and, and_true, and_self, not_true_eq_false, not_false_eq_true, false_imp_iff, true_imp_iff, imp_self, implies_true, ne_eq, reduceIte, cl, cl0, cl1, cl2, vpn, vp0, le8, le16, le40, le640, le1400, le6400, lt8, lt16, le15, le2, nI_leI, nI_ltI, nI_eq, nI_1, nI_add, n_le0, n_lt0, n_0le, n_eq0, n_eq1, n_eq2, n_m1, n_m1r, Nat.reduceEqDiff, Nat.reduceAdd, Int32.add_zero, nI_pred, div16, mul15, mul40, mul16, mul640, mulr16, xu_s, xu_c, xu_k, xu_cc, rows_xu, xf_s, xf_c, rows_xf, xul_c, rows_xul, xul_L, lgc, Nat.le_refl]
    refine ⟨fun e => h _ ?_ ?_ ?_ ?_ ?_, fun e => h _ ?_ ?_ ?_ ?_ ?_, fun e => h _ ?_ ?_ ?_ ?_ ?_, fun e => h _ ?_ ?_ ?_ ?_ ?_, fun e0 e1 e2 e3 => h _ (fun x => absurd x e0) (fun x => absurd x e1) (fun x => absurd x e2) (fun x => absurd x e3) (fun _ _ _ _ => rfl)⟩
    all_goals (subst e; simp +decide)
theorem head_iff {t : Nat} {σ : xS} (hI : Inv t σ) {p : Nat} (hp : p < 640) : σ 28 p = 3 ↔ ∃ o, iA (σ 40) o ∧ (σ 44 o).toNatClampNeg = p := by
  obtain ⟨⟨h1, h2, h3, h4, h5, h6, h7, h8, h9⟩, c1, c2, c3, c4, c5, c6, c7⟩ := id hI
  constructor
  · intro h
    rcases h2 p hp with e | ⟨o, ho, e, ep⟩
    · exact absurd h (no_head hI hp e)
    · exact ⟨o, ho, ep⟩
  · rintro ⟨o, ho, e⟩
    have := (c1.1 o ho).1
    dsimp only at this
    rw [e] at this
    exact this
theorem cov_iff {t : Nat} {σ : xS} (hI : Inv t σ) {p : Nat} (hp : p < 640) : ¬ σ 28 p = 4 ↔ ∃ o, iA (σ 40) o ∧ (σ 44 o).toNatClampNeg ≤ p ∧ p ≤ (σ 44 o).toNatClampNeg + (σ 42 o).toNatClampNeg := by
  obtain ⟨⟨h1, h2, h3, h4, h5, h6, h7, h8, h9⟩, c1, c2, c3, c4, c5, c6, c7⟩ := id hI
  constructor
  · intro h
    by_cases hc : ∃ o, iA (σ 40) o ∧ (σ 44 o).toNatClampNeg ≤ p ∧ p ≤ (σ 44 o).toNatClampNeg + (σ 42 o).toNatClampNeg
    · exact hc
    · refine absurd (c1.2.2 p hp (fun o ho => ?_)).1 h
      by_cases h' : p < (σ 44 o).toNatClampNeg
      · exact Or.inl h'
      · right
        by_cases h'' : (σ 44 o).toNatClampNeg + (σ 42 o).toNatClampNeg < p
        · exact h''
        · exact absurd ⟨o, ho, by omega, by omega⟩ hc
  · rintro ⟨o, ho, ha, hb⟩ e4
    by_cases e : p = (σ 44 o).toNatClampNeg
    · have := (c1.1 o ho).1
      dsimp only at this
      rw [← e, e4] at this
      exact absurd this (by decide)
    · have hi : p - (σ 44 o).toNatClampNeg - 1 < (σ 42 o).toNatClampNeg := by omega
      have := c1.2.1 o _ ho hi
      dsimp only at this
      rw [show (σ 44 o).toNatClampNeg + 1 + (p - (σ 44 o).toNatClampNeg - 1) = p by omega] at this
      rw [this.1] at e4
      rcases h3 o _ ho hi with ⟨h, _⟩ | h | ⟨h, _⟩ <;> (rw [e4] at h; exact absurd h (by decide))
theorem pl_inj {t : Nat} {σ : xS} (hI : Inv t σ) {o q : Nat} (ho : iA (σ 40) o) (hq : iA (σ 40) q) (e : (σ 44 o).toNatClampNeg = (σ 44 q).toNatClampNeg) : o = q := by
  obtain ⟨⟨h1, h2, h3, h4, h5, h6, h7, h8, h9⟩, c1, c2, c3, c4, c5, c6, c7⟩ := hI
  have e1 := (h1 _ ho).2.2.2.2.2.2.2
  have e2 := (h1 _ hq).2.2.2.2.2.2.2
  rw [e, e2] at e1
  exact ((nI_eq (by have := hq.1; omega) (by have := ho.1; omega)).mp e1).symm
theorem row_at {t : Nat} {σ : xS} (hI : Inv t σ) {r : Nat} (hr : r < (σ 31 13).toNatClampNeg) : ∃ (m : Nat) (ro : Nat → Nat), σ 51 r = nI m ∧ σ 22 r = nI m ∧ m ≤ 40 ∧ r < 8 ∧ (∀ k, k < m → σ (32 + r) k = nI (ro k) ∧ ro k < 40 ∧ σ 52 (40 * r + k) = nI (ro k) ∧ σ 20 (ro k) = nI r) ∧ (∀ j k, j < k → k < m → ro j ≠ ro k) := by
  obtain ⟨⟨h1, h2, h3, h4, h5, h6, h7, h8, h9⟩, c1, c2, c3, c4, c5, c6, c7⟩ := hI
  have hr8 : r < 8 := Nat.lt_of_lt_of_le hr h6.2.1
  obtain ⟨⟨g1, g2⟩, _, _, g3, g4⟩ := h6.2.2 r hr
  obtain ⟨d1, _, d2⟩ := c3.2 r hr
  refine ⟨_, fun k => (σ 52 (40 * r + k)).toNatClampNeg, g1, by rw [d1]; exact g1, g2, hr8, fun k hk => ?_, g4⟩
  obtain ⟨b1, b2, b3⟩ := g3 k hk
  have := d2 k hk
  rw [rows_in σ hr8] at this
  exact ⟨by rw [this]; exact b1, b2, b1, b3⟩
theorem rpos_inj {ro : Nat → Nat} {m : Nat} (hi : ∀ j k, j < k → k < m → ro j ≠ ro k) {a b : Nat} (hab : a < b) (hb : b < m * 16) : rpos ro a ≠ rpos ro b := by
  unfold rpos
  intro e
  have e1 : ro (a / 16) = ro (b / 16) := by omega
  by_cases h : a / 16 = b / 16
  · omega
  · exact hi (a / 16) (b / 16) (by omega) (by omega) e1
theorem pos_ex {t : Nat} {σ : xS} (hI : Inv t σ) {r m : Nat} {ro : Nat → Nat} (hm : σ 51 r = nI m) (hm4 : m ≤ 40) (hro : ∀ k, k < m → σ 52 (40 * r + k) = nI (ro k) ∧ ro k < 40) {o : Nat} (ho : iA (σ 40) o) (hg : (σ 43 o).toNatClampNeg = r) {i : Nat} (hi : i ≤ (σ 42 o).toNatClampNeg) : ∃ j, j < m * 16 ∧ rpos ro j = (σ 44 o).toNatClampNeg + i := by
  obtain ⟨⟨h1, h2, h3, h4, h5, h6, h7, h8, h9⟩, c1, c2, c3, c4, c5, c6, c7⟩ := hI
  obtain ⟨l1, l2, _⟩ := h8.1 o ho
  rw [hg] at l1
  have hp := (h1 o ho).2.2.2.2.2.1.2
  have hr := (h1 o ho).2.2.2.2.1.2
  have hr8 := h6.2.1
  rcases h7 ((σ 44 o).toNatClampNeg / 16) (by omega) with ⟨e, _⟩ | ⟨_, q, k, hq, hk, e, er⟩
  · rw [l1] at e; exact absurd e (by rw [n_m1 (by omega)]; exact id)
  · rw [l1] at e
    have e := (nI_eq (by omega) (by omega)).mp e
    subst e
    rw [hm, cl (by omega)] at hk
    rw [(hro k hk).1, cl (by have := (hro k hk).2; omega)] at er
    refine ⟨k * 16 + (σ 44 o).toNatClampNeg % 16 + i, by omega, ?_⟩
    unfold rpos
    rw [show (k * 16 + (σ 44 o).toNatClampNeg % 16 + i) / 16 = k by omega, show (k * 16 + (σ 44 o).toNatClampNeg % 16 + i) % 16 = (σ 44 o).toNatClampNeg % 16 + i by omega, er]
    omega
theorem reg_of {t : Nat} {σ : xS} (hI : Inv t σ) {r m : Nat} {ro : Nat → Nat} (hr : r < 8) (hro : ∀ k, k < m → ro k < 40 ∧ σ 20 (ro k) = nI r) {o j : Nat} (ho : iA (σ 40) o) (hj : j < m * 16) (h1' : (σ 44 o).toNatClampNeg ≤ rpos ro j) (h2' : rpos ro j ≤ (σ 44 o).toNatClampNeg + (σ 42 o).toNatClampNeg) : (σ 43 o).toNatClampNeg = r ∧ σ 43 o = nI r := by
  obtain ⟨⟨h1, h2, h3, h4, h5, h6, h7, h8, h9⟩, c1, c2, c3, c4, c5, c6, c7⟩ := hI
  obtain ⟨l1, l2, _⟩ := h8.1 o ho
  have e : (σ 44 o).toNatClampNeg / 16 = ro (j / 16) := by unfold rpos at h1' h2'; omega
  rw [e, (hro (j / 16) (by omega)).2] at l1
  have hg := (h1 o ho).2.2.2.2.1
  have hr8 := h6.2.1
  have e' := (nI_eq (by omega) (by omega)).mp l1
  exact ⟨e'.symm, by rw [hg.1, ← e']⟩
theorem cnt_obj {t : Nat} {σ : xS} (hI : Inv t σ) : cnt (fun o => ¬ σ 40 o = -1) 640 = cnt (fun p => σ 28 p = 3) 640 := by
  obtain ⟨⟨h1, h2, h3, h4, h5, h6, h7, h8, h9⟩, c1, c2, c3, c4, c5, c6, c7⟩ := id hI
  refine Nat.le_antisymm (cnt_inj (fun o => (σ 44 o).toNatClampNeg) 640 (fun o ho hk => ?_) (fun o q hoq hq h h' e => ?_)) (cnt_inj (fun p => (σ 49 p).toNatClampNeg) 640 (fun p hp hk => ?_) (fun p q hpq hq h h' e => ?_))
  · have hA : iA (σ 40) o := ⟨ho, hk⟩
    exact ⟨(h1 o hA).2.2.2.2.2.1.2, (head_iff hI (h1 o hA).2.2.2.2.2.1.2).mpr ⟨o, hA, rfl⟩⟩
  · have := pl_inj hI ⟨by omega, h⟩ ⟨hq, h'⟩ e
    omega
  · obtain ⟨o, ho, e⟩ := (head_iff hI hp).mp hk
    have := (h1 o ho).2.2.2.2.2.2.2
    rw [e] at this
    rw [this, cl (by have := ho.1; omega)]
    exact ⟨ho.1, ho.2⟩
  · obtain ⟨o, ho, eo⟩ := (head_iff hI (show p < 640 by omega)).mp h
    obtain ⟨o', ho', eo'⟩ := (head_iff hI hq).mp h'
    have a := (h1 o ho).2.2.2.2.2.2.2
    have b := (h1 o' ho').2.2.2.2.2.2.2
    rw [eo] at a
    rw [eo'] at b
    rw [a, b, cl (by have := ho.1; omega), cl (by have := ho'.1; omega)] at e
    rw [e, eo'] at eo
    omega
theorem cnt_wat {t : Nat} {σ : xS} (hI : Inv t σ) (ht : t < 2147483648) : σ 9 1 = nI (cnt (fun o => ¬ σ 40 o = -1 ∧ ¬ σ 45 o ≤ 0) 640) := by
  obtain ⟨⟨h1, h2, h3, h4, h5, h6, h7, h8, h9⟩, c1, c2, c3, c4, c5, c6, c7⟩ := id hI
  obtain ⟨a1, a2, w, a3, a4, a5⟩ := c5
  have hw : ∀ o, iA (σ 40) o → (¬ σ 45 o ≤ 0 ↔ 0 < (σ 45 o).toNatClampNeg) := fun o ho => by
    have := (h1 o ho).2.2.2.2.2.2.1
    rw [this.1, n_le0 (by omega), cl (by omega)]
    omega
  have ea : ∃ f : Nat → Nat, ∀ o, iA (σ 40) o → 0 < (σ 45 o).toNatClampNeg → f o < (σ 9 1).toNatClampNeg ∧ w (f o) = o := by
    refine ⟨fun o => @dite Nat (iA (σ 40) o ∧ 0 < (σ 45 o).toNatClampNeg) (Classical.propDecidable _) (fun h => Classical.choose (a5 o h.1 h.2)) (fun _ => 0), fun o h h' => ?_⟩
    dsimp only
    rw [dif_pos ⟨h, h'⟩]
    exact Classical.choose_spec (a5 o h h')
  obtain ⟨f, hf⟩ := ea
  have e1 : cnt (fun o => ¬ σ 40 o = -1 ∧ ¬ σ 45 o ≤ 0) 640 ≤ cnt (fun k => k < (σ 9 1).toNatClampNeg) ((σ 9 1).toNatClampNeg) := cnt_inj f 640 (fun o ho h => by
      have := hf o ⟨ho, h.1⟩ ((hw o ⟨ho, h.1⟩).mp h.2)
      exact ⟨this.1, this.1⟩) (fun o q hoq hq h h' e => by
      have a := hf o ⟨by omega, h.1⟩ ((hw o ⟨by omega, h.1⟩).mp h.2)
      have b := hf q ⟨hq, h'.1⟩ ((hw q ⟨hq, h'.1⟩).mp h'.2)
      rw [e, b.2] at a
      omega)
  have e2 : cnt (fun k => k < (σ 9 1).toNatClampNeg) ((σ 9 1).toNatClampNeg) ≤ cnt (fun o => ¬ σ 40 o = -1 ∧ ¬ σ 45 o ≤ 0) 640 := cnt_inj w _ (fun k hk _ => by
      have := a3 k hk
      exact ⟨this.1.1, this.1.2, (hw _ this.1).mpr this.2.1⟩) (fun j k hjk hk _ _ e => by
      have := a4 j k hjk hk
      rw [e] at this
      omega)
  rw [cnt_below] at e1 e2
  have : cnt (fun o => ¬ σ 40 o = -1 ∧ ¬ σ 45 o ≤ 0) 640 = (σ 9 1).toNatClampNeg := by omega
  rw [this]; exact a1
theorem k_19 (xs : Nat → Int32) (L : Nat) (x4 : Int32) (t : Nat) (σ : xS) (ht : t < 512) (hI : Inv t σ) (hL : lawOk L x4) : o_19 xs L x4 σ (Inv (t + 1)) := by
  have hI' := Inv_nop t σ ht hI
  obtain ⟨⟨h1, h2, h3, h4, h5, h6, h7, h8, h9⟩, c1, c2, c3, c4, c5, c6, c7⟩ := id hI'
  unfold o_19 p_Rp_count p_Reg_amount p_Col_collections p_Col_goneInAll p_Col_movedInAll p_Lin_length_9 p_Lin_length_8
  generalize xs (x4 + 1).toNatClampNeg = x
  have fp : cnt (fun p => σ 20 p = -1) 40 = cnt (fun p => σ 50 p = 0) 40 := cnt_iff (fun p hp => by
    rcases h7 p hp with ⟨a, b⟩ | ⟨a, r, k, hr, _, b, _⟩
    · rw [a, b]; exact ⟨fun _ => rfl, fun _ => rfl⟩
    · rw [a, b, n_m1 (by have := h6.2.1; omega)]; exact ⟨False.elim, fun h => absurd h n10⟩)
  have oc := cnt_obj hI'
  have wc := cnt_wat hI' (by omega)
  have fin : ∀ y : Int32, vp_in (x4 + 1) L ∧ p_Mod_count x σ (fun r6 σ5 => (y = r6 → Inv (t + 1) σ5) ∧ (¬ y = r6 → False)) ↔ p_Mod_count x σ (fun r6 σ5 => (y = r6 → Inv (t + 1) σ5) ∧ (¬ y = r6 → False)) := fun y => ⟨fun h => h.2, fun h => ⟨hL.1, h⟩⟩
  refine ⟨hL.1, ?_⟩
  have ok : ∀ y : Int32, (∀ z : Int32, (x = 0 → z = σ 31 13) → (x = 1 → z = nI (cnt (fun p => σ 50 p = 0) 40)) → (x = 2 → z = nI (cnt (fun o => ¬ σ 40 o = -1) 640)) → (x = 3 → z = σ 31 21) → (x = 4 → z = σ 31 22) → (x = 5 → z = σ 31 23) → (x = 6 → z = σ 31 24) → (x = 7 → z = σ 31 25) → (x = 8 → z = nI (cnt (fun o => ¬ σ 40 o = -1 ∧ ¬ σ 45 o ≤ 0) 640)) → (x = 9 → z = σ 31 19) → (¬ x = 0 → ¬ x = 1 → ¬ x = 2 → ¬ x = 3 → ¬ x = 4 → ¬ x = 5 → ¬ x = 6 → ¬ x = 7 → ¬ x = 8 → ¬ x = 9 → z = -1) → y = z) → vp_in (x4 + 1) L ∧ p_Mod_count x σ (fun r6 σ5 => (y = r6 → Inv (t + 1) σ5) ∧ (¬ y = r6 → False)) := fun y hy => ⟨hL.1, e_mCount x σ _ (fun z a0 a1 a2 a3 a4 a5 a6 a7 a8 a9 an => by
    have := hy z a0 a1 a2 a3 a4 a5 a6 a7 a8 a9 an
    exact ⟨fun _ => Inv_thr _ _ _ hI', fun h => h this⟩)⟩
  refine ⟨fun e => ok _ ?_, fun e => e_freePages _ (ok _ ?_), fun e => e_objects _ (ok _ ?_), fun e => ok _ ?_, fun e => ok _ ?_, fun e => ok _ ?_, fun e => ok _ ?_, fun e => ok _ ?_, fun e => ok _ ?_, fun e => ok _ ?_, fun e0 e1 e2 e3 e4 e5 e6 e7 e8 e9 => ok _ ?_⟩
  · intro z a0 _ _ _ _ _ _ _ _ _ _; rw [a0 e]; exact c3.1
  · intro z _ a1 _ _ _ _ _ _ _ _ _; rw [a1 e, fp]
  · intro z _ _ a2 _ _ _ _ _ _ _ _; rw [a2 e, oc]
  · intro z _ _ _ a3 _ _ _ _ _ _ _; rw [a3 e]; exact c6.1
  · intro z _ _ _ _ a4 _ _ _ _ _ _; rw [a4 e]; exact c6.2.1
  · intro z _ _ _ _ _ a5 _ _ _ _ _; rw [a5 e]; exact c6.2.2.1
  · intro z _ _ _ _ _ _ a6 _ _ _ _; rw [a6 e]; exact c6.2.2.2.1
  · intro z _ _ _ _ _ _ _ a7 _ _ _; rw [a7 e]; exact c6.2.2.2.2
  · intro z _ _ _ _ _ _ _ _ a8 _ _; rw [a8 e]; exact wc
  · intro z _ _ _ _ _ _ _ _ _ a9 _; rw [a9 e]; exact c4.1
  · intro z _ _ _ _ _ _ _ _ _ _ an; rw [an e0 e1 e2 e3 e4 e5 e6 e7 e8 e9]
theorem cnt_reg {t : Nat} {σ : xS} (hI : Inv t σ) {r m : Nat} {ro : Nat → Nat} (hr : r < 8) (hm : σ 51 r = nI m) (hm4 : m ≤ 40) (hro : ∀ k, k < m → σ (32 + r) k = nI (ro k) ∧ ro k < 40 ∧ σ 52 (40 * r + k) = nI (ro k) ∧ σ 20 (ro k) = nI r) (hinj : ∀ j k, j < k → k < m → ro j ≠ ro k) :
    cnt (fun o => ¬ σ 40 o = -1 ∧ σ 43 o = nI r) 640 = cnt (fun j => σ 28 (rpos ro j) = 3) (m * 16) ∧ cnt (prs (σ 40) (σ 42) (σ 43) r) (640 * 16) = cnt (fun j => ¬ σ 28 (rpos ro j) = 4) (m * 16) := by
  obtain ⟨⟨h1, h2, h3, h4, h5, h6, h7, h8, h9⟩, c1, c2, c3, c4, c5, c6, c7⟩ := id hI
  have hrp : ∀ j, j < m * 16 → rpos ro j < 640 := fun j hj => by have := (hro (j / 16) (by omega)).2.1; unfold rpos; omega
  have pos : ∃ f : Nat → Nat → Nat, ∀ o i, iA (σ 40) o → σ 43 o = nI r → i ≤ (σ 42 o).toNatClampNeg → f o i < m * 16 ∧ rpos ro (f o i) = (σ 44 o).toNatClampNeg + i := by
    refine ⟨fun o i => @dite Nat (iA (σ 40) o ∧ σ 43 o = nI r ∧ i ≤ (σ 42 o).toNatClampNeg) (Classical.propDecidable _) (fun h => Classical.choose (pos_ex hI hm hm4 (fun k hk => ⟨(hro k hk).2.2.1, (hro k hk).2.1⟩) h.1 (by rw [h.2.1, cl (by omega)]) h.2.2)) (fun _ => 0), fun o i h h' h'' => ?_⟩
    dsimp only
    rw [dif_pos ⟨h, h', h''⟩]
    exact Classical.choose_spec (pos_ex hI hm hm4 (fun k hk => ⟨(hro k hk).2.2.1, (hro k hk).2.1⟩) h (by rw [h', cl (by omega)]) h'')
  obtain ⟨f, hf⟩ := pos
  have cov : ∃ g : Nat → Nat, ∀ j, j < m * 16 → ¬ σ 28 (rpos ro j) = 4 → iA (σ 40) (g j) ∧ (σ 44 (g j)).toNatClampNeg ≤ rpos ro j ∧ rpos ro j ≤ (σ 44 (g j)).toNatClampNeg + (σ 42 (g j)).toNatClampNeg := by
    refine ⟨fun j => @dite Nat (j < m * 16 ∧ ¬ σ 28 (rpos ro j) = 4) (Classical.propDecidable _) (fun h => Classical.choose ((cov_iff hI (hrp j h.1)).mp h.2)) (fun _ => 0), fun j h h' => ?_⟩
    dsimp only
    rw [dif_pos ⟨h, h'⟩]
    exact Classical.choose_spec ((cov_iff hI (hrp j h)).mp h')
  obtain ⟨g, hg⟩ := cov
  have hro' : ∀ k, k < m → ro k < 40 ∧ σ 20 (ro k) = nI r := fun k hk => ⟨(hro k hk).2.1, (hro k hk).2.2.2⟩
  have h34 : ∀ p, σ 28 p = 3 → ¬ σ 28 p = 4 := fun p e => by rw [e]; decide
  refine ⟨Nat.le_antisymm (cnt_inj (fun o => f o 0) 640 (fun o ho h => ?_) (fun o q hoq hq h h' e => ?_)) (cnt_inj g (m * 16) (fun j hj h => ?_) (fun i j hij hj h h' e => ?_)),
    Nat.le_antisymm (cnt_inj (fun q => f (q / 16) (q % 16)) (640 * 16) (fun q hq h => ?_) (fun q q' hqq hq h h' e => ?_)) (cnt_inj (fun j => 16 * g j + (rpos ro j - (σ 44 (g j)).toNatClampNeg)) (m * 16) (fun j hj h => ?_) (fun i j hij hj h h' e => ?_))⟩
  · have a := hf o 0 ⟨ho, h.1⟩ h.2 (Nat.zero_le _)
    refine ⟨a.1, ?_⟩
    rw [a.2]
    exact (head_iff hI (h1 o ⟨ho, h.1⟩).2.2.2.2.2.1.2).mpr ⟨o, ⟨ho, h.1⟩, rfl⟩
  · have a := hf o 0 ⟨by omega, h.1⟩ h.2 (Nat.zero_le _)
    have b := hf q 0 ⟨hq, h'.1⟩ h'.2 (Nat.zero_le _)
    rw [e, b.2] at a
    have := pl_inj hI ⟨by omega, h.1⟩ ⟨hq, h'.1⟩ (by omega)
    omega
  · have a := hg j hj (h34 _ h)
    have b := reg_of hI hr hro' a.1 hj a.2.1 a.2.2
    exact ⟨a.1.1, a.1.2, b.2⟩
  · have a := hg i (by omega) (h34 _ h)
    have b := hg j hj (h34 _ h')
    obtain ⟨o, ho, eo⟩ := (head_iff hI (hrp i (by omega))).mp h
    obtain ⟨q, hq, eq⟩ := (head_iff hI (hrp j hj)).mp h'
    have u1 : g i = o := by
      by_cases hh : g i = o
      · exact hh
      · have := h8.2 _ _ a.1 ho hh
        dsimp only at this
        omega
    have u2 : g j = q := by
      by_cases hh : g j = q
      · exact hh
      · have := h8.2 _ _ b.1 hq hh
        dsimp only at this
        omega
    rw [u1, u2] at e
    rw [e, eq] at eo
    exact rpos_inj hinj hij hj eo.symm
  · unfold prs at h
    have a := hf (q / 16) (q % 16) ⟨by omega, h.1.1⟩ h.1.2 (by omega)
    refine ⟨a.1, ?_⟩
    rw [a.2]
    have l2 := (h8.1 _ (show iA (σ 40) (q / 16) from ⟨by omega, h.1.1⟩)).2.1
    have hp := (h1 _ (show iA (σ 40) (q / 16) from ⟨by omega, h.1.1⟩)).2.2.2.2.2.1.2
    exact (cov_iff hI (by omega)).mpr ⟨q / 16, ⟨by omega, h.1.1⟩, by omega, by omega⟩
  · unfold prs at h h'
    have a := hf (q / 16) (q % 16) ⟨by omega, h.1.1⟩ h.1.2 (by omega)
    have b := hf (q' / 16) (q' % 16) ⟨by omega, h'.1.1⟩ h'.1.2 (by omega)
    rw [e, b.2] at a
    by_cases hh : q / 16 = q' / 16
    · rw [hh] at a; omega
    · have := h8.2 _ _ (show iA (σ 40) (q / 16) from ⟨by omega, h.1.1⟩) (show iA (σ 40) (q' / 16) from ⟨by omega, h'.1.1⟩) hh
      dsimp only at this
      omega
  · have a := hg j hj h
    have b := reg_of hI hr hro' a.1 hj a.2.1 a.2.2
    have c := (h1 _ a.1).2.2.1.2
    have d := a.1.1
    refine ⟨by omega, ?_⟩
    unfold prs
    rw [show (16 * g j + (rpos ro j - (σ 44 (g j)).toNatClampNeg)) / 16 = g j by omega, show (16 * g j + (rpos ro j - (σ 44 (g j)).toNatClampNeg)) % 16 = rpos ro j - (σ 44 (g j)).toNatClampNeg by omega]
    exact ⟨⟨a.1.2, b.2⟩, by omega⟩
  · have a := hg i (by omega) h
    have b := hg j hj h'
    have c := (h1 _ a.1).2.2.1.2
    have c' := (h1 _ b.1).2.2.1.2
    have u : g i = g j := by omega
    rw [u] at a e
    exact rpos_inj hinj hij hj (by omega)
theorem k_16 (xs : Nat → Int32) (L : Nat) (x4 : Int32) (t : Nat) (σ : xS) (ht : t < 512) (hI : Inv t σ) (hL : lawOk L x4) : o_16 xs L x4 σ (Inv (t + 1)) := by
  have hI' := Inv_nop t σ ht hI
  obtain ⟨⟨h1, h2, h3, h4, h5, h6, h7, h8, h9⟩, c1, c2, c3, c4, c5, c6, c7⟩ := id hI'
  obtain ⟨r, hr, hr8⟩ : ∃ r, σ 31 13 = nI r ∧ r ≤ 8 := ⟨_, h6.1, h6.2.1⟩
  have hr7 : σ 7 4 = nI r := by rw [c3.1, hr]
  unfold o_16 p_Rp_region p_Mod_region p_Mod_isRegion p_Reg_has
  generalize xs (x4 + 1).toNatClampNeg = x
  generalize xs (x4 + 2).toNatClampNeg = y
  rcases reg_cases x (r := r) (by omega) with (h | ⟨h, h'⟩) | ⟨j, hj, rfl⟩
  · simp (disch := omega) only [forall_eq, true_and, and_true, and_self, not_true_eq_false, not_false_eq_true, false_imp_iff, true_imp_iff, imp_self, implies_true, ne_eq, reduceIte, cl, cl0, cl1, cl2, vpn, vp0, le8, le16, le40, le640, le1400, le6400, lt8, lt16, le15, le2, nI_leI, nI_ltI, nI_eq, nI_1, nI_add, n_le0, n_lt0, n_0le, n_eq0, n_eq1, n_eq2, n_m1, n_m1r, Nat.reduceEqDiff, Nat.reduceAdd, Int32.add_zero, nI_pred, div16, mul15, mul40, mul16, mul640, mulr16, xu_s, xu_c, xu_k, xu_cc, rows_xu, xf_s, xf_c, rows_xf, xul_c, rows_xul, xul_L, lgc, hL.1, hL.2.1, h]
    exact Inv_thr _ _ _ hI'
  · simp (disch := omega) only [forall_eq, true_and, and_true, and_self, not_true_eq_false, not_false_eq_true, false_imp_iff, true_imp_iff, imp_self, implies_true, ne_eq, reduceIte, cl, cl0, cl1, cl2, vpn, vp0, le8, le16, le40, le640, le1400, le6400, lt8, lt16, le15, le2, nI_leI, nI_ltI, nI_eq, nI_1, nI_add, n_le0, n_lt0, n_0le, n_eq0, n_eq1, n_eq2, n_m1, n_m1r, Nat.reduceEqDiff, Nat.reduceAdd, Int32.add_zero, nI_pred, div16, mul15, mul40, mul16, mul640, mulr16, xu_s, xu_c, xu_k, xu_cc, rows_xu, xf_s, xf_c, rows_xf, xul_c, rows_xul, xul_L, lgc, hL.1, hL.2.1, h, h', hr, hr7]
    exact Inv_thr _ _ _ hI'
  · have hj' : ¬ r ≤ j := by omega
    obtain ⟨m, ro, a1, a2, a3, a4, a5, a6⟩ := row_at hI' (r := j) (by rw [hr, cl (by omega)]; exact hj)
    obtain ⟨b1, b2⟩ := cnt_reg hI' a4 a1 a3 a5 a6
    unfold p_Reg_rowLength
    simp (disch := omega) only [forall_eq, true_and, and_true, and_self, not_true_eq_false, not_false_eq_true, false_imp_iff, true_imp_iff, imp_self, implies_true, ne_eq, reduceIte, cl, cl0, cl1, cl2, vpn, vp0, le8, le16, le40, le640, le1400, le6400, lt8, lt16, le15, le2, nI_leI, nI_ltI, nI_eq, nI_1, nI_add, n_le0, n_lt0, n_0le, n_eq0, n_eq1, n_eq2, n_m1, n_m1r, Nat.reduceEqDiff, Nat.reduceAdd, Int32.add_zero, nI_pred, div16, mul15, mul40, mul16, mul640, mulr16, xu_s, xu_c, xu_k, xu_cc, rows_xu, xf_s, xf_c, rows_xf, xul_c, rows_xul, xul_L, lgc, hL.1, hL.2.1, hr, hr7, hj', n10, a2]
    have a5' : ∀ k, k < m → σ (32 + j) k = nI (ro k) ∧ ro k < 40 := fun k hk => ⟨(a5 k hk).1, (a5 k hk).2.1⟩
    have hM : ∀ o, iA (xu σ 31 0 0 40) o → ∃ m, xu σ 31 0 0 42 o = nI m ∧ m < 16 := fun o ho => by
      simp (disch := omega) only [forall_eq, true_and, and_true, and_self, not_true_eq_false, not_false_eq_true, false_imp_iff, true_imp_iff, imp_self, implies_true, ne_eq, reduceIte, cl, cl0, cl1, cl2, vpn, vp0, le8, le16, le40, le640, le1400, le6400, lt8, lt16, le15, le2, nI_leI, nI_ltI, nI_eq, nI_1, nI_add, n_le0, n_lt0, n_0le, n_eq0, n_eq1, n_eq2, n_m1, n_m1r, Nat.reduceEqDiff, Nat.reduceAdd, Int32.add_zero, nI_pred, div16, mul15, mul40, mul16, mul640, mulr16, xu_s, xu_c, xu_k, xu_cc, rows_xu, xf_s, xf_c, rows_xf, xul_c, rows_xul, xul_L, lgc] at ho ⊢
      have := (h1 o ho).2.2.1
      exact ⟨_, this.1, this.2⟩
    have ok : ∀ v : Int32, (∀ z : Int32, (y = 0 → z = nI m) → (y = 1 → z = nI (cnt (fun o => ¬ σ 40 o = -1 ∧ σ 43 o = nI j) 640)) → (y = 2 → z = nI (cnt (prs (σ 40) (σ 42) (σ 43) j) (640 * 16))) → (y = 3 → z = nI (16 * m) - nI (cnt (prs (σ 40) (σ 42) (σ 43) j) (640 * 16))) → (¬ y = 0 → ¬ y = 1 → ¬ y = 2 → ¬ y = 3 → z = -1) → v = z) → ∃ n, p_Mod_region_L23 (fun r8 σ7 => (v = r8 → Inv (t + 1) σ7) ∧ (¬ v = r8 → False)) n (nI j) y 0 0 0 (xu σ 31 0 0) := fun v hv => by
      refine e_mRegion a4 y hM _ (fun z z0 z1 z2 z3 zn => ?_)
      simp (disch := omega) only [forall_eq, true_and, and_true, and_self, not_true_eq_false, not_false_eq_true, false_imp_iff, true_imp_iff, imp_self, implies_true, ne_eq, reduceIte, cl, cl0, cl1, cl2, vpn, vp0, le8, le16, le40, le640, le1400, le6400, lt8, lt16, le15, le2, nI_leI, nI_ltI, nI_eq, nI_1, nI_add, n_le0, n_lt0, n_0le, n_eq0, n_eq1, n_eq2, n_m1, n_m1r, Nat.reduceEqDiff, Nat.reduceAdd, Int32.add_zero, nI_pred, div16, mul15, mul40, mul16, mul640, mulr16, xu_s, xu_c, xu_k, xu_cc, rows_xu, xf_s, xf_c, rows_xf, xul_c, rows_xul, xul_L, lgc, a1] at z0 z1 z2 z3
      have := hv z z0 z1 z2 z3 zn
      exact ⟨fun _ => Inv_thr _ _ _ hI', fun h => h this⟩
    refine ⟨fun e => ok _ ?_, fun e => e_objIn a4 a2 a3 a5' _ ?_, fun e => e_plaIn a4 a2 a3 a5' _ ?_, fun e => e_plaIn a4 a2 a3 a5' _ ?_, fun e0 e1 e2 e3 => ok _ ?_⟩
    · intro z z0 _ _ _ _; exact (z0 e).symm
    · simp (disch := omega) only [forall_eq, true_and, and_true, and_self, not_true_eq_false, not_false_eq_true, false_imp_iff, true_imp_iff, imp_self, implies_true, ne_eq, reduceIte, cl, cl0, cl1, cl2, vpn, vp0, le8, le16, le40, le640, le1400, le6400, lt8, lt16, le15, le2, nI_leI, nI_ltI, nI_eq, nI_1, nI_add, n_le0, n_lt0, n_0le, n_eq0, n_eq1, n_eq2, n_m1, n_m1r, Nat.reduceEqDiff, Nat.reduceAdd, Int32.add_zero, nI_pred, div16, mul15, mul40, mul16, mul640, mulr16, xu_s, xu_c, xu_k, xu_cc, rows_xu, xf_s, xf_c, rows_xf, xul_c, rows_xul, xul_L, lgc, hL.1, hL.2.1, hr, hj', n10]
      refine ok _ ?_
      intro z _ z1 _ _ _; rw [z1 e, b1]
    · simp (disch := omega) only [forall_eq, true_and, and_true, and_self, not_true_eq_false, not_false_eq_true, false_imp_iff, true_imp_iff, imp_self, implies_true, ne_eq, reduceIte, cl, cl0, cl1, cl2, vpn, vp0, le8, le16, le40, le640, le1400, le6400, lt8, lt16, le15, le2, nI_leI, nI_ltI, nI_eq, nI_1, nI_add, n_le0, n_lt0, n_0le, n_eq0, n_eq1, n_eq2, n_m1, n_m1r, Nat.reduceEqDiff, Nat.reduceAdd, Int32.add_zero, nI_pred, div16, mul15, mul40, mul16, mul640, mulr16, xu_s, xu_c, xu_k, xu_cc, rows_xu, xf_s, xf_c, rows_xf, xul_c, rows_xul, xul_L, lgc, hL.1, hL.2.1, hr, hj', n10]
      refine ok _ ?_
      intro z _ _ z2 _ _; rw [z2 e, b2]
    · simp (disch := omega) only [forall_eq, true_and, and_true, and_self, not_true_eq_false, not_false_eq_true, false_imp_iff, true_imp_iff, imp_self, implies_true, ne_eq, reduceIte, cl, cl0, cl1, cl2, vpn, vp0, le8, le16, le40, le640, le1400, le6400, lt8, lt16, le15, le2, nI_leI, nI_ltI, nI_eq, nI_1, nI_add, n_le0, n_lt0, n_0le, n_eq0, n_eq1, n_eq2, n_m1, n_m1r, Nat.reduceEqDiff, Nat.reduceAdd, Int32.add_zero, nI_pred, div16, mul15, mul40, mul16, mul640, mulr16, xu_s, xu_c, xu_k, xu_cc, rows_xu, xf_s, xf_c, rows_xf, xul_c, rows_xul, xul_L, lgc, hL.1, hL.2.1, hr, hj', n10]
      refine ok _ ?_
      intro z _ _ _ z3 _; rw [z3 e, b2, Nat.mul_comm]
    · intro z _ _ _ _ zn; exact (zn e0 e1 e2 e3).symm
