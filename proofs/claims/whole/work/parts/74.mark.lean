theorem MJ_w {A ex ex' : Nat → Prop} {pl mn kd : Nat → Nat} {fs : Nat → Nat → Int32} {fv : Nat → Nat → Nat} {LL : Nat → Prop} {l pe : Nat → Int32} {n : Nat} (h : MJ A ex pl mn kd fs fv LL l pe n) (hx : ∀ o, A o → l (pl o) = 1 → kd o = 0 → ex o → ¬ ex' o → ∀ i, i < mn o → fs o i = 2 → l (pl (fv o i)) = 1) : MJ A ex' pl mn kd fs fv LL l pe n := by
  obtain ⟨a, b, c, d⟩ := h
  refine ⟨a, b, c, fun o ho hn hl hk => ?_⟩
  by_cases e : ex o
  · exact Or.inr (hx o ho hl hk e hn)
  · exact d o ho e hl hk
def no_ex : Nat → Prop := fun _ => False
theorem e_followPending {σ : xS} {A : Nat → Prop} {pl mn kd : Nat → Nat} {hd : Nat → Int32} {fs fc : Nat → Nat → Int32} {fv : Nat → Nat → Nat} (hV : Vw (σ 28) (σ 29) A pl mn kd hd fs fc fv) {LL : Nat → Prop} (hC : ∀ o i, A o → LL o → kd o = 0 → i < mn o → fs o i = 2 → LL (fv o i)) {l pe : Nat → Int32} {n : Nat} (hJ : MJ A no_ex pl mn kd fs fv LL l pe n) (Q : xS → Prop)
    (h : ∀ l' pe', MJ A no_ex pl mn kd fs fv LL l' pe' 0 → (∀ p, l p = 1 → l' p = 1) → cnt (fun p => l' p = 0) 640 ≤ n + cnt (fun p => l p = 0) 640 → Q (mks σ l' pe' 0)) : p_Mar_followPending (mks σ l pe n) Q := by
  unfold p_Mar_followPending
  refine lpS (S := (Nat → Int32) × (Nat → Int32) × Nat) (fun g i s => p_Mar_followPending_L2 Q g (nI i) (mks σ s.1 s.2.1 s.2.2)) (fun i s => MJ A no_ex pl mn kd fs fv LL s.1 s.2.1 s.2.2 ∧ (∀ p, l p = 1 → s.1 p = 1) ∧ s.2.2 + cnt (fun p => s.1 p = 0) 640 + i ≤ n + cnt (fun p => l p = 0) 640) 640 ?_ ?_ (s := (l, pe, n)) ⟨hJ, fun _ h => h, Nat.le_refl _⟩
  · rintro g i ⟨l1, pe1, n1⟩ hi ⟨i1, i2, i3⟩ hk
    dsimp only at i1 i2 i3 hk ⊢
    show b_Mar_followPending_L2 (p_Mar_followPending_L2 Q g) Q (nI i) _
    unfold b_Mar_followPending_L2 p_Hea_kindOf
    have l1' : ¬ 640 ≤ i := by omega
    have hn6 := i1.2.2.1
    rcases Nat.eq_zero_or_pos n1 with e0 | e0
    · subst e0
      simp (disch := omega) only [forall_eq, true_and, and_true, and_self, not_true_eq_false, not_false_eq_true, false_imp_iff, true_imp_iff, imp_self, implies_true, ne_eq, reduceIte, cl, cl0, cl1, cl2, vpn, vp0, le8, le16, le40, le640, le1400, le6400, lt8, lt16, le15, le2, nI_leI, nI_ltI, nI_eq, nI_1, nI_add, n_le0, n_lt0, n_0le, n_eq0, n_eq1, n_eq2, n_m1, n_m1r, Nat.reduceEqDiff, Nat.reduceAdd, Int32.add_zero, nI_pred, div16, mul15, mul40, mul16, mul640, mulr16, xu_s, xu_c, xu_k, xu_cc, rows_xu, xf_s, xf_c, rows_xf, xul_c, rows_xul, xul_L, lgc, l1', mks_11]
      exact h l1 pe1 i1 i2 (by omega)
    · obtain ⟨m, rfl⟩ : ∃ m, n1 = m + 1 := ⟨n1 - 1, by omega⟩
      have nz : ¬ m + 1 = 0 := by omega
      obtain ⟨o, o1, o2, o3⟩ := i1.2.1 m (by omega)
      obtain ⟨a1, a2, a3, a4, a5, a6, a7, a8⟩ := Vw_o hV o1
      have hLo : LL o := by
        rcases i1.1 (pl o) a1 with e | ⟨_, q, q1, q2, q3⟩
        · rw [e] at o3; exact absurd o3 n01
        · rw [Vw_i hV o q o1 q1 q2.symm]; exact q3
      have hJ1 : MJ A (fun q => q = o) pl mn kd fs fv LL l1 pe1 m := by
        obtain ⟨x1, x2, x3, x4⟩ := i1
        refine ⟨x1, fun k hk => x2 k (by omega), by omega, fun q hq hx hl hkd => ?_⟩
        rcases x4 q hq (fun h => h) hl hkd with ⟨k, k1, k2⟩ | y
        · left
          refine ⟨k, ?_, k2⟩
          have : k ≠ m := fun e => by
            rw [e, o2] at k2
            exact hx (Vw_i hV q o hq o1 ((nI_eq (by have := (Vw_o hV hq).1; omega) (by omega)).mp k2.symm))
          omega
        · exact Or.inr y
      by_cases hk0 : kd o = 0
      · simp (disch := omega) only [forall_eq, true_and, and_true, and_self, not_true_eq_false, not_false_eq_true, false_imp_iff, true_imp_iff, imp_self, implies_true, ne_eq, reduceIte, cl, cl0, cl1, cl2, vpn, vp0, le8, le16, le40, le640, le1400, le6400, lt8, lt16, le15, le2, nI_leI, nI_ltI, nI_eq, nI_1, nI_add, n_le0, n_lt0, n_0le, n_eq0, n_eq1, n_eq2, n_m1, n_m1r, Nat.reduceEqDiff, Nat.reduceAdd, Int32.add_zero, nI_pred, div16, mul15, mul40, mul16, mul640, mulr16, xu_s, xu_c, xu_k, xu_cc, rows_xu, xf_s, xf_c, rows_xf, xul_c, rows_xul, xul_L, lgc, l1', nz, mks_11, mks_w11, mks_27, o2, mks_d, a7, hk0]
        refine e_reachFields hV (f := 0) hJ1 o1 (Nat.zero_le _) (fun i _ hi h2 => hC o i o1 hLo hk0 hi h2) _ (fun l' pe' n' j1 j2 j3 => ?_)
        refine hk (l', pe', n') ⟨MJ_w j1 (fun q hq hl hkd hx _ => ?_), fun p hp => j2.1 p (i2 p hp), ?_⟩
        · rw [hx]; exact fun i hi h2 => j3 i (Nat.zero_le _) hi h2
        · have := j2.2.1
          dsimp only
          omega
      · simp (disch := omega) only [forall_eq, true_and, and_true, and_self, not_true_eq_false, not_false_eq_true, false_imp_iff, true_imp_iff, imp_self, implies_true, ne_eq, reduceIte, cl, cl0, cl1, cl2, vpn, vp0, le8, le16, le40, le640, le1400, le6400, lt8, lt16, le15, le2, nI_leI, nI_ltI, nI_eq, nI_1, nI_add, n_le0, n_lt0, n_0le, n_eq0, n_eq1, n_eq2, n_m1, n_m1r, Nat.reduceEqDiff, Nat.reduceAdd, Int32.add_zero, nI_pred, div16, mul15, mul40, mul16, mul640, mulr16, xu_s, xu_c, xu_k, xu_cc, rows_xu, xf_s, xf_c, rows_xf, xul_c, rows_xul, xul_L, lgc, l1', nz, mks_11, mks_w11, mks_27, o2, mks_d, a7, hk0]
        refine hk (l1, pe1, m) ⟨MJ_w hJ1 (fun q hq hl hkd hx _ => ?_), i2, ?_⟩
        · rw [hx] at hkd; exact absurd hkd hk0
        · dsimp only
          omega
  · rintro g ⟨l1, pe1, n1⟩ ⟨i1, i2, i3⟩
    show b_Mar_followPending_L2 (p_Mar_followPending_L2 Q g) Q (nI 640) _
    unfold b_Mar_followPending_L2
    dsimp only at i1 i2 i3 ⊢
    have := hJ.2.2.1
    have e0 : n1 = 0 := by omega
    subst e0
    simp (disch := omega) only [forall_eq, true_and, and_true, and_self, not_true_eq_false, not_false_eq_true, false_imp_iff, true_imp_iff, imp_self, implies_true, ne_eq, reduceIte, cl, cl0, cl1, cl2, vpn, vp0, le8, le16, le40, le640, le1400, le6400, lt8, lt16, le15, le2, nI_leI, nI_ltI, nI_eq, nI_1, nI_add, n_le0, n_lt0, n_0le, n_eq0, n_eq1, n_eq2, n_m1, n_m1r, Nat.reduceEqDiff, Nat.reduceAdd, Int32.add_zero, nI_pred, div16, mul15, mul40, mul16, mul640, mulr16, xu_s, xu_c, xu_k, xu_cc, rows_xu, xf_s, xf_c, rows_xf, xul_c, rows_xul, xul_L, lgc, Nat.le_refl]
    exact h l1 pe1 i1 i2 (by omega)
theorem e_rtd {σ : xS} {A : Nat → Prop} {pl mn kd : Nat → Nat} {hd : Nat → Int32} {fs fc : Nat → Nat → Int32} {fv : Nat → Nat → Nat} (hV : Vw (σ 28) (σ 29) A pl mn kd hd fs fc fv) {LL : Nat → Prop} {l pe : Nat → Int32} {n o i : Nat} (hl : ∀ p, p < 640 → l p = 0 ∨ l p = 1) (ho : A o) (hi : i < mn o) (Q : Int32 → xS → Prop) (hy : fs o i = 2 → l (pl (fv o i)) = 0 → Q 1 (mks σ l pe n)) (hno : (fs o i = 2 → l (pl (fv o i)) = 1) → Q 0 (mks σ l pe n)) : p_Mar_refersToDead (nI (pl o + 1 + i)) (mks σ l pe n) Q := by
  obtain ⟨a1, a2, a3, a4, a5, a6, a7, a8⟩ := Vw_o hV ho
  obtain ⟨f1, f2⟩ := Vw_f hV ho hi
  unfold p_Mar_refersToDead p_Val_isReference_19 p_Val_contentOf_19
  by_cases e2 : fs o i = 2
  · obtain ⟨f3, f4⟩ := f2 e2
    have hp := (Vw_o hV f3).1
    rcases hl (pl (fv o i)) hp with e | e
    · simp (disch := omega) only [forall_eq, true_and, and_true, and_self, not_true_eq_false, not_false_eq_true, false_imp_iff, true_imp_iff, imp_self, implies_true, ne_eq, reduceIte, cl, cl0, cl1, cl2, vpn, vp0, le8, le16, le40, le640, le1400, le6400, lt8, lt16, le15, le2, nI_leI, nI_ltI, nI_eq, nI_1, nI_add, n_le0, n_lt0, n_0le, n_eq0, n_eq1, n_eq2, n_m1, n_m1r, Nat.reduceEqDiff, Nat.reduceAdd, Int32.add_zero, nI_pred, div16, mul15, mul40, mul16, mul640, mulr16, xu_s, xu_c, xu_k, xu_cc, rows_xu, xf_s, xf_c, rows_xf, xul_c, rows_xul, xul_L, lgc, mks_d, f1, e2, f4, n10, mks_26, e]
      exact hy e2 e
    · simp (disch := omega) only [forall_eq, true_and, and_true, and_self, not_true_eq_false, not_false_eq_true, false_imp_iff, true_imp_iff, imp_self, implies_true, ne_eq, reduceIte, cl, cl0, cl1, cl2, vpn, vp0, le8, le16, le40, le640, le1400, le6400, lt8, lt16, le15, le2, nI_leI, nI_ltI, nI_eq, nI_1, nI_add, n_le0, n_lt0, n_0le, n_eq0, n_eq1, n_eq2, n_m1, n_m1r, Nat.reduceEqDiff, Nat.reduceAdd, Int32.add_zero, nI_pred, div16, mul15, mul40, mul16, mul640, mulr16, xu_s, xu_c, xu_k, xu_cc, rows_xu, xf_s, xf_c, rows_xf, xul_c, rows_xul, xul_L, lgc, mks_d, f1, e2, f4, n10, mks_26, e]
      exact hno (fun _ => e)
  · simp (disch := omega) only [forall_eq, true_and, and_true, and_self, not_true_eq_false, not_false_eq_true, false_imp_iff, true_imp_iff, imp_self, implies_true, ne_eq, reduceIte, cl, cl0, cl1, cl2, vpn, vp0, le8, le16, le40, le640, le1400, le6400, lt8, lt16, le15, le2, nI_leI, nI_ltI, nI_eq, nI_1, nI_add, n_le0, n_lt0, n_0le, n_eq0, n_eq1, n_eq2, n_m1, n_m1r, Nat.reduceEqDiff, Nat.reduceAdd, Int32.add_zero, nI_pred, div16, mul15, mul40, mul16, mul640, mulr16, xu_s, xu_c, xu_k, xu_cc, rows_xu, xf_s, xf_c, rows_xf, xul_c, rows_xul, xul_L, lgc, mks_d, f1, e2, n10]
    exact hno (fun h => absurd h e2)
def keyCl (A : Nat → Prop) (pl mn kd : Nat → Nat) (fs : Nat → Nat → Int32) (fv : Nat → Nat → Nat) (l : Nat → Int32) (o : Nat) : Prop :=
  A o → l (pl o) = 1 → kd o = 2 → (fs o 0 = 2 → l (pl (fv o 0)) = 1) → ∀ j, 0 < j → j < mn o → fs o j = 2 → l (pl (fv o j)) = 1
theorem e_reachByKeys {σ : xS} {A : Nat → Prop} {pl mn kd : Nat → Nat} {hd : Nat → Int32} {fs fc : Nat → Nat → Int32} {fv : Nat → Nat → Nat} (hV : Vw (σ 28) (σ 29) A pl mn kd hd fs fc fv) {LL : Nat → Prop} (hC : ∀ o i, A o → LL o → kd o = 2 → 0 < i → i < mn o → fs o i = 2 → (fs o 0 = 2 → LL (fv o 0)) → LL (fv o i)) {l pe : Nat → Int32} (hJ : MJ A no_ex pl mn kd fs fv LL l pe 0) (Q : Int32 → xS → Prop)
    (h0 : ∀ pe', MJ A no_ex pl mn kd fs fv LL l pe' 0 → (∀ o, keyCl A pl mn kd fs fv l o) → Q 0 (mks σ l pe' 0))
    (h1 : ∀ l' pe' n', MJ A no_ex pl mn kd fs fv LL l' pe' n' → MX l 0 l' n' → 0 < n' → Q 1 (mks σ l' pe' n')) : p_Mar_reachByKeys (mks σ l pe 0) Q := by
  unfold p_Mar_reachByKeys
  refine lpS (S := (Nat → Int32) × (Nat → Int32) × Nat) (fun g i s => p_Mar_reachByKeys_L2 Q g (nI i) (mks σ s.1 s.2.1 s.2.2)) (fun i s => MJ A no_ex pl mn kd fs fv LL s.1 s.2.1 s.2.2 ∧ MX l 0 s.1 s.2.2 ∧ (s.2.2 = 0 → ∀ o, pl o < i → keyCl A pl mn kd fs fv l o)) 640 ?_ ?_ (s := (l, pe, 0)) ⟨hJ, MX_0 l 0, fun _ o h => by omega⟩
  · rintro g i ⟨l1, pe1, n1⟩ hi ⟨i1, i2, i3⟩ hk
    dsimp only at i1 i2 i3 hk ⊢
    show b_Mar_reachByKeys_L2 (p_Mar_reachByKeys_L2 Q g) Q (nI i) _
    unfold b_Mar_reachByKeys_L2 p_Hea_kindOf
    have l1' : ¬ 640 ≤ i := by omega
    rcases i1.1 i hi with e | ⟨e, o, o1, o2, o3⟩
    · simp (disch := omega) only [forall_eq, true_and, and_true, and_self, not_true_eq_false, not_false_eq_true, false_imp_iff, true_imp_iff, imp_self, implies_true, ne_eq, reduceIte, cl, cl0, cl1, cl2, vpn, vp0, le8, le16, le40, le640, le1400, le6400, lt8, lt16, le15, le2, nI_leI, nI_ltI, nI_eq, nI_1, nI_add, n_le0, n_lt0, n_0le, n_eq0, n_eq1, n_eq2, n_m1, n_m1r, Nat.reduceEqDiff, Nat.reduceAdd, Int32.add_zero, nI_pred, div16, mul15, mul40, mul16, mul640, mulr16, xu_s, xu_c, xu_k, xu_cc, rows_xu, xf_s, xf_c, rows_xf, xul_c, rows_xul, xul_L, lgc, l1', mks_26, e]
      refine hk (l1, pe1, n1) ⟨i1, i2, fun en o ho => ?_⟩
      dsimp only at en
      by_cases ho' : pl o < i
      · exact i3 en o ho'
      · intro _ hl
        rw [← i2.2.2.2 en, show pl o = i by omega, e] at hl
        exact absurd hl n01
    · obtain ⟨a1, a2, a3, a4, a5, a6, a7, a8⟩ := Vw_o hV o1
      rw [o2] at a7 a1
      have uq : ∀ q, A q → pl q = i → q = o := fun q hq eq => Vw_i hV q o hq o1 (by rw [eq, o2])
      by_cases hk2 : kd o = 2
      · simp (disch := omega) only [forall_eq, true_and, and_true, and_self, not_true_eq_false, not_false_eq_true, false_imp_iff, true_imp_iff, imp_self, implies_true, ne_eq, reduceIte, cl, cl0, cl1, cl2, vpn, vp0, le8, le16, le40, le640, le1400, le6400, lt8, lt16, le15, le2, nI_leI, nI_ltI, nI_eq, nI_1, nI_add, n_le0, n_lt0, n_0le, n_eq0, n_eq1, n_eq2, n_m1, n_m1r, Nat.reduceEqDiff, Nat.reduceAdd, Int32.add_zero, nI_pred, div16, mul15, mul40, mul16, mul640, mulr16, xu_s, xu_c, xu_k, xu_cc, rows_xu, xf_s, xf_c, rows_xf, xul_c, rows_xul, xul_L, lgc, l1', mks_26, e, n10, mks_d, a7, hk2]
        rw [← o2]
        refine e_rtd hV (LL := LL) (i := 0) (fun p hp => (i1.1 p hp).imp id And.left) o1 (a8 hk2) _ (fun e2 e0 => ?_) (fun ey => ?_)
        · simp (disch := omega) only [forall_eq, true_and, and_true, and_self, not_true_eq_false, not_false_eq_true, false_imp_iff, true_imp_iff, imp_self, implies_true, ne_eq, reduceIte, cl, cl0, cl1, cl2, vpn, vp0, le8, le16, le40, le640, le1400, le6400, lt8, lt16, le15, le2, nI_leI, nI_ltI, nI_eq, nI_1, nI_add, n_le0, n_lt0, n_0le, n_eq0, n_eq1, n_eq2, n_m1, n_m1r, Nat.reduceEqDiff, Nat.reduceAdd, Int32.add_zero, nI_pred, div16, mul15, mul40, mul16, mul640, mulr16, xu_s, xu_c, xu_k, xu_cc, rows_xu, xf_s, xf_c, rows_xf, xul_c, rows_xul, xul_L, lgc, n10]
          rw [o2]
          refine hk (l1, pe1, n1) ⟨i1, i2, fun en q hq => ?_⟩
          dsimp only at en
          by_cases hq' : pl q < i
          · exact i3 en q hq'
          · intro hAq hl hkq h00
            rw [uq q hAq (by omega)] at h00
            have := h00 e2
            rw [← i2.2.2.2 en, e0] at this
            exact absurd this n01
        · simp (disch := omega) only [forall_eq, true_and, and_true, and_self, not_true_eq_false, not_false_eq_true, false_imp_iff, true_imp_iff, imp_self, implies_true, ne_eq, reduceIte, cl, cl0, cl1, cl2, vpn, vp0, le8, le16, le40, le640, le1400, le6400, lt8, lt16, le15, le2, nI_leI, nI_ltI, nI_eq, nI_1, nI_add, n_le0, n_lt0, n_0le, n_eq0, n_eq1, n_eq2, n_m1, n_m1r, Nat.reduceEqDiff, Nat.reduceAdd, Int32.add_zero, nI_pred, div16, mul15, mul40, mul16, mul640, mulr16, xu_s, xu_c, xu_k, xu_cc, rows_xu, xf_s, xf_c, rows_xf, xul_c, rows_xul, xul_L, lgc]
          have hL : ∀ j, 1 ≤ j → j < mn o → fs o j = 2 → LL (fv o j) := fun j h1 h2 h3 => by
            refine hC o j o1 o3 hk2 (by omega) h2 h3 (fun e0 => ?_)
            have hh := (Vw_f hV o1 (a8 hk2)).2 e0
            rcases i1.1 _ (Vw_o hV hh.1).1 with x | ⟨_, q, q1, q2, q3⟩
            · rw [x] at ey; exact absurd (ey e0) n01
            · rw [← Vw_i hV q _ q1 hh.1 q2]; exact q3
          refine e_reachFields hV (f := 1) i1 o1 (a8 hk2) hL _ (fun l' pe' n' j1 j2 j3 => ?_)
          rw [o2]
          refine hk (l', pe', n') ⟨j1, MX_t i2 j2, fun en q hq => ?_⟩
          dsimp only at en
          have en1 : n1 = 0 := by have := j2.2.2.1; omega
          by_cases hq' : pl q < i
          · exact i3 en1 q hq'
          · intro hAq hl hkq h00 j hj0 hjm hj2
            rw [uq q hAq (by omega)] at hjm hj2 ⊢
            have ell : l' = l := by rw [j2.2.2.2 (by omega), i2.2.2.2 en1]
            rw [← ell]
            exact j3 j (by omega) hjm hj2
      · simp (disch := omega) only [forall_eq, true_and, and_true, and_self, not_true_eq_false, not_false_eq_true, false_imp_iff, true_imp_iff, imp_self, implies_true, ne_eq, reduceIte, cl, cl0, cl1, cl2, vpn, vp0, le8, le16, le40, le640, le1400, le6400, lt8, lt16, le15, le2, nI_leI, nI_ltI, nI_eq, nI_1, nI_add, n_le0, n_lt0, n_0le, n_eq0, n_eq1, n_eq2, n_m1, n_m1r, Nat.reduceEqDiff, Nat.reduceAdd, Int32.add_zero, nI_pred, div16, mul15, mul40, mul16, mul640, mulr16, xu_s, xu_c, xu_k, xu_cc, rows_xu, xf_s, xf_c, rows_xf, xul_c, rows_xul, xul_L, lgc, l1', mks_26, e, n10, mks_d, a7, hk2]
        refine hk (l1, pe1, n1) ⟨i1, i2, fun en q hq => ?_⟩
        dsimp only at en
        by_cases hq' : pl q < i
        · exact i3 en q hq'
        · intro hAq hl hkq
          rw [uq q hAq (by omega)] at hkq
          exact absurd hkq hk2
  · rintro g ⟨l1, pe1, n1⟩ ⟨i1, i2, i3⟩
    show b_Mar_reachByKeys_L2 (p_Mar_reachByKeys_L2 Q g) Q (nI 640) _
    unfold b_Mar_reachByKeys_L2
    dsimp only at i1 i2 i3 ⊢
    have hn6 := i1.2.2.1
    rcases Nat.eq_zero_or_pos n1 with e0 | e0
    · subst e0
      simp (disch := omega) only [forall_eq, true_and, and_true, and_self, not_true_eq_false, not_false_eq_true, false_imp_iff, true_imp_iff, imp_self, implies_true, ne_eq, reduceIte, cl, cl0, cl1, cl2, vpn, vp0, le8, le16, le40, le640, le1400, le6400, lt8, lt16, le15, le2, nI_leI, nI_ltI, nI_eq, nI_1, nI_add, n_le0, n_lt0, n_0le, n_eq0, n_eq1, n_eq2, n_m1, n_m1r, Nat.reduceEqDiff, Nat.reduceAdd, Int32.add_zero, nI_pred, div16, mul15, mul40, mul16, mul640, mulr16, xu_s, xu_c, xu_k, xu_cc, rows_xu, xf_s, xf_c, rows_xf, xul_c, rows_xul, xul_L, lgc, Nat.le_refl, mks_11]
      have := i2.2.2.2 rfl
      subst this
      exact h0 pe1 i1 (fun o ho => i3 rfl o (Vw_o hV ho).1 ho)
    · have nz : ¬ n1 = 0 := by omega
      simp (disch := omega) only [forall_eq, true_and, and_true, and_self, not_true_eq_false, not_false_eq_true, false_imp_iff, true_imp_iff, imp_self, implies_true, ne_eq, reduceIte, cl, cl0, cl1, cl2, vpn, vp0, le8, le16, le40, le640, le1400, le6400, lt8, lt16, le15, le2, nI_leI, nI_ltI, nI_eq, nI_1, nI_add, n_le0, n_lt0, n_0le, n_eq0, n_eq1, n_eq2, n_m1, n_m1r, Nat.reduceEqDiff, Nat.reduceAdd, Int32.add_zero, nI_pred, div16, mul15, mul40, mul16, mul640, mulr16, xu_s, xu_c, xu_k, xu_cc, rows_xu, xf_s, xf_c, rows_xf, xul_c, rows_xul, xul_L, lgc, Nat.le_refl, mks_11, nz]
      exact h1 l1 pe1 n1 i1 i2 e0
theorem e_spread {σ : xS} {A : Nat → Prop} {pl mn kd : Nat → Nat} {hd : Nat → Int32} {fs fc : Nat → Nat → Int32} {fv : Nat → Nat → Nat} (hV : Vw (σ 28) (σ 29) A pl mn kd hd fs fc fv) {Sd : Nat → Prop} {l pe : Nat → Int32} {n : Nat} (hJ : MJ A no_ex pl mn kd fs fv (Lv A Sd kd mn fs fv) l pe n) (Q : xS → Prop)
    (h : ∀ l' pe', MJ A no_ex pl mn kd fs fv (Lv A Sd kd mn fs fv) l' pe' 0 → (∀ p, l p = 1 → l' p = 1) → clo A kd mn fs fv (fun o => l' (pl o) = 1) → Q (mks σ l' pe' 0)) : p_Mar_spread (mks σ l pe n) Q := by
  have hC0 : ∀ o i, A o → Lv A Sd kd mn fs fv o → kd o = 0 → i < mn o → fs o i = 2 → Lv A Sd kd mn fs fv (fv o i) := fun o i ho hl hk hi h2 => Lv_clo o i ho hl hi h2 (Or.inl hk)
  have hC2 : ∀ o i, A o → Lv A Sd kd mn fs fv o → kd o = 2 → 0 < i → i < mn o → fs o i = 2 → (fs o 0 = 2 → Lv A Sd kd mn fs fv (fv o 0)) → Lv A Sd kd mn fs fv (fv o i) := fun o i ho hl hk h0 hi h2 h3 => Lv_clo o i ho hl hi h2 (Or.inr ⟨hk, h0, h3⟩)
  unfold p_Mar_spread
  refine e_followPending hV hC0 hJ _ (fun l0 pe0 hJ0 hm0 hc0 => ?_)
  refine lpS (S := (Nat → Int32) × (Nat → Int32)) (fun g i s => p_Mar_spread_L6 Q g (nI i) (mks σ s.1 s.2 0)) (fun i s => MJ A no_ex pl mn kd fs fv (Lv A Sd kd mn fs fv) s.1 s.2 0 ∧ (∀ p, l p = 1 → s.1 p = 1) ∧ cnt (fun p => s.1 p = 0) 640 + i ≤ 640) 640 ?_ ?_ (s := (l0, pe0)) ⟨hJ0, hm0, by show cnt (fun p => l0 p = 0) 640 + 0 ≤ 640; have := cnt_le (fun p => l0 p = 0) 640; omega⟩
  · rintro g i ⟨l1, pe1⟩ hi ⟨i1, i2, i3⟩ hk
    dsimp only at i1 i2 i3 hk ⊢
    show b_Mar_spread_L6 (p_Mar_spread_L6 Q g) Q (nI i) _
    unfold b_Mar_spread_L6
    have l1' : ¬ 640 ≤ i := by omega
    simp (disch := omega) only [forall_eq, true_and, and_true, and_self, not_true_eq_false, not_false_eq_true, false_imp_iff, true_imp_iff, imp_self, implies_true, ne_eq, reduceIte, cl, cl0, cl1, cl2, vpn, vp0, le8, le16, le40, le640, le1400, le6400, lt8, lt16, le15, le2, nI_leI, nI_ltI, nI_eq, nI_1, nI_add, n_le0, n_lt0, n_0le, n_eq0, n_eq1, n_eq2, n_m1, n_m1r, Nat.reduceEqDiff, Nat.reduceAdd, Int32.add_zero, nI_pred, div16, mul15, mul40, mul16, mul640, mulr16, xu_s, xu_c, xu_k, xu_cc, rows_xu, xf_s, xf_c, rows_xf, xul_c, rows_xul, xul_L, lgc, l1']
    refine e_reachByKeys hV hC2 i1 _ (fun pe' j1 j2 => ?_) (fun l' pe' n' j1 j2 j3 => ?_)
    · simp (disch := omega) only [forall_eq, true_and, and_true, and_self, not_true_eq_false, not_false_eq_true, false_imp_iff, true_imp_iff, imp_self, implies_true, ne_eq, reduceIte, cl, cl0, cl1, cl2, vpn, vp0, le8, le16, le40, le640, le1400, le6400, lt8, lt16, le15, le2, nI_leI, nI_ltI, nI_eq, nI_1, nI_add, n_le0, n_lt0, n_0le, n_eq0, n_eq1, n_eq2, n_m1, n_m1r, Nat.reduceEqDiff, Nat.reduceAdd, Int32.add_zero, nI_pred, div16, mul15, mul40, mul16, mul640, mulr16, xu_s, xu_c, xu_k, xu_cc, rows_xu, xf_s, xf_c, rows_xf, xul_c, rows_xul, xul_L, lgc]
      refine h l1 pe' j1 i2 (fun q i hq hl hi h2 hh => ?_)
      rcases hh with hk0 | ⟨hk2, h0, h00⟩
      · rcases j1.2.2.2 q hq (fun x => x) hl hk0 with ⟨k, k1, _⟩ | y
        · omega
        · exact y i hi h2
      · exact j2 q hq hl hk2 h00 i h0 hi h2
    · simp (disch := omega) only [forall_eq, true_and, and_true, and_self, not_true_eq_false, not_false_eq_true, false_imp_iff, true_imp_iff, imp_self, implies_true, ne_eq, reduceIte, cl, cl0, cl1, cl2, vpn, vp0, le8, le16, le40, le640, le1400, le6400, lt8, lt16, le15, le2, nI_leI, nI_ltI, nI_eq, nI_1, nI_add, n_le0, n_lt0, n_0le, n_eq0, n_eq1, n_eq2, n_m1, n_m1r, Nat.reduceEqDiff, Nat.reduceAdd, Int32.add_zero, nI_pred, div16, mul15, mul40, mul16, mul640, mulr16, xu_s, xu_c, xu_k, xu_cc, rows_xu, xf_s, xf_c, rows_xf, xul_c, rows_xul, xul_L, lgc, n10]
      refine e_followPending hV hC0 j1 _ (fun l2 pe2 x1 x2 x3 => ?_)
      refine hk (l2, pe2) ⟨x1, fun p hp => x2 p (j2.1 p (i2 p hp)), ?_⟩
      have a := j2.2.1
      have b : cnt (fun p => l2 p = 0) 640 ≤ cnt (fun p => l' p = 0) 640 := cnt_mono 640 (fun p hp e => by
        rcases j1.1 p hp with y | ⟨y, _⟩
        · exact y
        · have := x2 p y; rw [e] at this; exact absurd this n01)
      dsimp only
      omega
  · rintro g ⟨l1, pe1⟩ ⟨i1, i2, i3⟩
    show b_Mar_spread_L6 (p_Mar_spread_L6 Q g) Q (nI 640) _
    unfold b_Mar_spread_L6
    dsimp only at i1 i2 i3 ⊢
    simp (disch := omega) only [forall_eq, true_and, and_true, and_self, not_true_eq_false, not_false_eq_true, false_imp_iff, true_imp_iff, imp_self, implies_true, ne_eq, reduceIte, cl, cl0, cl1, cl2, vpn, vp0, le8, le16, le40, le640, le1400, le6400, lt8, lt16, le15, le2, nI_leI, nI_ltI, nI_eq, nI_1, nI_add, n_le0, n_lt0, n_0le, n_eq0, n_eq1, n_eq2, n_m1, n_m1r, Nat.reduceEqDiff, Nat.reduceAdd, Int32.add_zero, nI_pred, div16, mul15, mul40, mul16, mul640, mulr16, xu_s, xu_c, xu_k, xu_cc, rows_xu, xf_s, xf_c, rows_xf, xul_c, rows_xul, xul_L, lgc, Nat.le_refl]
    refine h l1 pe1 i1 i2 (fun q i hq hl hi h2 hh => ?_)
    have hp := (Vw_o hV ((Vw_f hV hq hi).2 h2).1).1
    rcases i1.1 _ hp with e | ⟨e, _⟩
    · exact absurd e (cnt_0 (P := fun p => l1 p = 0) (n := 640) (by omega) _ hp)
    · exact e
theorem e_start {σ : xS} {A : Nat → Prop} {pl mn kd : Nat → Nat} {hd : Nat → Int32} {fs fc : Nat → Nat → Int32} {fv : Nat → Nat → Nat} (hV : Vw (σ 28) (σ 29) A pl mn kd hd fs fc fv) {old : Nat → Prop} {r : Nat} (hr : r < 8) (ho : ∀ o, A o → ∃ g, σ 20 (pl o / 16) = nI g ∧ g < 8 ∧ (old o ↔ g < r)) (Q : xS → Prop)
    (h : ∀ l, (∀ p, p < 640 → (l p = 1 ∧ ∃ o, A o ∧ pl o = p ∧ old o) ∨ (l p = 0 ∧ ∀ o, A o → pl o = p → ¬ old o)) → Q (mks σ l (σ 27) 0)) : p_Mar_start (nI r) σ Q := by
  unfold p_Mar_start
  have key := lpS (S := Nat → Int32) (fun g i s => p_Mar_start_L2 Q g (nI r) (nI i) (va_up σ 26 s)) (fun i l => ∀ p, p < i → (l p = 1 ∧ ∃ o, A o ∧ pl o = p ∧ old o) ∨ (l p = 0 ∧ ∀ o, A o → pl o = p → ¬ old o)) 640 (by
    intro g i l hi hl hk
    show b_Mar_start_L2 (p_Mar_start_L2 Q g) Q (nI r) (nI i) _
    unfold b_Mar_start_L2 p_Hea_isObject p_Val_sortOf_19 p_Reg_ofPlace
    have l1' : ¬ 640 ≤ i := by omega
    have ext : ∀ v : Int32, ((v = 1 ∧ ∃ o, A o ∧ pl o = i ∧ old o) ∨ (v = 0 ∧ ∀ o, A o → pl o = i → ¬ old o)) → ∀ p, p < i + 1 → (upd l i v p = 1 ∧ ∃ o, A o ∧ pl o = p ∧ old o) ∨ (upd l i v p = 0 ∧ ∀ o, A o → pl o = p → ¬ old o) := fun v hv p hp => by
      by_cases e : p = i
      · rw [e, upd_s]; exact hv
      · rw [upd_n _ _ e]; exact hl p (by omega)
    by_cases e3 : σ 28 i = 3
    · obtain ⟨o, o1, o2⟩ := HeapR_h hV.1 (fun o i ho hi => (hV.2.2.2 o i ho hi).1) hi e3
      obtain ⟨g', g1, g2, g3⟩ := ho o o1
      rw [o2] at g1
      by_cases hg : g' < r
      · have hg' : ¬ r ≤ g' := by omega
        simp (disch := omega) only [forall_eq, true_and, and_true, and_self, not_true_eq_false, not_false_eq_true, false_imp_iff, true_imp_iff, imp_self, implies_true, ne_eq, reduceIte, cl, cl0, cl1, cl2, vpn, vp0, le8, le16, le40, le640, le1400, le6400, lt8, lt16, le15, le2, nI_leI, nI_ltI, nI_eq, nI_1, nI_add, n_le0, n_lt0, n_0le, n_eq0, n_eq1, n_eq2, n_m1, n_m1r, Nat.reduceEqDiff, Nat.reduceAdd, Int32.add_zero, nI_pred, div16, mul15, mul40, mul16, mul640, mulr16, xu_s, xu_c, xu_k, xu_cc, rows_xu, xf_s, xf_c, rows_xf, xul_c, rows_xul, xul_L, lgc, l1', e3, n10, g1, hg', nar1, xu_xf]
        exact hk _ (ext 1 (Or.inl ⟨rfl, o, o1, o2, g3.mpr hg⟩))
      · have hg' : r ≤ g' := by omega
        simp (disch := omega) only [forall_eq, true_and, and_true, and_self, not_true_eq_false, not_false_eq_true, false_imp_iff, true_imp_iff, imp_self, implies_true, ne_eq, reduceIte, cl, cl0, cl1, cl2, vpn, vp0, le8, le16, le40, le640, le1400, le6400, lt8, lt16, le15, le2, nI_leI, nI_ltI, nI_eq, nI_1, nI_add, n_le0, n_lt0, n_0le, n_eq0, n_eq1, n_eq2, n_m1, n_m1r, Nat.reduceEqDiff, Nat.reduceAdd, Int32.add_zero, nI_pred, div16, mul15, mul40, mul16, mul640, mulr16, xu_s, xu_c, xu_k, xu_cc, rows_xu, xf_s, xf_c, rows_xf, xul_c, rows_xul, xul_L, lgc, l1', e3, n10, g1, hg', nar0, xu_xf]
        exact hk _ (ext 0 (Or.inr ⟨rfl, fun q q1 q2 q3 => hg (g3.mp (Vw_i hV q o q1 o1 (by rw [q2, o2]) ▸ q3))⟩))
    · simp (disch := omega) only [forall_eq, true_and, and_true, and_self, not_true_eq_false, not_false_eq_true, false_imp_iff, true_imp_iff, imp_self, implies_true, ne_eq, reduceIte, cl, cl0, cl1, cl2, vpn, vp0, le8, le16, le40, le640, le1400, le6400, lt8, lt16, le15, le2, nI_leI, nI_ltI, nI_eq, nI_1, nI_add, n_le0, n_lt0, n_0le, n_eq0, n_eq1, n_eq2, n_m1, n_m1r, Nat.reduceEqDiff, Nat.reduceAdd, Int32.add_zero, nI_pred, div16, mul15, mul40, mul16, mul640, mulr16, xu_s, xu_c, xu_k, xu_cc, rows_xu, xf_s, xf_c, rows_xf, xul_c, rows_xul, xul_L, lgc, l1', e3, n10, nar0, xu_xf]
      exact hk _ (ext 0 (Or.inr ⟨rfl, fun q q1 q2 _ => e3 (by rw [← q2]; exact (Vw_o hV q1).2.2.2.2.1)⟩))) (by
    intro g l hl
    show b_Mar_start_L2 (p_Mar_start_L2 Q g) Q (nI r) (nI 640) _
    unfold b_Mar_start_L2
    simp (disch := omega) only [forall_eq, true_and, and_true, and_self, not_true_eq_false, not_false_eq_true, false_imp_iff, true_imp_iff, imp_self, implies_true, ne_eq, reduceIte, cl, cl0, cl1, cl2, vpn, vp0, le8, le16, le40, le640, le1400, le6400, lt8, lt16, le15, le2, nI_leI, nI_ltI, nI_eq, nI_1, nI_add, n_le0, n_lt0, n_0le, n_eq0, n_eq1, n_eq2, n_m1, n_m1r, Nat.reduceEqDiff, Nat.reduceAdd, Int32.add_zero, nI_pred, div16, mul15, mul40, mul16, mul640, mulr16, xu_s, xu_c, xu_k, xu_cc, rows_xu, xf_s, xf_c, rows_xf, xul_c, rows_xul, xul_L, lgc, Nat.le_refl]
    have := h l hl
    unfold mks at this
    have e : va_up (va_up σ 26 l) 27 (σ 27) = va_up σ 26 l := by
      have := xf_0 (va_up σ 26 l) 27
      rw [xf_c _ _ _ (by decide)] at this
      exact this
    rw [e] at this
    exact this) (s := σ 26) (fun p hp => by omega)
  rw [xf_0] at key
  exact key
theorem e_reachRoots {σ : xS} {A : Nat → Prop} {pl mn kd : Nat → Nat} {hd : Nat → Int32} {fs fc : Nat → Nat → Int32} {fv : Nat → Nat → Nat} (hV : Vw (σ 28) (σ 29) A pl mn kd hd fs fc fv) {LL : Nat → Prop} {rt : Nat → Nat} (hr : ∀ k, k < 16 → σ 17 k = 2 → A (rt k) ∧ σ 18 k = nI (pl (rt k)) ∧ LL (rt k)) {l pe : Nat → Int32} {n : Nat} (hJ : MJ A no_ex pl mn kd fs fv LL l pe n) (Q : xS → Prop)
    (h : ∀ l' pe' n', MJ A no_ex pl mn kd fs fv LL l' pe' n' → MX l n l' n' → (∀ k, k < 16 → σ 17 k = 2 → l' (pl (rt k)) = 1) → Q (mks σ l' pe' n')) : p_Mar_reachRoots (mks σ l pe n) Q := by
  unfold p_Mar_reachRoots
  refine lpS (S := (Nat → Int32) × (Nat → Int32) × Nat) (fun g i s => p_Mar_reachRoots_L2 Q g (nI i) (mks σ s.1 s.2.1 s.2.2)) (fun i s => MJ A no_ex pl mn kd fs fv LL s.1 s.2.1 s.2.2 ∧ MX l n s.1 s.2.2 ∧ ∀ k, k < i → σ 17 k = 2 → s.1 (pl (rt k)) = 1) 16 ?_ ?_ (s := (l, pe, n)) ⟨hJ, MX_0 l n, fun k h => by omega⟩
  · rintro g i ⟨l1, pe1, n1⟩ hi ⟨i1, i2, i3⟩ hk
    dsimp only at i1 i2 i3 hk ⊢
    show b_Mar_reachRoots_L2 (p_Mar_reachRoots_L2 Q g) Q (nI i) _
    unfold b_Mar_reachRoots_L2 p_Val_isReference_5 p_Val_contentOf_5
    have l1' : ¬ 16 ≤ i := by omega
    by_cases e2 : σ 17 i = 2
    · obtain ⟨f3, f4, f5⟩ := hr i hi e2
      simp (disch := omega) only [forall_eq, true_and, and_true, and_self, not_true_eq_false, not_false_eq_true, false_imp_iff, true_imp_iff, imp_self, implies_true, ne_eq, reduceIte, cl, cl0, cl1, cl2, vpn, vp0, le8, le16, le40, le640, le1400, le6400, lt8, lt16, le15, le2, nI_leI, nI_ltI, nI_eq, nI_1, nI_add, n_le0, n_lt0, n_0le, n_eq0, n_eq1, n_eq2, n_m1, n_m1r, Nat.reduceEqDiff, Nat.reduceAdd, Int32.add_zero, nI_pred, div16, mul15, mul40, mul16, mul640, mulr16, xu_s, xu_c, xu_k, xu_cc, rows_xu, xf_s, xf_c, rows_xf, xul_c, rows_xul, xul_L, lgc, l1', mks_d, e2, n10, f4]
      refine e_reach (fun o ho => (Vw_o hV ho).1) (Vw_i hV) i1 f3 f5 _ (fun l' pe' n' j1 j2 j3 => ?_)
      refine hk (l', pe', n') ⟨j1, MX_t i2 j2, fun j h2 h3 => ?_⟩
      by_cases ej : j = i
      · rw [ej]; exact j3
      · exact j2.1 _ (i3 j (by omega) h3)
    · simp (disch := omega) only [forall_eq, true_and, and_true, and_self, not_true_eq_false, not_false_eq_true, false_imp_iff, true_imp_iff, imp_self, implies_true, ne_eq, reduceIte, cl, cl0, cl1, cl2, vpn, vp0, le8, le16, le40, le640, le1400, le6400, lt8, lt16, le15, le2, nI_leI, nI_ltI, nI_eq, nI_1, nI_add, n_le0, n_lt0, n_0le, n_eq0, n_eq1, n_eq2, n_m1, n_m1r, Nat.reduceEqDiff, Nat.reduceAdd, Int32.add_zero, nI_pred, div16, mul15, mul40, mul16, mul640, mulr16, xu_s, xu_c, xu_k, xu_cc, rows_xu, xf_s, xf_c, rows_xf, xul_c, rows_xul, xul_L, lgc, l1', mks_d, e2, n10]
      refine hk (l1, pe1, n1) ⟨i1, i2, fun j h2 h3 => i3 j ?_ h3⟩
      have : j ≠ i := fun e => e2 (e ▸ h3)
      omega
  · rintro g ⟨l1, pe1, n1⟩ ⟨i1, i2, i3⟩
    show b_Mar_reachRoots_L2 (p_Mar_reachRoots_L2 Q g) Q (nI 16) _
    unfold b_Mar_reachRoots_L2
    simp (disch := omega) only [forall_eq, true_and, and_true, and_self, not_true_eq_false, not_false_eq_true, false_imp_iff, true_imp_iff, imp_self, implies_true, ne_eq, reduceIte, cl, cl0, cl1, cl2, vpn, vp0, le8, le16, le40, le640, le1400, le6400, lt8, lt16, le15, le2, nI_leI, nI_ltI, nI_eq, nI_1, nI_add, n_le0, n_lt0, n_0le, n_eq0, n_eq1, n_eq2, n_m1, n_m1r, Nat.reduceEqDiff, Nat.reduceAdd, Int32.add_zero, nI_pred, div16, mul15, mul40, mul16, mul640, mulr16, xu_s, xu_c, xu_k, xu_cc, rows_xu, xf_s, xf_c, rows_xf, xul_c, rows_xul, xul_L, lgc, Nat.le_refl]
    exact h l1 pe1 n1 i1 i2 i3
theorem e_reachQueue {σ : xS} {A : Nat → Prop} {pl mn kd : Nat → Nat} {hd : Nat → Int32} {fs fc : Nat → Nat → Int32} {fv : Nat → Nat → Nat} (hV : Vw (σ 28) (σ 29) A pl mn kd hd fs fc fv) {LL : Nat → Prop} {qu : Nat → Nat} {m : Nat} (hm : σ 8 1 = nI m) (h6 : m ≤ 640) (hr : ∀ k, k < m → A (qu k) ∧ σ 24 k = nI (pl (qu k)) ∧ LL (qu k)) {l pe : Nat → Int32} {n : Nat} (hJ : MJ A no_ex pl mn kd fs fv LL l pe n) (Q : xS → Prop)
    (h : ∀ l' pe' n', MJ A no_ex pl mn kd fs fv LL l' pe' n' → MX l n l' n' → (∀ k, k < m → l' (pl (qu k)) = 1) → Q (mks σ l' pe' n')) : p_Mar_reachQueue (mks σ l pe n) Q := by
  unfold p_Mar_reachQueue
  refine lpS (S := (Nat → Int32) × (Nat → Int32) × Nat) (fun g i s => p_Mar_reachQueue_L2 Q g (nI i) (mks σ s.1 s.2.1 s.2.2)) (fun i s => MJ A no_ex pl mn kd fs fv LL s.1 s.2.1 s.2.2 ∧ MX l n s.1 s.2.2 ∧ ∀ k, k < i → s.1 (pl (qu k)) = 1) m ?_ ?_ (s := (l, pe, n)) ⟨hJ, MX_0 l n, fun k h => by omega⟩
  · rintro g i ⟨l1, pe1, n1⟩ hi ⟨i1, i2, i3⟩ hk
    dsimp only at i1 i2 i3 hk ⊢
    show b_Mar_reachQueue_L2 (p_Mar_reachQueue_L2 Q g) Q (nI i) _
    unfold b_Mar_reachQueue_L2 p_Lin_length_8 p_Lin_itemAt_8
    have l1' : ¬ m ≤ i := by omega
    obtain ⟨f3, f4, f5⟩ := hr i hi
    simp (disch := omega) only [forall_eq, true_and, and_true, and_self, not_true_eq_false, not_false_eq_true, false_imp_iff, true_imp_iff, imp_self, implies_true, ne_eq, reduceIte, cl, cl0, cl1, cl2, vpn, vp0, le8, le16, le40, le640, le1400, le6400, lt8, lt16, le15, le2, nI_leI, nI_ltI, nI_eq, nI_1, nI_add, n_le0, n_lt0, n_0le, n_eq0, n_eq1, n_eq2, n_m1, n_m1r, Nat.reduceEqDiff, Nat.reduceAdd, Int32.add_zero, nI_pred, div16, mul15, mul40, mul16, mul640, mulr16, xu_s, xu_c, xu_k, xu_cc, rows_xu, xf_s, xf_c, rows_xf, xul_c, rows_xul, xul_L, lgc, l1', mks_d, hm, f4]
    refine e_reach (fun o ho => (Vw_o hV ho).1) (Vw_i hV) i1 f3 f5 _ (fun l' pe' n' j1 j2 j3 => ?_)
    refine hk (l', pe', n') ⟨j1, MX_t i2 j2, fun j h2 => ?_⟩
    by_cases ej : j = i
    · rw [ej]; exact j3
    · exact j2.1 _ (i3 j (by omega))
  · rintro g ⟨l1, pe1, n1⟩ ⟨i1, i2, i3⟩
    show b_Mar_reachQueue_L2 (p_Mar_reachQueue_L2 Q g) Q (nI m) _
    unfold b_Mar_reachQueue_L2 p_Lin_length_8
    simp (disch := omega) only [forall_eq, true_and, and_true, and_self, not_true_eq_false, not_false_eq_true, false_imp_iff, true_imp_iff, imp_self, implies_true, ne_eq, reduceIte, cl, cl0, cl1, cl2, vpn, vp0, le8, le16, le40, le640, le1400, le6400, lt8, lt16, le15, le2, nI_leI, nI_ltI, nI_eq, nI_1, nI_add, n_le0, n_lt0, n_0le, n_eq0, n_eq1, n_eq2, n_m1, n_m1r, Nat.reduceEqDiff, Nat.reduceAdd, Int32.add_zero, nI_pred, div16, mul15, mul40, mul16, mul640, mulr16, xu_s, xu_c, xu_k, xu_cc, rows_xu, xf_s, xf_c, rows_xf, xul_c, rows_xul, xul_L, lgc, Nat.le_refl, mks_d, hm]
    exact h l1 pe1 n1 i1 i2 i3
