noncomputable def adP (g : Nat → Nat) (r : Nat) (s : Int32) (u : Nat) (st : (Nat → Nat) × Nat) : (Nat → Nat) × Nat := @ite _ (s = 2 ∧ r < g u ∧ ∀ k, k < st.2 → st.1 k ≠ u) (Classical.propDecidable _) (va_up st.1 st.2 u, st.2 + 1) st
theorem adP_y {g : Nat → Nat} {r : Nat} {s : Int32} {u : Nat} {st : (Nat → Nat) × Nat} (h : s = 2 ∧ r < g u ∧ ∀ k, k < st.2 → st.1 k ≠ u) : adP g r s u st = (va_up st.1 st.2 u, st.2 + 1) := if_pos h
theorem adP_n {g : Nat → Nat} {r : Nat} {s : Int32} {u : Nat} {st : (Nat → Nat) × Nat} (h : ¬ (s = 2 ∧ r < g u ∧ ∀ k, k < st.2 → st.1 k ≠ u)) : adP g r s u st = st := if_neg h
noncomputable def adF (g : Nat → Nat) (r : Nat) (fs : Nat → Nat → Int32) (fv : Nat → Nat → Nat) (o : Nat) (st : (Nat → Nat) × Nat) : Nat → (Nat → Nat) × Nat := fun i => Nat.rec st (fun i x => adP g r (fs o i) (fv o i) x) i
noncomputable def adK (g mn : Nat → Nat) (r : Nat) (fs : Nat → Nat → Int32) (fv : Nat → Nat → Nat) (st : (Nat → Nat) × Nat) : Nat → (Nat → Nat) × Nat := fun k => Nat.rec st (fun k x => if k < x.2 then adF g r fs fv (x.1 k) x (mn (x.1 k)) else x) k
def PX (a b : (Nat → Nat) × Nat) : Prop := a.2 ≤ b.2 ∧ ∀ k, k < a.2 → b.1 k = a.1 k
theorem PX_r (a : (Nat → Nat) × Nat) : PX a a := ⟨Nat.le_refl _, fun _ _ => rfl⟩
theorem PX_t {a b c : (Nat → Nat) × Nat} (h : PX a b) (h' : PX b c) : PX a c := ⟨Nat.le_trans h.1 h'.1, fun k hk => by rw [h'.2 k (Nat.lt_of_lt_of_le hk h.1), h.2 k hk]⟩
theorem adP_X (g : Nat → Nat) (r : Nat) (s : Int32) (u : Nat) (st : (Nat → Nat) × Nat) : PX st (adP g r s u st) := by
  by_cases h : s = 2 ∧ r < g u ∧ ∀ k, k < st.2 → st.1 k ≠ u
  · rw [adP_y h]; exact ⟨Nat.le_succ _, fun k hk => vu_n _ _ (by omega)⟩
  · rw [adP_n h]; exact PX_r _
theorem adF_X (g : Nat → Nat) (r : Nat) (fs : Nat → Nat → Int32) (fv : Nat → Nat → Nat) (o : Nat) (st : (Nat → Nat) × Nat) : ∀ i, PX st (adF g r fs fv o st i) := by
  intro i
  induction i with
  | zero => exact PX_r _
  | succ i ih => exact PX_t ih (adP_X _ _ _ _ _)
def PG (B : Nat → Prop) (g : Nat → Nat) (r : Nat) (st : (Nat → Nat) × Nat) : Prop := (∀ k, k < st.2 → B (st.1 k) ∧ r < g (st.1 k)) ∧ (∀ j k, j < k → k < st.2 → st.1 j ≠ st.1 k)
theorem PG_le {B : Nat → Prop} {g : Nat → Nat} {r : Nat} {st : (Nat → Nat) × Nat} (h : PG B g r st) (hB : ∀ o, B o → o < 640) : st.2 ≤ 640 := pigeon 640 st.2 st.1 (fun i hi => hB _ (h.1 i hi).1) h.2
theorem adP_G {B : Nat → Prop} {g : Nat → Nat} {r : Nat} {s : Int32} {u : Nat} {st : (Nat → Nat) × Nat} (h : PG B g r st) (hu : s = 2 → B u) : PG B g r (adP g r s u st) := by
  by_cases hh : s = 2 ∧ r < g u ∧ ∀ k, k < st.2 → st.1 k ≠ u
  · rw [adP_y hh]
    refine ⟨fun k hk => ?_, fun j k hj hk => ?_⟩
    · dsimp only at hk ⊢
      by_cases e : k = st.2
      · rw [e, vu_s]; exact ⟨hu hh.1, hh.2.1⟩
      · rw [vu_n _ _ e]; exact h.1 k (by omega)
    · dsimp only at hk ⊢
      rw [vu_n _ _ (show j ≠ st.2 by omega)]
      by_cases e : k = st.2
      · rw [e, vu_s]; exact hh.2.2 j (by omega)
      · rw [vu_n _ _ e]; exact h.2 j k hj (by omega)
  · rw [adP_n hh]; exact h
theorem adF_G {B : Nat → Prop} {g mn : Nat → Nat} {r : Nat} {fs : Nat → Nat → Int32} {fv : Nat → Nat → Nat} {o : Nat} {st : (Nat → Nat) × Nat} (h : PG B g r st) (hf : ∀ i, i < mn o → fs o i = 2 → B (fv o i)) : ∀ i, i ≤ mn o → PG B g r (adF g r fs fv o st i) := by
  intro i
  induction i with
  | zero => intro _; exact h
  | succ i ih => intro hi; exact adP_G (ih (by omega)) (hf i (by omega))
theorem adP_in {g : Nat → Nat} {r : Nat} {s : Int32} {u : Nat} {st : (Nat → Nat) × Nat} (h2 : s = 2) (hg : r < g u) : ∃ k, k < (adP g r s u st).2 ∧ (adP g r s u st).1 k = u := by
  by_cases hh : s = 2 ∧ r < g u ∧ ∀ k, k < st.2 → st.1 k ≠ u
  · rw [adP_y hh]; exact ⟨st.2, Nat.lt_succ_self _, vu_s _ _ _⟩
  · rw [adP_n hh]
    refine Classical.byContradiction (fun hn => hh ⟨h2, hg, fun k hk e => hn ⟨k, hk, e⟩⟩)
theorem adF_in {g : Nat → Nat} {r : Nat} {fs : Nat → Nat → Int32} {fv : Nat → Nat → Nat} {o : Nat} {st : (Nat → Nat) × Nat} : ∀ i j, j < i → fs o j = 2 → r < g (fv o j) → ∃ k, k < (adF g r fs fv o st i).2 ∧ (adF g r fs fv o st i).1 k = fv o j := by
  intro i
  induction i with
  | zero => intro j hj; omega
  | succ i ih =>
    intro j hj h2 hg
    by_cases e : j = i
    · rw [e] at h2 hg ⊢; exact adP_in h2 hg
    · obtain ⟨k, k1, k2⟩ := ih j (by omega) h2 hg
      obtain ⟨x1, x2⟩ := adP_X g r (fs o i) (fv o i) (adF g r fs fv o st i)
      exact ⟨k, Nat.lt_of_lt_of_le k1 x1, (x2 k k1).trans k2⟩
theorem adK_y {g mn : Nat → Nat} {r : Nat} {fs : Nat → Nat → Int32} {fv : Nat → Nat → Nat} {st : (Nat → Nat) × Nat} {k : Nat} (h : k < (adK g mn r fs fv st k).2) : adK g mn r fs fv st (k + 1) = adF g r fs fv ((adK g mn r fs fv st k).1 k) (adK g mn r fs fv st k) (mn ((adK g mn r fs fv st k).1 k)) := if_pos h
theorem adK_n {g mn : Nat → Nat} {r : Nat} {fs : Nat → Nat → Int32} {fv : Nat → Nat → Nat} {st : (Nat → Nat) × Nat} {k : Nat} (h : ¬ k < (adK g mn r fs fv st k).2) : adK g mn r fs fv st (k + 1) = adK g mn r fs fv st k := if_neg h
theorem adK_G {B : Nat → Prop} {g mn : Nat → Nat} {r : Nat} {fs : Nat → Nat → Int32} {fv : Nat → Nat → Nat} {st : (Nat → Nat) × Nat} (h : PG B g r st) (hf : ∀ o i, B o → i < mn o → fs o i = 2 → B (fv o i)) : ∀ k, PG B g r (adK g mn r fs fv st k) ∧ (∀ j, j < k → j < (adK g mn r fs fv st k).2 → ∀ i, i < mn ((adK g mn r fs fv st k).1 j) → fs ((adK g mn r fs fv st k).1 j) i = 2 → r < g (fv ((adK g mn r fs fv st k).1 j) i) → ∃ m, m < (adK g mn r fs fv st k).2 ∧ (adK g mn r fs fv st k).1 m = fv ((adK g mn r fs fv st k).1 j) i) := by
  intro k
  induction k with
  | zero => exact ⟨h, fun j hj => by omega⟩
  | succ k ih =>
    obtain ⟨ih1, ih2⟩ := ih
    by_cases hk : k < (adK g mn r fs fv st k).2
    · rw [adK_y hk]
      have hX := adF_X g r fs fv ((adK g mn r fs fv st k).1 k) (adK g mn r fs fv st k) (mn ((adK g mn r fs fv st k).1 k))
      refine ⟨adF_G ih1 (fun i hi h2 => hf _ i (ih1.1 k hk).1 hi h2) _ (Nat.le_refl _), fun j hj hc i hi h2 hg => ?_⟩
      by_cases e : j = k
      · rw [e] at hi h2 hg ⊢
        rw [hX.2 k hk] at hi h2 hg ⊢
        exact adF_in _ i hi h2 hg
      · have ej := hX.2 j (by omega)
        rw [ej] at hi h2 hg ⊢
        obtain ⟨m, m1, m2⟩ := ih2 j (by omega) (by omega) i hi h2 hg
        exact ⟨m, Nat.lt_of_lt_of_le m1 hX.1, (hX.2 m m1).trans m2⟩
    · rw [adK_n hk]
      exact ⟨ih1, fun j hj hc => ih2 j (by omega) hc⟩
def PC (σ τ : xS) (pl : Nat → Nat) (st : (Nat → Nat) × Nat) : Prop := τ 3 3 = nI st.2 ∧ (∀ k, k < st.2 → τ 12 k = nI (pl (st.1 k))) ∧ (∀ p, p < 640 → (τ 13 p = 1 ∧ ∃ k, k < st.2 ∧ pl (st.1 k) = p) ∨ (τ 13 p = 0 ∧ ∀ k, k < st.2 → pl (st.1 k) ≠ p)) ∧ (∀ d, d ≠ 3 → d ≠ 12 → d ≠ 13 → τ d = σ d)
theorem PC_add {σ τ : xS} {B : Nat → Prop} {pl g : Nat → Nat} {r u : Nat} {s : Int32} {st : (Nat → Nat) × Nat} (hB : ∀ o, B o → o < 640) (hinj : ∀ o q, B o → B q → pl o = pl q → o = q) (hp : pl u < 640) (hu : B u) (h2 : s = 2) (hG : PG B g r st) (hC : PC σ τ pl st) (hg : r < g u) (Q : xS → Prop) (h : ∀ τ', PC σ τ' pl (adP g r s u st) → Q τ') :
    (¬ τ 13 (pl u) = 0 → Q τ) ∧ (τ 13 (pl u) = 0 → (st.2 < 640 ∧ Q (xu (xu (xu τ 12 st.2 (nI (pl u))) 13 (pl u) 1) 3 3 (nI (st.2 + 1))))) := by
  obtain ⟨C1, C2, C3, C4⟩ := id hC
  rcases C3 (pl u) hp with ⟨e, k, k1, k2⟩ | ⟨e, hno⟩
  · refine ⟨fun _ => h τ ?_, fun x => by rw [e] at x; exact absurd x n10⟩
    rw [adP_n (fun x => x.2.2 k k1 (hinj _ _ (hG.1 k k1).1 hu k2))]
    exact hC
  · have hh : s = 2 ∧ r < g u ∧ ∀ k, k < st.2 → st.1 k ≠ u := ⟨h2, hg, fun k hk x => hno k hk (by rw [x])⟩
    have hle : st.2 + 1 ≤ 640 := by
      have := PG_le (adP_G (s := s) hG (fun _ => hu)) hB
      rw [adP_y hh] at this
      exact this
    refine ⟨fun x => absurd e x, fun _ => ⟨by omega, h _ ?_⟩⟩
    rw [adP_y hh]
    refine ⟨?_, fun k hk => ?_, fun p hp' => ?_, fun d d1 d2 d3 => ?_⟩
    · simp (disch := omega) only [forall_eq, true_and, and_true, and_self, not_true_eq_false, not_false_eq_true, false_imp_iff, true_imp_iff, imp_self, implies_true, ne_eq, reduceIte, cl, cl0, cl1, cl2, vpn, vp0, le8, le16, le40, le640, le1400, le6400, lt8, lt16, le15, le2, nI_leI, nI_ltI, nI_eq, nI_1, nI_add, n_le0, n_lt0, n_0le, n_eq0, n_eq1, n_eq2, n_m1, n_m1r, Nat.reduceEqDiff, Nat.reduceAdd, Int32.add_zero, nI_pred, div16, mul15, mul40, mul16, mul640, mulr16, xu_s, xu_c, xu_k, xu_cc, rows_xu, xf_s, xf_c, rows_xf, xul_c, rows_xul, xul_L, lgc]
    · simp (disch := omega) only [forall_eq, true_and, and_true, and_self, not_true_eq_false, not_false_eq_true, false_imp_iff, true_imp_iff, imp_self, implies_true, ne_eq, reduceIte, cl, cl0, cl1, cl2, vpn, vp0, le8, le16, le40, le640, le1400, le6400, lt8, lt16, le15, le2, nI_leI, nI_ltI, nI_eq, nI_1, nI_add, n_le0, n_lt0, n_0le, n_eq0, n_eq1, n_eq2, n_m1, n_m1r, Nat.reduceEqDiff, Nat.reduceAdd, Int32.add_zero, nI_pred, div16, mul15, mul40, mul16, mul640, mulr16, xu_s, xu_c, xu_k, xu_cc, rows_xu, xf_s, xf_c, rows_xf, xul_c, rows_xul, xul_L, lgc]
      by_cases e' : k = st.2
      · rw [e', upd_s, vu_s]
      · rw [upd_n _ _ e', vu_n _ _ e']; exact C2 k (by dsimp only at hk; omega)
    · simp (disch := omega) only [forall_eq, true_and, and_true, and_self, not_true_eq_false, not_false_eq_true, false_imp_iff, true_imp_iff, imp_self, implies_true, ne_eq, reduceIte, cl, cl0, cl1, cl2, vpn, vp0, le8, le16, le40, le640, le1400, le6400, lt8, lt16, le15, le2, nI_leI, nI_ltI, nI_eq, nI_1, nI_add, n_le0, n_lt0, n_0le, n_eq0, n_eq1, n_eq2, n_m1, n_m1r, Nat.reduceEqDiff, Nat.reduceAdd, Int32.add_zero, nI_pred, div16, mul15, mul40, mul16, mul640, mulr16, xu_s, xu_c, xu_k, xu_cc, rows_xu, xf_s, xf_c, rows_xf, xul_c, rows_xul, xul_L, lgc]
      by_cases ep : p = pl u
      · left
        rw [ep, upd_s]
        exact ⟨rfl, st.2, by omega, by rw [vu_s]⟩
      · rw [upd_n _ _ ep]
        rcases C3 p hp' with ⟨y, k, k1, k2⟩ | ⟨y, y'⟩
        · left; exact ⟨y, k, by omega, by rw [vu_n _ _ (by omega)]; exact k2⟩
        · right
          refine ⟨y, fun k hk => ?_⟩
          by_cases e' : k = st.2
          · rw [e', vu_s]; exact fun z => ep z.symm
          · rw [vu_n _ _ e']; exact y' k (by omega)
    · simp (disch := omega) only [forall_eq, true_and, and_true, and_self, not_true_eq_false, not_false_eq_true, false_imp_iff, true_imp_iff, imp_self, implies_true, ne_eq, reduceIte, cl, cl0, cl1, cl2, vpn, vp0, le8, le16, le40, le640, le1400, le6400, lt8, lt16, le15, le2, nI_leI, nI_ltI, nI_eq, nI_1, nI_add, n_le0, n_lt0, n_0le, n_eq0, n_eq1, n_eq2, n_m1, n_m1r, Nat.reduceEqDiff, Nat.reduceAdd, Int32.add_zero, nI_pred, div16, mul15, mul40, mul16, mul640, mulr16, xu_s, xu_c, xu_k, xu_cc, rows_xu, xf_s, xf_c, rows_xf, xul_c, rows_xul, xul_L, lgc]; exact C4 d d1 d2 d3
def PE (σ : xS) (B : Nat → Prop) (pl mn g : Nat → Nat) : Prop := (∀ o, B o → o < 640 ∧ g o < 8 ∧ σ 20 (pl o / 16) = nI (g o)) 
theorem e_addC {σ : xS} {A : Nat → Prop} {pl mn kd : Nat → Nat} {hd : Nat → Int32} {fs fc : Nat → Nat → Int32} {fv : Nat → Nat → Nat} (hV : Vw (σ 28) (σ 29) A pl mn kd hd fs fc fv) {g : Nat → Nat} {r o i : Nat} {τ : xS} {st : (Nat → Nat) × Nat} (hr : r < 8) (hP : PE σ (A) pl mn g) (hG : PG A g r st) (hC : PC σ τ pl st) (ho : A o) (hi : i < mn o) (Q : xS → Prop) (h : ∀ τ', PC σ τ' pl (adP g r (fs o i) (fv o i) st) → Q τ') : p_Par_addIfPart_3_19 (nI (pl o + 1 + i)) (nI r) τ Q := by
  obtain ⟨a1, a2, a3, a4, a5, a6, a7, a8⟩ := Vw_o hV ho
  obtain ⟨f1, f2⟩ := Vw_f hV ho hi
  obtain ⟨C1, C2, C3, C4⟩ := id hC
  have t28 := C4 28 (by decide) (by decide) (by decide)
  have t29 := C4 29 (by decide) (by decide) (by decide)
  have t20 := C4 20 (by decide) (by decide) (by decide)
  unfold p_Par_addIfPart_3_19 p_Mem_refersBeyond_1_19 p_Val_isReference_19 p_Val_contentOf_19 p_Reg_ofPlace
  by_cases e2 : fs o i = 2
  · obtain ⟨f3, f4⟩ := f2 e2
    have hp := (Vw_o hV f3).1
    obtain ⟨b1, b2, b3⟩ := hP (fv o i) f3
    by_cases hg : g (fv o i) ≤ r
    · have hh := h τ (by rw [adP_n (fun x => by omega)]; exact hC)
      simp (disch := omega) only [forall_eq, true_and, and_true, and_self, not_true_eq_false, not_false_eq_true, false_imp_iff, true_imp_iff, imp_self, implies_true, ne_eq, reduceIte, cl, cl0, cl1, cl2, vpn, vp0, le8, le16, le40, le640, le1400, le6400, lt8, lt16, le15, le2, nI_leI, nI_ltI, nI_eq, nI_1, nI_add, n_le0, n_lt0, n_0le, n_eq0, n_eq1, n_eq2, n_m1, n_m1r, Nat.reduceEqDiff, Nat.reduceAdd, Int32.add_zero, nI_pred, div16, mul15, mul40, mul16, mul640, mulr16, xu_s, xu_c, xu_k, xu_cc, rows_xu, xf_s, xf_c, rows_xf, xul_c, rows_xul, xul_L, lgc, t28, f1, e2, n10, t29, f4, t20, b3, hg]
      exact hh
    · have key := PC_add (fun o ho => (hP o ho).1) (Vw_i hV) hp f3 e2 hG hC (by omega) Q h
      by_cases z : τ 13 (pl (fv o i)) = 0
      · obtain ⟨k1, k2⟩ := key.2 z
        simp (disch := omega) only [forall_eq, true_and, and_true, and_self, not_true_eq_false, not_false_eq_true, false_imp_iff, true_imp_iff, imp_self, implies_true, ne_eq, reduceIte, cl, cl0, cl1, cl2, vpn, vp0, le8, le16, le40, le640, le1400, le6400, lt8, lt16, le15, le2, nI_leI, nI_ltI, nI_eq, nI_1, nI_add, n_le0, n_lt0, n_0le, n_eq0, n_eq1, n_eq2, n_m1, n_m1r, Nat.reduceEqDiff, Nat.reduceAdd, Int32.add_zero, nI_pred, div16, mul15, mul40, mul16, mul640, mulr16, xu_s, xu_c, xu_k, xu_cc, rows_xu, xf_s, xf_c, rows_xf, xul_c, rows_xul, xul_L, lgc, t28, f1, e2, n10, t29, f4, t20, b3, hg, z, C1, upd_s, nar1]
        exact k2
      · simp (disch := omega) only [forall_eq, true_and, and_true, and_self, not_true_eq_false, not_false_eq_true, false_imp_iff, true_imp_iff, imp_self, implies_true, ne_eq, reduceIte, cl, cl0, cl1, cl2, vpn, vp0, le8, le16, le40, le640, le1400, le6400, lt8, lt16, le15, le2, nI_leI, nI_ltI, nI_eq, nI_1, nI_add, n_le0, n_lt0, n_0le, n_eq0, n_eq1, n_eq2, n_m1, n_m1r, Nat.reduceEqDiff, Nat.reduceAdd, Int32.add_zero, nI_pred, div16, mul15, mul40, mul16, mul640, mulr16, xu_s, xu_c, xu_k, xu_cc, rows_xu, xf_s, xf_c, rows_xf, xul_c, rows_xul, xul_L, lgc, t28, f1, e2, n10, t29, f4, t20, b3, hg, z]
        exact key.1 z
  · have hh := h τ (by rw [adP_n (fun x => e2 x.1)]; exact hC)
    simp (disch := omega) only [forall_eq, true_and, and_true, and_self, not_true_eq_false, not_false_eq_true, false_imp_iff, true_imp_iff, imp_self, implies_true, ne_eq, reduceIte, cl, cl0, cl1, cl2, vpn, vp0, le8, le16, le40, le640, le1400, le6400, lt8, lt16, le15, le2, nI_leI, nI_ltI, nI_eq, nI_1, nI_add, n_le0, n_lt0, n_0le, n_eq0, n_eq1, n_eq2, n_m1, n_m1r, Nat.reduceEqDiff, Nat.reduceAdd, Int32.add_zero, nI_pred, div16, mul15, mul40, mul16, mul640, mulr16, xu_s, xu_c, xu_k, xu_cc, rows_xu, xf_s, xf_c, rows_xf, xul_c, rows_xul, xul_L, lgc, t28, f1, e2, n10]
    exact hh
theorem e_addFieldsC {σ : xS} {A : Nat → Prop} {pl mn kd : Nat → Nat} {hd : Nat → Int32} {fs fc : Nat → Nat → Int32} {fv : Nat → Nat → Nat} (hV : Vw (σ 28) (σ 29) A pl mn kd hd fs fc fv) {g : Nat → Nat} {r o : Nat} {τ : xS} {st : (Nat → Nat) × Nat} (hr : r < 8) (hP : PE σ A pl mn g) (hG : PG A g r st) (hC : PC σ τ pl st) (ho : A o) (Q : xS → Prop) (h : ∀ τ', PC σ τ' pl (adF g r fs fv o st (mn o)) → Q τ') : p_Par_addFieldsOf (nI (pl o)) (nI r) τ Q := by
  obtain ⟨a1, a2, a3, a4, a5, a6, a7, a8⟩ := Vw_o hV ho
  have t29 := hC.2.2.2 29 (by decide) (by decide) (by decide)
  unfold p_Par_addFieldsOf p_Hea_fieldsOf
  simp (disch := omega) only [forall_eq, true_and, and_true, and_self, not_true_eq_false, not_false_eq_true, false_imp_iff, true_imp_iff, imp_self, implies_true, ne_eq, reduceIte, cl, cl0, cl1, cl2, vpn, vp0, le8, le16, le40, le640, le1400, le6400, lt8, lt16, le15, le2, nI_leI, nI_ltI, nI_eq, nI_1, nI_add, n_le0, n_lt0, n_0le, n_eq0, n_eq1, n_eq2, n_m1, n_m1r, Nat.reduceEqDiff, Nat.reduceAdd, Int32.add_zero, nI_pred, div16, mul15, mul40, mul16, mul640, mulr16, xu_s, xu_c, xu_k, xu_cc, rows_xu, xf_s, xf_c, rows_xf, xul_c, rows_xul, xul_L, lgc, t29, a6]
  refine lpS (S := xS) (fun f i x => p_Par_addFieldsOf_L15 Q f (nI (pl o)) (nI r) (nI (mn o)) (nI i) x) (fun i x => PC σ x pl (adF g r fs fv o st i)) (mn o) ?_ ?_ (s := τ) hC
  · intro f i x hi hx hk
    show b_Par_addFieldsOf_L15 (p_Par_addFieldsOf_L15 Q f) Q _ _ _ (nI i) x
    unfold b_Par_addFieldsOf_L15
    have l1 : ¬ mn o ≤ i := by omega
    simp (disch := omega) only [forall_eq, true_and, and_true, and_self, not_true_eq_false, not_false_eq_true, false_imp_iff, true_imp_iff, imp_self, implies_true, ne_eq, reduceIte, cl, cl0, cl1, cl2, vpn, vp0, le8, le16, le40, le640, le1400, le6400, lt8, lt16, le15, le2, nI_leI, nI_ltI, nI_eq, nI_1, nI_add, n_le0, n_lt0, n_0le, n_eq0, n_eq1, n_eq2, n_m1, n_m1r, Nat.reduceEqDiff, Nat.reduceAdd, Int32.add_zero, nI_pred, div16, mul15, mul40, mul16, mul640, mulr16, xu_s, xu_c, xu_k, xu_cc, rows_xu, xf_s, xf_c, rows_xf, xul_c, rows_xul, xul_L, lgc, l1]
    exact e_addC hV hr hP (adF_G hG (fun i hi e => ((Vw_f hV ho hi).2 e).1) i (by omega)) hx ho hi _ (fun τ' h' => hk τ' h')
  · intro f x hx
    show b_Par_addFieldsOf_L15 (p_Par_addFieldsOf_L15 Q f) Q _ _ _ (nI (mn o)) x
    unfold b_Par_addFieldsOf_L15
    simp (disch := omega) only [forall_eq, true_and, and_true, and_self, not_true_eq_false, not_false_eq_true, false_imp_iff, true_imp_iff, imp_self, implies_true, ne_eq, reduceIte, cl, cl0, cl1, cl2, vpn, vp0, le8, le16, le40, le640, le1400, le6400, lt8, lt16, le15, le2, nI_leI, nI_ltI, nI_eq, nI_1, nI_add, n_le0, n_lt0, n_0le, n_eq0, n_eq1, n_eq2, n_m1, n_m1r, Nat.reduceEqDiff, Nat.reduceAdd, Int32.add_zero, nI_pred, div16, mul15, mul40, mul16, mul640, mulr16, xu_s, xu_c, xu_k, xu_cc, rows_xu, xf_s, xf_c, rows_xf, xul_c, rows_xul, xul_L, lgc, Nat.le_refl]
    exact h x hx
theorem e_findC {σ : xS} {A : Nat → Prop} {pl mn kd : Nat → Nat} {hd : Nat → Int32} {fs fc : Nat → Nat → Int32} {fv : Nat → Nat → Nat} (hV : Vw (σ 28) (σ 29) A pl mn kd hd fs fc fv) {g : Nat → Nat} {r j rt : Nat} {n : Nat} {q : Nat → Nat} (hr : r < 8) (hj : j < 16) (hP : PE σ A pl mn g) (hn : σ 3 3 = nI n) (n6 : n ≤ 640) (hit : ∀ k, k < n → σ 12 k = nI (q k) ∧ q k < 640) (his : ∀ p, p < 640 → σ 13 p = 0 ∨ ∃ k, k < n ∧ q k = p) (hrt : σ 17 j = 2 → A rt ∧ σ 18 j = nI (pl rt)) (Q : xS → Prop)
    (h : ∀ τ, PC σ τ pl (adK g mn r fs fv (adP g r (σ 17 j) rt (fun _ => 0, 0)) 640) → Q τ) : p_Par_find (nI j) (nI r) σ Q := by
  have hf : ∀ o i, A o → i < mn o → fs o i = 2 → A (fv o i) := fun o i ho hi e => ((Vw_f hV ho hi).2 e).1
  have G0 : PG A g r ((fun _ => 0, 0) : (Nat → Nat) × Nat) := ⟨fun k hk => by dsimp only at hk; omega, fun i k _ hk => by dsimp only at hk; omega⟩
  have G1 : PG A g r (adP g r (σ 17 j) rt (fun _ => 0, 0)) := adP_G G0 (fun e => (hrt e).1)
  have walk : ∀ τ, PC σ τ pl (adP g r (σ 17 j) rt (fun _ => 0, 0)) → ∃ n, p_Par_find_L48 Q n (nI r) 0 τ := fun τ hC => by
    refine lpS (S := xS) (fun f k x => p_Par_find_L48 Q f (nI r) (nI k) x) (fun k x => PC σ x pl (adK g mn r fs fv (adP g r (σ 17 j) rt (fun _ => 0, 0)) k)) 640 ?_ ?_ (s := τ) hC
    · intro f k x hk hx hnext
      show b_Par_find_L48 (p_Par_find_L48 Q f) Q (nI r) (nI k) x
      unfold b_Par_find_L48
      obtain ⟨K1, K2⟩ := adK_G G1 hf k
      have hle := PG_le K1 (fun o ho => (hP o ho).1)
      by_cases hkc : k < (adK g mn r fs fv (adP g r (σ 17 j) rt (fun _ => 0, 0)) k).2
      · have l1 : ¬ (adK g mn r fs fv (adP g r (σ 17 j) rt (fun _ => 0, 0)) k).2 ≤ k := by omega
        have l2 : ¬ 640 ≤ k := by omega
        have hp6 := (Vw_o hV (K1.1 k hkc).1).1
        simp (disch := omega) only [forall_eq, true_and, and_true, and_self, not_true_eq_false, not_false_eq_true, false_imp_iff, true_imp_iff, imp_self, implies_true, ne_eq, reduceIte, cl, cl0, cl1, cl2, vpn, vp0, le8, le16, le40, le640, le1400, le6400, lt8, lt16, le15, le2, nI_leI, nI_ltI, nI_eq, nI_1, nI_add, n_le0, n_lt0, n_0le, n_eq0, n_eq1, n_eq2, n_m1, n_m1r, Nat.reduceEqDiff, Nat.reduceAdd, Int32.add_zero, nI_pred, div16, mul15, mul40, mul16, mul640, mulr16, xu_s, xu_c, xu_k, xu_cc, rows_xu, xf_s, xf_c, rows_xf, xul_c, rows_xul, xul_L, lgc, hx.1, l1, l2, hx.2.1 k hkc]
        refine e_addFieldsC hV hr hP K1 hx (K1.1 k hkc).1 _ (fun τ' h' => hnext τ' ?_)
        rw [adK_y hkc]; exact h'
      · have l1 : (adK g mn r fs fv (adP g r (σ 17 j) rt (fun _ => 0, 0)) k).2 ≤ k := by omega
        simp (disch := omega) only [forall_eq, true_and, and_true, and_self, not_true_eq_false, not_false_eq_true, false_imp_iff, true_imp_iff, imp_self, implies_true, ne_eq, reduceIte, cl, cl0, cl1, cl2, vpn, vp0, le8, le16, le40, le640, le1400, le6400, lt8, lt16, le15, le2, nI_leI, nI_ltI, nI_eq, nI_1, nI_add, n_le0, n_lt0, n_0le, n_eq0, n_eq1, n_eq2, n_m1, n_m1r, Nat.reduceEqDiff, Nat.reduceAdd, Int32.add_zero, nI_pred, div16, mul15, mul40, mul16, mul640, mulr16, xu_s, xu_c, xu_k, xu_cc, rows_xu, xf_s, xf_c, rows_xf, xul_c, rows_xul, xul_L, lgc, hx.1, l1]
        refine h x ?_
        have : ∀ d, adK g mn r fs fv (adP g r (σ 17 j) rt (fun _ => 0, 0)) (k + d) = adK g mn r fs fv (adP g r (σ 17 j) rt (fun _ => 0, 0)) k := fun d => by
          induction d with
          | zero => rfl
          | succ d ih =>
            have e := adK_n (g := g) (mn := mn) (r := r) (fs := fs) (fv := fv) (st := adP g r (σ 17 j) rt (fun _ => 0, 0)) (k := k + d) (by rw [ih]; omega)
            rw [show k + (d + 1) = k + d + 1 by omega, e, ih]
        rw [show 640 = k + (640 - k) by omega, this]
        exact hx
    · intro f x hx
      show b_Par_find_L48 (p_Par_find_L48 Q f) Q (nI r) (nI 640) x
      unfold b_Par_find_L48
      have hle := PG_le (adK_G G1 hf 640).1 (fun o ho => (hP o ho).1)
      simp (disch := omega) only [forall_eq, true_and, and_true, and_self, not_true_eq_false, not_false_eq_true, false_imp_iff, true_imp_iff, imp_self, implies_true, ne_eq, reduceIte, cl, cl0, cl1, cl2, vpn, vp0, le8, le16, le40, le640, le1400, le6400, lt8, lt16, le15, le2, nI_leI, nI_ltI, nI_eq, nI_1, nI_add, n_le0, n_lt0, n_0le, n_eq0, n_eq1, n_eq2, n_m1, n_m1r, Nat.reduceEqDiff, Nat.reduceAdd, Int32.add_zero, nI_pred, div16, mul15, mul40, mul16, mul640, mulr16, xu_s, xu_c, xu_k, xu_cc, rows_xu, xf_s, xf_c, rows_xf, xul_c, rows_xul, xul_L, lgc, hx.1, Nat.le_refl]
      exact ⟨fun _ => h x hx, fun _ => h x hx⟩
  unfold p_Par_find
  have key := lpF (fun f i => p_Par_find_L2 Q f (nI j) (nI r) (nI i) (va_up σ 13 (cw (fun _ => True) q (fun _ => 0) (σ 13) i))) n (by
    intro f i hi hk
    show b_Par_find_L2 (p_Par_find_L2 Q f) Q (nI j) (nI r) (nI i) _
    unfold b_Par_find_L2
    have l1 : ¬ n ≤ i := by omega
    obtain ⟨e1, e2⟩ := hit i hi
    have y := cw_y (B := fun _ => True) q (fun _ => 0) (σ 13) (k := i) trivial
    rw [← y] at hk
    simp (disch := omega) only [forall_eq, true_and, and_true, and_self, not_true_eq_false, not_false_eq_true, false_imp_iff, true_imp_iff, imp_self, implies_true, ne_eq, reduceIte, cl, cl0, cl1, cl2, vpn, vp0, le8, le16, le40, le640, le1400, le6400, lt8, lt16, le15, le2, nI_leI, nI_ltI, nI_eq, nI_1, nI_add, n_le0, n_lt0, n_0le, n_eq0, n_eq1, n_eq2, n_m1, n_m1r, Nat.reduceEqDiff, Nat.reduceAdd, Int32.add_zero, nI_pred, div16, mul15, mul40, mul16, mul640, mulr16, xu_s, xu_c, xu_k, xu_cc, rows_xu, xf_s, xf_c, rows_xf, xul_c, rows_xul, xul_L, lgc, hn, l1, e1, nar0, xu_xf]
    exact hk) (by
    intro f
    show b_Par_find_L2 (p_Par_find_L2 Q f) Q (nI j) (nI r) (nI n) _
    unfold b_Par_find_L2
    simp (disch := omega) only [forall_eq, true_and, and_true, and_self, not_true_eq_false, not_false_eq_true, false_imp_iff, true_imp_iff, imp_self, implies_true, ne_eq, reduceIte, cl, cl0, cl1, cl2, vpn, vp0, le8, le16, le40, le640, le1400, le6400, lt8, lt16, le15, le2, nI_leI, nI_ltI, nI_eq, nI_1, nI_add, n_le0, n_lt0, n_0le, n_eq0, n_eq1, n_eq2, n_m1, n_m1r, Nat.reduceEqDiff, Nat.reduceAdd, Int32.add_zero, nI_pred, div16, mul15, mul40, mul16, mul640, mulr16, xu_s, xu_c, xu_k, xu_cc, rows_xu, xf_s, xf_c, rows_xf, xul_c, rows_xul, xul_L, lgc, hn, Nat.le_refl]
    obtain ⟨τ0, e0⟩ : ∃ τ0, xu (va_up σ 13 (cw (fun _ => True) q (fun _ => 0) (σ 13) n)) 3 3 0 = τ0 := ⟨_, rfl⟩
    have C0 : PC σ τ0 pl (fun _ => 0, 0) := by
      rw [← e0]
      refine ⟨by simp (disch := omega) only [forall_eq, true_and, and_true, and_self, not_true_eq_false, not_false_eq_true, false_imp_iff, true_imp_iff, imp_self, implies_true, ne_eq, reduceIte, cl, cl0, cl1, cl2, vpn, vp0, le8, le16, le40, le640, le1400, le6400, lt8, lt16, le15, le2, nI_leI, nI_ltI, nI_eq, nI_1, nI_add, n_le0, n_lt0, n_0le, n_eq0, n_eq1, n_eq2, n_m1, n_m1r, Nat.reduceEqDiff, Nat.reduceAdd, Int32.add_zero, nI_pred, div16, mul15, mul40, mul16, mul640, mulr16, xu_s, xu_c, xu_k, xu_cc, rows_xu, xf_s, xf_c, rows_xf, xul_c, rows_xul, xul_L, lgc]; rfl, fun k hk => by dsimp only at hk; omega, fun p hp => Or.inr ⟨?_, fun k hk => by dsimp only at hk; omega⟩, fun d d1 d2 d3 => by simp (disch := omega) only [forall_eq, true_and, and_true, and_self, not_true_eq_false, not_false_eq_true, false_imp_iff, true_imp_iff, imp_self, implies_true, ne_eq, reduceIte, cl, cl0, cl1, cl2, vpn, vp0, le8, le16, le40, le640, le1400, le6400, lt8, lt16, le15, le2, nI_leI, nI_ltI, nI_eq, nI_1, nI_add, n_le0, n_lt0, n_0le, n_eq0, n_eq1, n_eq2, n_m1, n_m1r, Nat.reduceEqDiff, Nat.reduceAdd, Int32.add_zero, nI_pred, div16, mul15, mul40, mul16, mul640, mulr16, xu_s, xu_c, xu_k, xu_cc, rows_xu, xf_s, xf_c, rows_xf, xul_c, rows_xul, xul_L, lgc]⟩
      simp (disch := omega) only [forall_eq, true_and, and_true, and_self, not_true_eq_false, not_false_eq_true, false_imp_iff, true_imp_iff, imp_self, implies_true, ne_eq, reduceIte, cl, cl0, cl1, cl2, vpn, vp0, le8, le16, le40, le640, le1400, le6400, lt8, lt16, le15, le2, nI_leI, nI_ltI, nI_eq, nI_1, nI_add, n_le0, n_lt0, n_0le, n_eq0, n_eq1, n_eq2, n_m1, n_m1r, Nat.reduceEqDiff, Nat.reduceAdd, Int32.add_zero, nI_pred, div16, mul15, mul40, mul16, mul640, mulr16, xu_s, xu_c, xu_k, xu_cc, rows_xu, xf_s, xf_c, rows_xf, xul_c, rows_xul, xul_L, lgc]
      by_cases hx : ∃ k, k < n ∧ q k = p
      · obtain ⟨k, k1, k2⟩ := hx
        exact cw_c k1 trivial k2
      · rw [cw_no n (fun k hk _ e => hx ⟨k, hk, e⟩)]
        exact (his p hp).elim id (fun y => absurd y hx)
    rw [e0]
    unfold p_Par_addIfPart_3_5 p_Mem_refersBeyond_1_5 p_Val_isReference_5 p_Val_contentOf_5 p_Reg_ofPlace
    obtain ⟨C1, C2, C3, C4⟩ := id C0
    have t17 := C4 17 (by decide) (by decide) (by decide)
    have t18 := C4 18 (by decide) (by decide) (by decide)
    have t20 := C4 20 (by decide) (by decide) (by decide)
    by_cases e2 : σ 17 j = 2
    · obtain ⟨f3, f4⟩ := hrt e2
      have hp := (Vw_o hV f3).1
      obtain ⟨b1, b2, b3⟩ := hP rt f3
      by_cases hg : g rt ≤ r
      · have hh := walk τ0 (by rw [adP_n (fun x => by omega)]; exact C0)
        simp (disch := omega) only [forall_eq, true_and, and_true, and_self, not_true_eq_false, not_false_eq_true, false_imp_iff, true_imp_iff, imp_self, implies_true, ne_eq, reduceIte, cl, cl0, cl1, cl2, vpn, vp0, le8, le16, le40, le640, le1400, le6400, lt8, lt16, le15, le2, nI_leI, nI_ltI, nI_eq, nI_1, nI_add, n_le0, n_lt0, n_0le, n_eq0, n_eq1, n_eq2, n_m1, n_m1r, Nat.reduceEqDiff, Nat.reduceAdd, Int32.add_zero, nI_pred, div16, mul15, mul40, mul16, mul640, mulr16, xu_s, xu_c, xu_k, xu_cc, rows_xu, xf_s, xf_c, rows_xf, xul_c, rows_xul, xul_L, lgc, t17, e2, n10, t18, f4, t20, b3, hg]
        exact hh
      · have key := PC_add (fun o ho => (hP o ho).1) (Vw_i hV) hp f3 e2 G0 C0 (by omega) (fun τ' => ∃ n, p_Par_find_L48 Q n (nI r) 0 τ') walk
        by_cases z : τ0 13 (pl rt) = 0
        · obtain ⟨k1, k2⟩ := key.2 z
          dsimp only at C1 k2
          simp (disch := omega) only [forall_eq, true_and, and_true, and_self, not_true_eq_false, not_false_eq_true, false_imp_iff, true_imp_iff, imp_self, implies_true, ne_eq, reduceIte, cl, cl0, cl1, cl2, vpn, vp0, le8, le16, le40, le640, le1400, le6400, lt8, lt16, le15, le2, nI_leI, nI_ltI, nI_eq, nI_1, nI_add, n_le0, n_lt0, n_0le, n_eq0, n_eq1, n_eq2, n_m1, n_m1r, Nat.reduceEqDiff, Nat.reduceAdd, Int32.add_zero, nI_pred, div16, mul15, mul40, mul16, mul640, mulr16, xu_s, xu_c, xu_k, xu_cc, rows_xu, xf_s, xf_c, rows_xf, xul_c, rows_xul, xul_L, lgc, t17, e2, n10, t18, f4, t20, b3, hg, z, C1, upd_s, nar1]
          exact k2
        · simp (disch := omega) only [forall_eq, true_and, and_true, and_self, not_true_eq_false, not_false_eq_true, false_imp_iff, true_imp_iff, imp_self, implies_true, ne_eq, reduceIte, cl, cl0, cl1, cl2, vpn, vp0, le8, le16, le40, le640, le1400, le6400, lt8, lt16, le15, le2, nI_leI, nI_ltI, nI_eq, nI_1, nI_add, n_le0, n_lt0, n_0le, n_eq0, n_eq1, n_eq2, n_m1, n_m1r, Nat.reduceEqDiff, Nat.reduceAdd, Int32.add_zero, nI_pred, div16, mul15, mul40, mul16, mul640, mulr16, xu_s, xu_c, xu_k, xu_cc, rows_xu, xf_s, xf_c, rows_xf, xul_c, rows_xul, xul_L, lgc, t17, e2, n10, t18, f4, t20, b3, hg, z]
          exact key.1 z
    · have hh := walk τ0 (by rw [adP_n (fun x => e2 x.1)]; exact C0)
      simp (disch := omega) only [forall_eq, true_and, and_true, and_self, not_true_eq_false, not_false_eq_true, false_imp_iff, true_imp_iff, imp_self, implies_true, ne_eq, reduceIte, cl, cl0, cl1, cl2, vpn, vp0, le8, le16, le40, le640, le1400, le6400, lt8, lt16, le15, le2, nI_leI, nI_ltI, nI_eq, nI_1, nI_add, n_le0, n_lt0, n_0le, n_eq0, n_eq1, n_eq2, n_m1, n_m1r, Nat.reduceEqDiff, Nat.reduceAdd, Int32.add_zero, nI_pred, div16, mul15, mul40, mul16, mul640, mulr16, xu_s, xu_c, xu_k, xu_cc, rows_xu, xf_s, xf_c, rows_xf, xul_c, rows_xul, xul_L, lgc, t17, e2, n10]
      exact hh)
  rw [cw_0, xf_0] at key
  exact key
