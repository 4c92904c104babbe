theorem rblk (ro : Nat → Nat) {k i : Nat} (hi : i < 16) : rpos ro (k * 16 + i) = ro k * 16 + i := rpos_blk ro k i hi
theorem slS_le {A B : Nat → Prop} {mn ro pl : Nat → Nat} {m j : Nat} (h : SH A B mn ro pl m) (hj : j ≤ 16 * m) : (slS A mn ro pl j).1 ≤ m ∧ (slS A mn ro pl j).2.1 ≤ 16 ∧ ((slS A mn ro pl j).1 = 0 → (slS A mn ro pl j).2.1 = 16) ∧ (0 < (slS A mn ro pl j).1 → 1 ≤ (slS A mn ro pl j).2.1) := by
  rcases (SI_all h j hj).one with ⟨a, b⟩ | ⟨a, b, c, d, _⟩ <;> omega
theorem e_slideRegion {σ : xS} {r : Nat} {A B : Nat → Prop} {mn ro pl plO : Nat → Nat} {m : Nat} {hd : Nat → Int32} {fs fc : Nat → Nat → Int32} (hE : SE σ r A B mn ro pl plO m hd fs) (hH : SH A B mn ro pl m) (hm : σ 22 r = nI m) (hR : HeapR (σ 28) (σ 29) B pl mn hd fs fc) (hnp : ∀ o, A o → σ 10 (plO o) = nI (pl o)) (Q : xS → Prop)
    (h : ∀ τ, SC σ τ r A B mn ro pl plO (16 * m) hd fs fc → Q (va_up τ 20 (cw (fun _ => True) (fun k => ro ((slS A mn ro pl (16 * m)).1 + k)) (fun _ => -1) (σ 20) (m - (slS A mn ro pl (16 * m)).1)))) : p_Col_slideRegion (nI r) σ Q := by
  have hr := hE.1
  have hm4 := hE.2.1
  have hro := hE.2.2.1
  unfold p_Col_slideRegion p_Reg_startSlide p_Reg_emptyRow
  simp (disch := omega) only [forall_eq, true_and, and_true, and_self, not_true_eq_false, not_false_eq_true, false_imp_iff, true_imp_iff, imp_self, implies_true, ne_eq, reduceIte, cl, cl0, cl1, cl2, vpn, vp0, le8, le16, le40, le640, le1400, le6400, lt8, lt16, le15, le2, nI_leI, nI_ltI, nI_eq, nI_1, nI_add, n_le0, n_lt0, n_0le, n_eq0, n_eq1, n_eq2, n_m1, n_m1r, Nat.reduceEqDiff, Nat.reduceAdd, Int32.add_zero, nI_pred, div16, mul15, mul40, mul16, mul640, mulr16, xu_s, xu_c, xu_k, xu_cc, rows_xu, xf_s, xf_c, rows_xf, xul_c, rows_xul, xul_L, lgc, hm]
  refine lpS (S := xS) (fun f k τ => p_Col_slideRegion_L14 Q f (nI r) (nI m) (nI k) τ) (fun k τ => SC σ τ r A B mn ro pl plO (k * 16) hd fs fc) m ?_ ?_ (s := xu (xu σ 22 r 0) 23 r 16) ?_
  · intro f k τ hk hC hnext
    show b_Col_slideRegion_L14 (p_Col_slideRegion_L14 Q f) Q (nI r) (nI m) (nI k) τ
    unfold b_Col_slideRegion_L14 p_Reg_pageInRow
    have l1 : ¬ m ≤ k := by omega
    obtain ⟨r1, r2⟩ := hro k hk
    have f32 : τ (32 + r) = σ (32 + r) := hC.2.2.2.2.2.1 (32 + r) (by omega) (by omega) (by omega) (by omega) (by omega) (by omega)
    simp (disch := omega) only [forall_eq, true_and, and_true, and_self, not_true_eq_false, not_false_eq_true, false_imp_iff, true_imp_iff, imp_self, implies_true, ne_eq, reduceIte, cl, cl0, cl1, cl2, vpn, vp0, le8, le16, le40, le640, le1400, le6400, lt8, lt16, le15, le2, nI_leI, nI_ltI, nI_eq, nI_1, nI_add, n_le0, n_lt0, n_0le, n_eq0, n_eq1, n_eq2, n_m1, n_m1r, Nat.reduceEqDiff, Nat.reduceAdd, Int32.add_zero, nI_pred, div16, mul15, mul40, mul16, mul640, mulr16, xu_s, xu_c, xu_k, xu_cc, rows_xu, xf_s, xf_c, rows_xf, xul_c, rows_xul, xul_L, lgc, l1, f32, r1]
    refine lpS (S := xS) (fun f' i τ => p_Col_slideRegion_L39 (p_Col_slideRegion_L14 Q f) Q f' (nI r) (nI m) (nI k) (nI (ro k * 16)) (nI i) τ) (fun i τ => SC σ τ r A B mn ro pl plO (k * 16 + i) hd fs fc) 16 ?_ ?_ (s := τ) hC
    · intro f' i τ1 hi hC1 hn1
      show b_Col_slideRegion_L39 (p_Col_slideRegion_L14 Q f) (p_Col_slideRegion_L39 (p_Col_slideRegion_L14 Q f) Q f') Q (nI r) (nI m) (nI k) (nI (ro k * 16)) (nI i) τ1
      unfold b_Col_slideRegion_L39
      have l2 : ¬ 16 ≤ i := by omega
      have key := e_slStep hE hH (j := k * 16 + i) (by omega) hC1 (fun τ' => p_Col_slideRegion_L39 (p_Col_slideRegion_L14 Q f) Q f' (nI r) (nI m) (nI k) (nI (ro k * 16)) (nI (i + 1)) τ') (fun τ' hC' => hn1 τ' hC')
      rw [rblk ro hi] at key
      simp (disch := omega) only [forall_eq, true_and, and_true, and_self, not_true_eq_false, not_false_eq_true, false_imp_iff, true_imp_iff, imp_self, implies_true, ne_eq, reduceIte, cl, cl0, cl1, cl2, vpn, vp0, le8, le16, le40, le640, le1400, le6400, lt8, lt16, le15, le2, nI_leI, nI_ltI, nI_eq, nI_1, nI_add, n_le0, n_lt0, n_0le, n_eq0, n_eq1, n_eq2, n_m1, n_m1r, Nat.reduceEqDiff, Nat.reduceAdd, Int32.add_zero, nI_pred, div16, mul15, mul40, mul16, mul640, mulr16, xu_s, xu_c, xu_k, xu_cc, rows_xu, xf_s, xf_c, rows_xf, xul_c, rows_xul, xul_L, lgc, l2]
      exact key
    · intro f' τ1 hC1
      show b_Col_slideRegion_L39 (p_Col_slideRegion_L14 Q f) (p_Col_slideRegion_L39 (p_Col_slideRegion_L14 Q f) Q f') Q (nI r) (nI m) (nI k) (nI (ro k * 16)) (nI 16) τ1
      unfold b_Col_slideRegion_L39
      simp (disch := omega) only [forall_eq, true_and, and_true, and_self, not_true_eq_false, not_false_eq_true, false_imp_iff, true_imp_iff, imp_self, implies_true, ne_eq, reduceIte, cl, cl0, cl1, cl2, vpn, vp0, le8, le16, le40, le640, le1400, le6400, lt8, lt16, le15, le2, nI_leI, nI_ltI, nI_eq, nI_1, nI_add, n_le0, n_lt0, n_0le, n_eq0, n_eq1, n_eq2, n_m1, n_m1r, Nat.reduceEqDiff, Nat.reduceAdd, Int32.add_zero, nI_pred, div16, mul15, mul40, mul16, mul640, mulr16, xu_s, xu_c, xu_k, xu_cc, rows_xu, xf_s, xf_c, rows_xf, xul_c, rows_xul, xul_L, lgc, Nat.le_refl]
      refine hnext τ1 ?_
      rw [show (k + 1) * 16 = k * 16 + 16 by omega]
      exact hC1
  · intro f τ hC
    show b_Col_slideRegion_L14 (p_Col_slideRegion_L14 Q f) Q (nI r) (nI m) (nI m) τ
    unfold b_Col_slideRegion_L14 p_Reg_endSlide
    rw [Nat.mul_comm m 16] at hC
    have hle := slS_le hH (Nat.le_refl (16 * m))
    have f32 : τ (32 + r) = σ (32 + r) := hC.2.2.2.2.2.1 (32 + r) (by omega) (by omega) (by omega) (by omega) (by omega) (by omega)
    have f20 : τ 20 = σ 20 := hC.2.2.2.2.2.1 20 (by decide) (by decide) (by decide) (by decide) (by decide) (by decide)
    simp (disch := omega) only [forall_eq, true_and, and_true, and_self, not_true_eq_false, not_false_eq_true, false_imp_iff, true_imp_iff, imp_self, implies_true, ne_eq, reduceIte, cl, cl0, cl1, cl2, vpn, vp0, le8, le16, le40, le640, le1400, le6400, lt8, lt16, le15, le2, nI_leI, nI_ltI, nI_eq, nI_1, nI_add, n_le0, n_lt0, n_0le, n_eq0, n_eq1, n_eq2, n_m1, n_m1r, Nat.reduceEqDiff, Nat.reduceAdd, Int32.add_zero, nI_pred, div16, mul15, mul40, mul16, mul640, mulr16, xu_s, xu_c, xu_k, xu_cc, rows_xu, xf_s, xf_c, rows_xf, xul_c, rows_xul, xul_L, lgc, Nat.le_refl, hC.2.2.1.1]
    refine e_freeBehind hr hle.1 hm4 (fun k hk => by rw [f32]; exact hro k hk) _ ?_
    rw [f20]
    exact h τ hC
  · show SC σ _ r A B mn ro pl plO 0 hd fs fc
    refine ⟨?_, ?_, ⟨?_, ?_⟩, ?_, ⟨0, ?_, ?_⟩, fun d d1 d2 d3 d4 d5 d6 => ?_, fun k hk => ?_, fun k k1 k2 => ?_⟩
    · simp (disch := omega) only [forall_eq, true_and, and_true, and_self, not_true_eq_false, not_false_eq_true, false_imp_iff, true_imp_iff, imp_self, implies_true, ne_eq, reduceIte, cl, cl0, cl1, cl2, vpn, vp0, le8, le16, le40, le640, le1400, le6400, lt8, lt16, le15, le2, nI_leI, nI_ltI, nI_eq, nI_1, nI_add, n_le0, n_lt0, n_0le, n_eq0, n_eq1, n_eq2, n_m1, n_m1r, Nat.reduceEqDiff, Nat.reduceAdd, Int32.add_zero, nI_pred, div16, mul15, mul40, mul16, mul640, mulr16, xu_s, xu_c, xu_k, xu_cc, rows_xu, xf_s, xf_c, rows_xf, xul_c, rows_xul, xul_L, lgc]
      exact HeapR_A hR (fun o => ⟨fun x => ⟨x, Or.inr (fun ⟨y, hy, _⟩ => by omega)⟩, fun x => x.1⟩)
    · simp (disch := omega) only [forall_eq, true_and, and_true, and_self, not_true_eq_false, not_false_eq_true, false_imp_iff, true_imp_iff, imp_self, implies_true, ne_eq, reduceIte, cl, cl0, cl1, cl2, vpn, vp0, le8, le16, le40, le640, le1400, le6400, lt8, lt16, le15, le2, nI_leI, nI_ltI, nI_eq, nI_1, nI_add, n_le0, n_lt0, n_0le, n_eq0, n_eq1, n_eq2, n_m1, n_m1r, Nat.reduceEqDiff, Nat.reduceAdd, Int32.add_zero, nI_pred, div16, mul15, mul40, mul16, mul640, mulr16, xu_s, xu_c, xu_k, xu_cc, rows_xu, xf_s, xf_c, rows_xf, xul_c, rows_xul, xul_L, lgc]; exact hnp
    · simp (disch := omega) only [forall_eq, true_and, and_true, and_self, not_true_eq_false, not_false_eq_true, false_imp_iff, true_imp_iff, imp_self, implies_true, ne_eq, reduceIte, cl, cl0, cl1, cl2, vpn, vp0, le8, le16, le40, le640, le1400, le6400, lt8, lt16, le15, le2, nI_leI, nI_ltI, nI_eq, nI_1, nI_add, n_le0, n_lt0, n_0le, n_eq0, n_eq1, n_eq2, n_m1, n_m1r, Nat.reduceEqDiff, Nat.reduceAdd, Int32.add_zero, nI_pred, div16, mul15, mul40, mul16, mul640, mulr16, xu_s, xu_c, xu_k, xu_cc, rows_xu, xf_s, xf_c, rows_xf, xul_c, rows_xul, xul_L, lgc]; rfl
    · simp (disch := omega) only [forall_eq, true_and, and_true, and_self, not_true_eq_false, not_false_eq_true, false_imp_iff, true_imp_iff, imp_self, implies_true, ne_eq, reduceIte, cl, cl0, cl1, cl2, vpn, vp0, le8, le16, le40, le640, le1400, le6400, lt8, lt16, le15, le2, nI_leI, nI_ltI, nI_eq, nI_1, nI_add, n_le0, n_lt0, n_0le, n_eq0, n_eq1, n_eq2, n_m1, n_m1r, Nat.reduceEqDiff, Nat.reduceAdd, Int32.add_zero, nI_pred, div16, mul15, mul40, mul16, mul640, mulr16, xu_s, xu_c, xu_k, xu_cc, rows_xu, xf_s, xf_c, rows_xf, xul_c, rows_xul, xul_L, lgc]; rfl
    · simp (disch := omega) only [forall_eq, true_and, and_true, and_self, not_true_eq_false, not_false_eq_true, false_imp_iff, true_imp_iff, imp_self, implies_true, ne_eq, reduceIte, cl, cl0, cl1, cl2, vpn, vp0, le8, le16, le40, le640, le1400, le6400, lt8, lt16, le15, le2, nI_leI, nI_ltI, nI_eq, nI_1, nI_add, n_le0, n_lt0, n_0le, n_eq0, n_eq1, n_eq2, n_m1, n_m1r, Nat.reduceEqDiff, Nat.reduceAdd, Int32.add_zero, nI_pred, div16, mul15, mul40, mul16, mul640, mulr16, xu_s, xu_c, xu_k, xu_cc, rows_xu, xf_s, xf_c, rows_xf, xul_c, rows_xul, xul_L, lgc]; show _ = _ + nI 0; rw [nI_0, Int32.add_zero]
    · simp (disch := omega) only [forall_eq, true_and, and_true, and_self, not_true_eq_false, not_false_eq_true, false_imp_iff, true_imp_iff, imp_self, implies_true, ne_eq, reduceIte, cl, cl0, cl1, cl2, vpn, vp0, le8, le16, le40, le640, le1400, le6400, lt8, lt16, le15, le2, nI_leI, nI_ltI, nI_eq, nI_1, nI_add, n_le0, n_lt0, n_0le, n_eq0, n_eq1, n_eq2, n_m1, n_m1r, Nat.reduceEqDiff, Nat.reduceAdd, Int32.add_zero, nI_pred, div16, mul15, mul40, mul16, mul640, mulr16, xu_s, xu_c, xu_k, xu_cc, rows_xu, xf_s, xf_c, rows_xf, xul_c, rows_xul, xul_L, lgc]; rw [nI_0, Int32.add_zero]
    · rw [Nat.zero_add]
      exact cnt_iff (fun o _ => ⟨fun x => ⟨x.1.1, x.2⟩, fun x => ⟨⟨x.1, Or.inr (fun ⟨y, hy, _⟩ => by omega)⟩, x.2⟩⟩)
    · simp (disch := omega) only [forall_eq, true_and, and_true, and_self, not_true_eq_false, not_false_eq_true, false_imp_iff, true_imp_iff, imp_self, implies_true, ne_eq, reduceIte, cl, cl0, cl1, cl2, vpn, vp0, le8, le16, le40, le640, le1400, le6400, lt8, lt16, le15, le2, nI_leI, nI_ltI, nI_eq, nI_1, nI_add, n_le0, n_lt0, n_0le, n_eq0, n_eq1, n_eq2, n_m1, n_m1r, Nat.reduceEqDiff, Nat.reduceAdd, Int32.add_zero, nI_pred, div16, mul15, mul40, mul16, mul640, mulr16, xu_s, xu_c, xu_k, xu_cc, rows_xu, xf_s, xf_c, rows_xf, xul_c, rows_xul, xul_L, lgc]
    · have hk' : ¬ k = r := hk
      simp (disch := omega) only [forall_eq, true_and, and_true, and_self, not_true_eq_false, not_false_eq_true, false_imp_iff, true_imp_iff, imp_self, implies_true, ne_eq, reduceIte, cl, cl0, cl1, cl2, vpn, vp0, le8, le16, le40, le640, le1400, le6400, lt8, lt16, le15, le2, nI_leI, nI_ltI, nI_eq, nI_1, nI_add, n_le0, n_lt0, n_0le, n_eq0, n_eq1, n_eq2, n_m1, n_m1r, Nat.reduceEqDiff, Nat.reduceAdd, Int32.add_zero, nI_pred, div16, mul15, mul40, mul16, mul640, mulr16, xu_s, xu_c, xu_k, xu_cc, rows_xu, xf_s, xf_c, rows_xf, xul_c, rows_xul, xul_L, lgc, upd_n]
    · simp (disch := omega) only [forall_eq, true_and, and_true, and_self, not_true_eq_false, not_false_eq_true, false_imp_iff, true_imp_iff, imp_self, implies_true, ne_eq, reduceIte, cl, cl0, cl1, cl2, vpn, vp0, le8, le16, le40, le640, le1400, le6400, lt8, lt16, le15, le2, nI_leI, nI_ltI, nI_eq, nI_1, nI_add, n_le0, n_lt0, n_0le, n_eq0, n_eq1, n_eq2, n_m1, n_m1r, Nat.reduceEqDiff, Nat.reduceAdd, Int32.add_zero, nI_pred, div16, mul15, mul40, mul16, mul640, mulr16, xu_s, xu_c, xu_k, xu_cc, rows_xu, xf_s, xf_c, rows_xf, xul_c, rows_xul, xul_L, lgc]
def pgI (l : Nat) : Int32 := nI (l - 1)
def atI (l f : Nat) : Int32 := if l = 0 then 0 else nI f
def anI (l : Nat) : Int32 := if l = 0 then 0 else 1
def SM (σ τ : xS) (A : Nat → Prop) (mn ro pl : Nat → Nat) (j : Nat) : Prop :=
  (∀ o, A o → τ 44 o = nI ((slS A mn ro pl j).2.2.1 o)) ∧ (∀ p, p < 640 → τ 49 p = -1 ∨ ∃ o, A o ∧ τ 49 p = nI o ∧ (slS A mn ro pl j).2.2.1 o = p) ∧ (∀ o, A o → τ 49 ((slS A mn ro pl j).2.2.1 o) = nI o) ∧
  τ 31 23 = σ 31 23 + nI (slS A mn ro pl j).2.2.2 ∧ (∀ d, d ≠ 44 → d ≠ 49 → d ≠ 31 → τ d = σ d) ∧ (∀ k, k ≠ 23 → τ 31 k = σ 31 k) ∧ (∀ o, ¬ A o → τ 44 o = σ 44 o) ∧ (∀ p, 640 ≤ p → τ 49 p = σ 49 p)
theorem e_mSlide {σ : xS} {r : Nat} {A : Nat → Prop} {mn ro pl : Nat → Nat} {m : Nat} (hr : r < 8) (hm4 : m ≤ 40) (hro : ∀ k, k < m → σ 52 (40 * r + k) = nI (ro k) ∧ ro k < 40) (hA : ∀ o, A o → o < 640 ∧ σ 42 o = nI (mn o) ∧ mn o < 16 ∧ pl o < 640) (hH : SH A A mn ro pl m) (hm : σ 51 r = nI m)
    (h44 : ∀ o, A o → σ 44 o = nI (pl o)) (h49 : ∀ p, p < 640 → σ 49 p = -1 ∨ ∃ o, A o ∧ σ 49 p = nI o ∧ pl o = p) (h49' : ∀ o, A o → σ 49 (pl o) = nI o) (Q : xS → Prop)
    (h : ∀ τ, SM σ τ A mn ro pl (16 * m) → Q (xu (xu (va_up τ 50 (cw (fun _ => True) (fun k => ro ((slS A mn ro pl (16 * m)).1 + k)) (fun _ => 0) (σ 50) (m - (slS A mn ro pl (16 * m)).1))) 51 r (nI (slS A mn ro pl (16 * m)).1)) 53 r (atI (slS A mn ro pl (16 * m)).1 (slS A mn ro pl (16 * m)).2.1))) : p_Mod_slide (nI r) σ Q := by
  unfold p_Mod_slide
  refine lpS (S := xS) (fun f k τ => p_Mod_slide_L10 Q f (nI r) (pgI (slS A mn ro pl (k * 16)).1) (atI (slS A mn ro pl (k * 16)).1 (slS A mn ro pl (k * 16)).2.1) (anI (slS A mn ro pl (k * 16)).1) (nI k) τ) (fun k τ => SM σ τ A mn ro pl (k * 16)) m ?_ ?_ (s := σ) ?_
  · intro f k τ hk hC hnext
    show b_Mod_slide_L10 (p_Mod_slide_L10 Q f) Q (nI r) _ _ _ (nI k) τ
    unfold b_Mod_slide_L10
    have l1 : ¬ m ≤ k := by omega
    have f51 : τ 51 = σ 51 := hC.2.2.2.2.1 51 (by decide) (by decide) (by decide)
    simp (disch := omega) only [forall_eq, true_and, and_true, and_self, not_true_eq_false, not_false_eq_true, false_imp_iff, true_imp_iff, imp_self, implies_true, ne_eq, reduceIte, cl, cl0, cl1, cl2, vpn, vp0, le8, le16, le40, le640, le1400, le6400, lt8, lt16, le15, le2, nI_leI, nI_ltI, nI_eq, nI_1, nI_add, n_le0, n_lt0, n_0le, n_eq0, n_eq1, n_eq2, n_m1, n_m1r, Nat.reduceEqDiff, Nat.reduceAdd, Int32.add_zero, nI_pred, div16, mul15, mul40, mul16, mul640, mulr16, xu_s, xu_c, xu_k, xu_cc, rows_xu, xf_s, xf_c, rows_xf, xul_c, rows_xul, xul_L, lgc, f51, hm, l1]
    refine lpS (S := xS) (fun f' i τ => p_Mod_slide_L24 (p_Mod_slide_L10 Q f) Q f' (nI r) (pgI (slS A mn ro pl (k * 16 + i)).1) (atI (slS A mn ro pl (k * 16 + i)).1 (slS A mn ro pl (k * 16 + i)).2.1) (anI (slS A mn ro pl (k * 16 + i)).1) (nI k) (nI i) τ) (fun i τ => SM σ τ A mn ro pl (k * 16 + i)) 16 ?_ ?_ (s := τ) hC
    · intro f' i τ1 hi hC1 hn1
      show b_Mod_slide_L24 (p_Mod_slide_L10 Q f) (p_Mod_slide_L24 (p_Mod_slide_L10 Q f) Q f') Q (nI r) _ _ _ (nI k) (nI i) τ1
      unfold b_Mod_slide_L24
      have l2 : ¬ 16 ≤ i := by omega
      obtain ⟨j, ej⟩ : ∃ j, k * 16 + i = j := ⟨_, rfl⟩
      have hj : j < 16 * m := by omega
      obtain ⟨r1, r2⟩ := hro k hk
      have f52 : τ1 52 = σ 52 := hC1.2.2.2.2.1 52 (by decide) (by decide) (by decide)
      have f42 : τ1 42 = σ 42 := hC1.2.2.2.2.1 42 (by decide) (by decide) (by decide)
      have ep : 16 * ro k + i = rpos ro j := by rw [← ej, rblk ro hi]; omega
      have hp6 : rpos ro j < 640 := by rw [← ep]; omega
      rw [show k * 16 + (i + 1) = j + 1 by omega] at hn1
      rw [ej] at hC1 ⊢
      have hI := SI_all hH j (by omega)
      obtain ⟨C1, C2, C3, C4, C5, C6, C7, C8⟩ := hC1
      have none : (∀ o, A o → (slS A mn ro pl j).2.2.1 o ≠ rpos ro j) → ∀ o, A o → pl o ≠ rpos ro j := fun hno o ho e => by
        have : ¬ prc ro pl j o := fun ⟨x, hx, ex⟩ => rpos_ne hH.inj (show x ≠ j by omega) (by omega) hj (by rw [← ex, e])
        exact hno o ho (by rw [hI.thr o (fun y => this y.2)]; exact e)
      simp (disch := omega) only [forall_eq, true_and, and_true, and_self, not_true_eq_false, not_false_eq_true, false_imp_iff, true_imp_iff, imp_self, implies_true, ne_eq, reduceIte, cl, cl0, cl1, cl2, vpn, vp0, le8, le16, le40, le640, le1400, le6400, lt8, lt16, le15, le2, nI_leI, nI_ltI, nI_eq, nI_1, nI_add, n_le0, n_lt0, n_0le, n_eq0, n_eq1, n_eq2, n_m1, n_m1r, Nat.reduceEqDiff, Nat.reduceAdd, Int32.add_zero, nI_pred, div16, mul15, mul40, mul16, mul640, mulr16, xu_s, xu_c, xu_k, xu_cc, rows_xu, xf_s, xf_c, rows_xf, xul_c, rows_xul, xul_L, lgc, l2, f52, r1, ep]
      rcases C2 (rpos ro j) hp6 with e | ⟨u, u1, u2, u3⟩
      · have hno : ∀ o, A o → pl o ≠ rpos ro j := none (fun o ho e' => by
          have := C3 o ho
          rw [e', e] at this
          exact (n_m1r (by have := (hA o ho).1; omega)).mp this)
        rw [slS_n hno] at hn1
        simp (disch := omega) only [forall_eq, true_and, and_true, and_self, not_true_eq_false, not_false_eq_true, false_imp_iff, true_imp_iff, imp_self, implies_true, ne_eq, reduceIte, cl, cl0, cl1, cl2, vpn, vp0, le8, le16, le40, le640, le1400, le6400, lt8, lt16, le15, le2, nI_leI, nI_ltI, nI_eq, nI_1, nI_add, n_le0, n_lt0, n_0le, n_eq0, n_eq1, n_eq2, n_m1, n_m1r, Nat.reduceEqDiff, Nat.reduceAdd, Int32.add_zero, nI_pred, div16, mul15, mul40, mul16, mul640, mulr16, xu_s, xu_c, xu_k, xu_cc, rows_xu, xf_s, xf_c, rows_xf, xul_c, rows_xul, xul_L, lgc, e]
        refine hn1 τ1 ?_
        unfold SM
        rw [slS_n hno]
        exact ⟨C1, C2, C3, C4, C5, C6, C7, C8⟩
      · obtain ⟨a1, a2, a3, a4⟩ := hA u u1
        have nu : ¬ (A u ∧ prc ro pl j u) := fun hx => by
          obtain ⟨x, y, x1, x2, x3, x4, x5, x6, x7⟩ := hI.two u hx.1 hx.2
          rw [x4] at u3
          exact rpos_ne hH.inj (show y ≠ j by omega) (by omega) hj u3
        have eu : pl u = rpos ro j := by rw [← hI.thr u nu]; exact u3
        have uq : ∀ q, A q → pl q = rpos ro j → q = u := fun q hq x => by
          by_cases y : q = u
          · exact y
          · have := hH.dis q u hq u1 y; omega
        obtain ⟨y, y1, y2, y3, y4, y5⟩ := SI_to hH hI hj u1 eu
        have es := slS_y (mn := mn) u1 eu uq
        unfold slP at es
        obtain ⟨len, elen⟩ : ∃ len, (slS A mn ro pl j).1 = len := ⟨_, rfl⟩
        obtain ⟨fill, efill⟩ : ∃ fill, (slS A mn ro pl j).2.1 = fill := ⟨_, rfl⟩
        obtain ⟨P, eP⟩ : ∃ P, (slS A mn ro pl j).2.2.1 = P := ⟨_, rfl⟩
        obtain ⟨mv, emv⟩ : ∃ mv, (slS A mn ro pl j).2.2.2 = mv := ⟨_, rfl⟩
        rw [elen, efill] at y3 y4 y5
        rw [elen, efill, eP] at hI
        rw [elen, efill, eP, emv] at es
        rw [emv] at C4
        rw [eP] at C1 C2 C3 u3
        rw [elen, efill]
        have hry := (hro (y / 16) (by omega)).2
        have hyb : rpos ro y < 640 := by unfold rpos; omega
        have hlm : len ≤ m ∧ fill ≤ 16 := by
          rcases hI.one with ⟨a, b⟩ | ⟨a, b, c, d, _⟩ <;> omega
        have fin : ∀ (len' fill' : Nat), slS A mn ro pl (j + 1) = (len', fill', va_up P u (rpos ro y), mv + (if rpos ro y = rpos ro j then 0 else 1)) → 0 < len' → (1 ≤ fill' ∧ fill' ≤ 16) → 16 * (len' - 1) + fill' = y + (mn u + 1) →
            ((¬ rpos ro j = rpos ro y → p_Mod_slide_L24 (p_Mod_slide_L10 Q f) Q f' (nI r) (nI (len' - 1)) (nI fill') 1 (nI k) (nI (i + 1)) (xu (xu (xu (xu τ1 49 (rpos ro j) (-1)) 49 (rpos ro y) (nI u)) 44 u (nI (rpos ro y))) 31 23 (τ1 31 23 + 1))) ∧ (rpos ro j = rpos ro y → p_Mod_slide_L24 (p_Mod_slide_L10 Q f) Q f' (nI r) (nI (len' - 1)) (nI fill') 1 (nI k) (nI (i + 1)) (xu (xu (xu (xu τ1 49 (rpos ro j) (-1)) 49 (rpos ro y) (nI u)) 44 u (nI (rpos ro y))) 31 23 (τ1 31 23)))) := fun len' fill' es hl hf he => by
          obtain ⟨hI', hfree⟩ := SI_y hH hI hj u1 eu y1 y2 y5 hl hf he
          have dP : ∀ o, A o → o ≠ u → P o ≠ rpos ro y ∧ P o ≠ rpos ro j := fun o ho hne => by
            have a := hfree o ho (Or.inl ho) hne
            have b := hI.fou o u ⟨ho, Or.inl ho⟩ ⟨u1, Or.inl u1⟩ hne
            omega
          have go : ∀ v : Int32, v = σ 31 23 + nI (mv + (if rpos ro y = rpos ro j then 0 else 1)) → p_Mod_slide_L24 (p_Mod_slide_L10 Q f) Q f' (nI r) (nI (len' - 1)) (nI fill') 1 (nI k) (nI (i + 1)) (xu (xu (xu (xu τ1 49 (rpos ro j) (-1)) 49 (rpos ro y) (nI u)) 44 u (nI (rpos ro y))) 31 23 v) := fun v hv => by
            have hn := hn1 (xu (xu (xu (xu τ1 49 (rpos ro j) (-1)) 49 (rpos ro y) (nI u)) 44 u (nI (rpos ro y))) 31 23 v) (by
              unfold SM
              rw [es]
              dsimp only
              refine ⟨fun o ho => ?_, fun p hp => ?_, fun o ho => ?_, ?_, fun d d1 d2 d3 => ?_, fun x hx => ?_, fun o ho => ?_, fun p hp => ?_⟩
              · simp (disch := omega) only [forall_eq, true_and, and_true, and_self, not_true_eq_false, not_false_eq_true, false_imp_iff, true_imp_iff, imp_self, implies_true, ne_eq, reduceIte, cl, cl0, cl1, cl2, vpn, vp0, le8, le16, le40, le640, le1400, le6400, lt8, lt16, le15, le2, nI_leI, nI_ltI, nI_eq, nI_1, nI_add, n_le0, n_lt0, n_0le, n_eq0, n_eq1, n_eq2, n_m1, n_m1r, Nat.reduceEqDiff, Nat.reduceAdd, Int32.add_zero, nI_pred, div16, mul15, mul40, mul16, mul640, mulr16, xu_s, xu_c, xu_k, xu_cc, rows_xu, xf_s, xf_c, rows_xf, xul_c, rows_xul, xul_L, lgc]
                by_cases eo : o = u
                · rw [eo, upd_s, vu_s]
                · rw [upd_n _ _ eo, vu_n _ _ eo]; exact C1 o ho
              · simp (disch := omega) only [forall_eq, true_and, and_true, and_self, not_true_eq_false, not_false_eq_true, false_imp_iff, true_imp_iff, imp_self, implies_true, ne_eq, reduceIte, cl, cl0, cl1, cl2, vpn, vp0, le8, le16, le40, le640, le1400, le6400, lt8, lt16, le15, le2, nI_leI, nI_ltI, nI_eq, nI_1, nI_add, n_le0, n_lt0, n_0le, n_eq0, n_eq1, n_eq2, n_m1, n_m1r, Nat.reduceEqDiff, Nat.reduceAdd, Int32.add_zero, nI_pred, div16, mul15, mul40, mul16, mul640, mulr16, xu_s, xu_c, xu_k, xu_cc, rows_xu, xf_s, xf_c, rows_xf, xul_c, rows_xul, xul_L, lgc]
                by_cases ey : p = rpos ro y
                · right; exact ⟨u, u1, by rw [ey, upd_s], by rw [vu_s, ey]⟩
                · rw [upd_n _ _ ey]
                  by_cases e' : p = rpos ro j
                  · left; rw [e', upd_s]
                  · rw [upd_n _ _ e']
                    rcases C2 p hp with x | ⟨o, o1, o2, o3⟩
                    · exact Or.inl x
                    · have hne : o ≠ u := fun z => e' (by rw [← o3, z, u3])
                      exact Or.inr ⟨o, o1, o2, by rw [vu_n _ _ hne]; exact o3⟩
              · simp (disch := omega) only [forall_eq, true_and, and_true, and_self, not_true_eq_false, not_false_eq_true, false_imp_iff, true_imp_iff, imp_self, implies_true, ne_eq, reduceIte, cl, cl0, cl1, cl2, vpn, vp0, le8, le16, le40, le640, le1400, le6400, lt8, lt16, le15, le2, nI_leI, nI_ltI, nI_eq, nI_1, nI_add, n_le0, n_lt0, n_0le, n_eq0, n_eq1, n_eq2, n_m1, n_m1r, Nat.reduceEqDiff, Nat.reduceAdd, Int32.add_zero, nI_pred, div16, mul15, mul40, mul16, mul640, mulr16, xu_s, xu_c, xu_k, xu_cc, rows_xu, xf_s, xf_c, rows_xf, xul_c, rows_xul, xul_L, lgc]
                by_cases eo : o = u
                · rw [eo, vu_s, upd_s]
                · rw [vu_n _ _ eo, upd_n _ _ (dP o ho eo).1, upd_n _ _ (dP o ho eo).2]
                  exact C3 o ho
              · simp (disch := omega) only [forall_eq, true_and, and_true, and_self, not_true_eq_false, not_false_eq_true, false_imp_iff, true_imp_iff, imp_self, implies_true, ne_eq, reduceIte, cl, cl0, cl1, cl2, vpn, vp0, le8, le16, le40, le640, le1400, le6400, lt8, lt16, le15, le2, nI_leI, nI_ltI, nI_eq, nI_1, nI_add, n_le0, n_lt0, n_0le, n_eq0, n_eq1, n_eq2, n_m1, n_m1r, Nat.reduceEqDiff, Nat.reduceAdd, Int32.add_zero, nI_pred, div16, mul15, mul40, mul16, mul640, mulr16, xu_s, xu_c, xu_k, xu_cc, rows_xu, xf_s, xf_c, rows_xf, xul_c, rows_xul, xul_L, lgc]; exact hv
              · simp (disch := omega) only [forall_eq, true_and, and_true, and_self, not_true_eq_false, not_false_eq_true, false_imp_iff, true_imp_iff, imp_self, implies_true, ne_eq, reduceIte, cl, cl0, cl1, cl2, vpn, vp0, le8, le16, le40, le640, le1400, le6400, lt8, lt16, le15, le2, nI_leI, nI_ltI, nI_eq, nI_1, nI_add, n_le0, n_lt0, n_0le, n_eq0, n_eq1, n_eq2, n_m1, n_m1r, Nat.reduceEqDiff, Nat.reduceAdd, Int32.add_zero, nI_pred, div16, mul15, mul40, mul16, mul640, mulr16, xu_s, xu_c, xu_k, xu_cc, rows_xu, xf_s, xf_c, rows_xf, xul_c, rows_xul, xul_L, lgc]; exact C5 d d1 d2 d3
              · simp (disch := omega) only [forall_eq, true_and, and_true, and_self, not_true_eq_false, not_false_eq_true, false_imp_iff, true_imp_iff, imp_self, implies_true, ne_eq, reduceIte, cl, cl0, cl1, cl2, vpn, vp0, le8, le16, le40, le640, le1400, le6400, lt8, lt16, le15, le2, nI_leI, nI_ltI, nI_eq, nI_1, nI_add, n_le0, n_lt0, n_0le, n_eq0, n_eq1, n_eq2, n_m1, n_m1r, Nat.reduceEqDiff, Nat.reduceAdd, Int32.add_zero, nI_pred, div16, mul15, mul40, mul16, mul640, mulr16, xu_s, xu_c, xu_k, xu_cc, rows_xu, xf_s, xf_c, rows_xf, xul_c, rows_xul, xul_L, lgc]; exact C6 x hx
              · have : o ≠ u := fun e => ho (e ▸ u1)
                simp (disch := omega) only [forall_eq, true_and, and_true, and_self, not_true_eq_false, not_false_eq_true, false_imp_iff, true_imp_iff, imp_self, implies_true, ne_eq, reduceIte, cl, cl0, cl1, cl2, vpn, vp0, le8, le16, le40, le640, le1400, le6400, lt8, lt16, le15, le2, nI_leI, nI_ltI, nI_eq, nI_1, nI_add, n_le0, n_lt0, n_0le, n_eq0, n_eq1, n_eq2, n_m1, n_m1r, Nat.reduceEqDiff, Nat.reduceAdd, Int32.add_zero, nI_pred, div16, mul15, mul40, mul16, mul640, mulr16, xu_s, xu_c, xu_k, xu_cc, rows_xu, xf_s, xf_c, rows_xf, xul_c, rows_xul, xul_L, lgc]; exact C7 o ho
              · simp (disch := omega) only [forall_eq, true_and, and_true, and_self, not_true_eq_false, not_false_eq_true, false_imp_iff, true_imp_iff, imp_self, implies_true, ne_eq, reduceIte, cl, cl0, cl1, cl2, vpn, vp0, le8, le16, le40, le640, le1400, le6400, lt8, lt16, le15, le2, nI_leI, nI_ltI, nI_eq, nI_1, nI_add, n_le0, n_lt0, n_0le, n_eq0, n_eq1, n_eq2, n_m1, n_m1r, Nat.reduceEqDiff, Nat.reduceAdd, Int32.add_zero, nI_pred, div16, mul15, mul40, mul16, mul640, mulr16, xu_s, xu_c, xu_k, xu_cc, rows_xu, xf_s, xf_c, rows_xf, xul_c, rows_xul, xul_L, lgc]; exact C8 p hp)
            rw [es] at hn
            dsimp only at hn
            unfold pgI atI anI at hn
            rw [if_neg (by omega), if_neg (by omega)] at hn
            exact hn
          refine ⟨fun hne => go _ ?_, fun he' => go _ ?_⟩
          · rw [if_neg (fun x => hne x.symm), C4, add_nI]
          · rw [if_pos he'.symm, C4, Nat.add_zero]
        unfold p_Mod_slide_J90 p_Mod_slide_J151
        unfold pgI atI
        rcases Nat.eq_zero_or_pos len with l0 | l0
        · subst l0
          have hf16 : fill = 16 := by
            rcases hI.one with ⟨a, b⟩ | ⟨a, _⟩
            · exact b
            · omega
          have hov : 16 < fill + (mn u + 1) := by omega
          obtain ⟨z1, z2, z3⟩ := y3 hov
          rw [if_pos hov, ← z2] at es
          have hlt : mn u + 1 ≤ 16 := by omega
          obtain ⟨q1, q2⟩ := hro 0 (by omega)
          rw [Nat.add_zero] at q1
          have ez : 16 * ro 0 = rpos ro y := by rw [z2]; omega
          have key := fin 1 (mn u + 1) es (by omega) ⟨by omega, by omega⟩ (by omega)
          rw [if_pos rfl]
          simp (disch := omega) only [forall_eq, true_and, and_true, and_self, not_true_eq_false, not_false_eq_true, false_imp_iff, true_imp_iff, imp_self, implies_true, ne_eq, reduceIte, cl, cl0, cl1, cl2, vpn, vp0, le8, le16, le40, le640, le1400, le6400, lt8, lt16, le15, le2, nI_leI, nI_ltI, nI_eq, nI_1, nI_add, n_le0, n_lt0, n_0le, n_eq0, n_eq1, n_eq2, n_m1, n_m1r, Nat.reduceEqDiff, Nat.reduceAdd, Int32.add_zero, nI_pred, div16, mul15, mul40, mul16, mul640, mulr16, xu_s, xu_c, xu_k, xu_cc, rows_xu, xf_s, xf_c, rows_xf, xul_c, rows_xul, xul_L, lgc, u2, f42, a2, Int32.zero_add, hlt, nI_0, f52, q1, ez, Nat.zero_sub, Nat.sub_self] at key ⊢
          exact key
        · rw [if_neg (by omega)]
          obtain ⟨ln, rfl⟩ : ∃ ln, len = ln + 1 := ⟨len - 1, by omega⟩
          rw [show ln + 1 - 1 = ln by omega] at y4 ⊢
          by_cases hov : 16 < fill + (mn u + 1)
          · obtain ⟨z1, z2, z3⟩ := y3 hov
            rw [if_pos hov, ← z2] at es
            have hlt : ¬ fill + mn u + 1 ≤ 16 := by omega
            obtain ⟨q1, q2⟩ := hro (ln + 1) z3
            have ez : 16 * ro (ln + 1) = rpos ro y := by rw [z2]; omega
            have key := fin (ln + 1 + 1) (mn u + 1) es (by omega) ⟨by omega, by omega⟩ (by omega)
            rw [show ln + 1 + 1 - 1 = ln + 1 by omega] at key
            simp (disch := omega) only [forall_eq, true_and, and_true, and_self, not_true_eq_false, not_false_eq_true, false_imp_iff, true_imp_iff, imp_self, implies_true, ne_eq, reduceIte, cl, cl0, cl1, cl2, vpn, vp0, le8, le16, le40, le640, le1400, le6400, lt8, lt16, le15, le2, nI_leI, nI_ltI, nI_eq, nI_1, nI_add, n_le0, n_lt0, n_0le, n_eq0, n_eq1, n_eq2, n_m1, n_m1r, Nat.reduceEqDiff, Nat.reduceAdd, Int32.add_zero, nI_pred, div16, mul15, mul40, mul16, mul640, mulr16, xu_s, xu_c, xu_k, xu_cc, rows_xu, xf_s, xf_c, rows_xf, xul_c, rows_xul, xul_L, lgc, u2, f42, a2, Int32.zero_add, hlt, f52, q1, ez] at key ⊢
            exact key
          · obtain ⟨z1, z2, z3⟩ := y4 hov
            rw [if_neg hov, show ln + 1 - 1 = ln by omega, ← z3] at es
            have hlt : fill + mn u + 1 ≤ 16 := by omega
            obtain ⟨q1, q2⟩ := hro ln (by omega)
            have ez : 16 * ro ln + fill = rpos ro y := by rw [z3]; omega
            have key := fin (ln + 1) (fill + (mn u + 1)) es (by omega) ⟨by omega, by omega⟩ (by omega)
            rw [show ln + 1 - 1 = ln by omega] at key
            simp (disch := omega) only [forall_eq, true_and, and_true, and_self, not_true_eq_false, not_false_eq_true, false_imp_iff, true_imp_iff, imp_self, implies_true, ne_eq, reduceIte, cl, cl0, cl1, cl2, vpn, vp0, le8, le16, le40, le640, le1400, le6400, lt8, lt16, le15, le2, nI_leI, nI_ltI, nI_eq, nI_1, nI_add, n_le0, n_lt0, n_0le, n_eq0, n_eq1, n_eq2, n_m1, n_m1r, Nat.reduceEqDiff, Nat.reduceAdd, Int32.add_zero, nI_pred, div16, mul15, mul40, mul16, mul640, mulr16, xu_s, xu_c, xu_k, xu_cc, rows_xu, xf_s, xf_c, rows_xf, xul_c, rows_xul, xul_L, lgc, u2, f42, a2, Int32.zero_add, hlt, f52, q1, ez] at key ⊢
            exact key
    · intro f' τ1 hC1
      show b_Mod_slide_L24 (p_Mod_slide_L10 Q f) (p_Mod_slide_L24 (p_Mod_slide_L10 Q f) Q f') Q (nI r) _ _ _ (nI k) (nI 16) τ1
      unfold b_Mod_slide_L24
      simp (disch := omega) only [forall_eq, true_and, and_true, and_self, not_true_eq_false, not_false_eq_true, false_imp_iff, true_imp_iff, imp_self, implies_true, ne_eq, reduceIte, cl, cl0, cl1, cl2, vpn, vp0, le8, le16, le40, le640, le1400, le6400, lt8, lt16, le15, le2, nI_leI, nI_ltI, nI_eq, nI_1, nI_add, n_le0, n_lt0, n_0le, n_eq0, n_eq1, n_eq2, n_m1, n_m1r, Nat.reduceEqDiff, Nat.reduceAdd, Int32.add_zero, nI_pred, div16, mul15, mul40, mul16, mul640, mulr16, xu_s, xu_c, xu_k, xu_cc, rows_xu, xf_s, xf_c, rows_xf, xul_c, rows_xul, xul_L, lgc, Nat.le_refl]
      have := hnext τ1 (by rw [show (k + 1) * 16 = k * 16 + 16 by omega]; exact hC1)
      rw [show (k + 1) * 16 = k * 16 + 16 by omega] at this
      exact this
  · intro f τ hC
    show b_Mod_slide_L10 (p_Mod_slide_L10 Q f) Q (nI r) _ _ _ (nI m) τ
    unfold b_Mod_slide_L10
    rw [Nat.mul_comm m 16] at hC ⊢
    obtain ⟨h1, h2, h3, h4⟩ := slS_le hH (Nat.le_refl (16 * m))
    have f51 : τ 51 = σ 51 := hC.2.2.2.2.1 51 (by decide) (by decide) (by decide)
    have f52 : τ 52 = σ 52 := hC.2.2.2.2.1 52 (by decide) (by decide) (by decide)
    have f50 : τ 50 = σ 50 := hC.2.2.2.2.1 50 (by decide) (by decide) (by decide)
    have hh := h τ hC
    obtain ⟨len, elen⟩ : ∃ len, (slS A mn ro pl (16 * m)).1 = len := ⟨_, rfl⟩
    obtain ⟨fill, efill⟩ : ∃ fill, (slS A mn ro pl (16 * m)).2.1 = fill := ⟨_, rfl⟩
    rw [elen, efill] at hh ⊢
    rw [elen] at h1
    have fr : ∃ n, p_Mod_slide_L200 Q n (nI r) (atI len fill) (nI len) (nI len) τ := by
      have key := lpF (fun f i => p_Mod_slide_L200 Q f (nI r) (atI len fill) (nI len) (nI (len + i)) (va_up τ 50 (cw (fun _ => True) (fun k => ro (len + k)) (fun _ => 0) (τ 50) i))) (m - len) (by
        intro f i hi hk
        show b_Mod_slide_L200 (p_Mod_slide_L200 Q f) Q (nI r) _ _ (nI (len + i)) _
        unfold b_Mod_slide_L200
        have l1 : ¬ m ≤ len + i := by omega
        obtain ⟨e1, e2⟩ := hro (len + i) (by omega)
        have e3 := cw_y (B := fun _ => True) (fun k => ro (len + k)) (fun _ => 0) (τ 50) (k := i) trivial
        rw [← e3] at hk
        simp (disch := omega) only [forall_eq, true_and, and_true, and_self, not_true_eq_false, not_false_eq_true, false_imp_iff, true_imp_iff, imp_self, implies_true, ne_eq, reduceIte, cl, cl0, cl1, cl2, vpn, vp0, le8, le16, le40, le640, le1400, le6400, lt8, lt16, le15, le2, nI_leI, nI_ltI, nI_eq, nI_1, nI_add, n_le0, n_lt0, n_0le, n_eq0, n_eq1, n_eq2, n_m1, n_m1r, Nat.reduceEqDiff, Nat.reduceAdd, Int32.add_zero, nI_pred, div16, mul15, mul40, mul16, mul640, mulr16, xu_s, xu_c, xu_k, xu_cc, rows_xu, xf_s, xf_c, rows_xf, xul_c, rows_xul, xul_L, lgc, f51, hm, l1, f52, e1, nar0, xu_xf]
        exact hk) (by
        intro f
        show b_Mod_slide_L200 (p_Mod_slide_L200 Q f) Q (nI r) _ _ (nI (len + (m - len))) _
        unfold b_Mod_slide_L200
        rw [show len + (m - len) = m by omega]
        simp (disch := omega) only [forall_eq, true_and, and_true, and_self, not_true_eq_false, not_false_eq_true, false_imp_iff, true_imp_iff, imp_self, implies_true, ne_eq, reduceIte, cl, cl0, cl1, cl2, vpn, vp0, le8, le16, le40, le640, le1400, le6400, lt8, lt16, le15, le2, nI_leI, nI_ltI, nI_eq, nI_1, nI_add, n_le0, n_lt0, n_0le, n_eq0, n_eq1, n_eq2, n_m1, n_m1r, Nat.reduceEqDiff, Nat.reduceAdd, Int32.add_zero, nI_pred, div16, mul15, mul40, mul16, mul640, mulr16, xu_s, xu_c, xu_k, xu_cc, rows_xu, xf_s, xf_c, rows_xf, xul_c, rows_xul, xul_L, lgc, f51, hm, Nat.le_refl]
        rw [f50]
        exact hh)
      rw [cw_0, xf_0, Nat.add_zero] at key
      exact key
    rcases Nat.eq_zero_or_pos len with l0 | l0
    · subst l0
      have a0 : anI 0 = 0 := rfl
      rw [nI_0] at fr
      simp (disch := omega) only [forall_eq, true_and, and_true, and_self, not_true_eq_false, not_false_eq_true, false_imp_iff, true_imp_iff, imp_self, implies_true, ne_eq, reduceIte, cl, cl0, cl1, cl2, vpn, vp0, le8, le16, le40, le640, le1400, le6400, lt8, lt16, le15, le2, nI_leI, nI_ltI, nI_eq, nI_1, nI_add, n_le0, n_lt0, n_0le, n_eq0, n_eq1, n_eq2, n_m1, n_m1r, Nat.reduceEqDiff, Nat.reduceAdd, Int32.add_zero, nI_pred, div16, mul15, mul40, mul16, mul640, mulr16, xu_s, xu_c, xu_k, xu_cc, rows_xu, xf_s, xf_c, rows_xf, xul_c, rows_xul, xul_L, lgc, f51, hm, Nat.le_refl, a0]
      exact fr
    · have a1 : anI len = 1 := if_neg (by omega)
      have a2 : pgI len + 1 = nI len := by unfold pgI; rw [nI_1]; congr 1; omega
      simp (disch := omega) only [forall_eq, true_and, and_true, and_self, not_true_eq_false, not_false_eq_true, false_imp_iff, true_imp_iff, imp_self, implies_true, ne_eq, reduceIte, cl, cl0, cl1, cl2, vpn, vp0, le8, le16, le40, le640, le1400, le6400, lt8, lt16, le15, le2, nI_leI, nI_ltI, nI_eq, nI_1, nI_add, n_le0, n_lt0, n_0le, n_eq0, n_eq1, n_eq2, n_m1, n_m1r, Nat.reduceEqDiff, Nat.reduceAdd, Int32.add_zero, nI_pred, div16, mul15, mul40, mul16, mul640, mulr16, xu_s, xu_c, xu_k, xu_cc, rows_xu, xf_s, xf_c, rows_xf, xul_c, rows_xul, xul_L, lgc, f51, hm, Nat.le_refl, a1, n10, a2]
      exact fr
  · refine ⟨h44, h49, h49', ?_, fun _ _ _ _ => rfl, fun _ _ => rfl, fun _ _ => rfl, fun _ _ => rfl⟩
    show _ = _ + nI 0
    rw [nI_0, Int32.add_zero]
