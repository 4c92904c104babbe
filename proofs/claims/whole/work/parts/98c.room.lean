theorem e_fitC {τ : xS} {r f0 c : Nat} {p m : Nat → Nat} (hr : r < 8) (hf : τ 23 r = nI f0) (f16 : f0 ≤ 16) (hc : τ 3 3 = nI c) (c6 : c ≤ 640) (hp : ∀ k, k < c → τ 12 k = nI (p k) ∧ p k < 640 ∧ τ 29 (p k) &&& 15 = nI (m k) ∧ m k < 16) (Q : Int32 → xS → Prop)
    (hy : (fmK f0 (fun k => m k + 1) c).2 ≤ cnt (fun p => τ 20 p = -1) 40 → Q 1 τ) (hn : ¬ (fmK f0 (fun k => m k + 1) c).2 ≤ cnt (fun p => τ 20 p = -1) 40 → Q 0 τ) : p_Par_fitInto (nI r) τ Q := by
  unfold p_Par_fitInto p_Reg_fillOf
  simp (disch := omega) only [forall_eq, true_and, and_true, and_self, not_true_eq_false, not_false_eq_true, false_imp_iff, true_imp_iff, imp_self, implies_true, ne_eq, reduceIte, cl, cl0, cl1, cl2, vpn, vp0, le8, le16, le40, le640, le1400, le6400, lt8, lt16, le15, le2, nI_leI, nI_ltI, nI_eq, nI_1, nI_add, n_le0, n_lt0, n_0le, n_eq0, n_eq1, n_eq2, n_m1, n_m1r, Nat.reduceEqDiff, Nat.reduceAdd, Int32.add_zero, nI_pred, div16, mul15, mul40, mul16, mul640, mulr16, xu_s, xu_c, xu_k, xu_cc, rows_xu, xf_s, xf_c, rows_xf, xul_c, rows_xul, xul_L, lgc, hf]
  refine e_freePages _ ?_
  obtain ⟨F, eF⟩ : ∃ F, cnt (fun p => τ 20 p = -1) 40 = F := ⟨_, rfl⟩
  have hF : F ≤ 40 := by rw [← eF]; exact cnt_le _ _
  rw [eF] at hy hn ⊢
  have key := lpF (fun f k => p_Par_fitInto_L26 Q f (nI (fmK f0 (fun k => m k + 1) k).1) (nI F - nI (fmK f0 (fun k => m k + 1) k).2) (nI k) τ) c (by
    intro f k hk hnx
    show b_Par_fitInto_L26 (p_Par_fitInto_L26 Q f) Q _ _ (nI k) τ
    unfold b_Par_fitInto_L26 p_Hea_sizeOf p_Hea_fieldsOf
    have l1 : ¬ c ≤ k := by omega
    obtain ⟨a1, a2, a3, a4⟩ := hp k hk
    have hle := fmK_le (sz := fun k => m k + 1) f16 k (fun j hj => by have := (hp j (by omega)).2.2.2; omega)
    by_cases x : (fmK f0 (fun k => m k + 1) k).1 + (m k + 1) ≤ 16
    · rw [fmK_y (sz := fun k => m k + 1) x] at hnx
      simp (disch := omega) only [forall_eq, true_and, and_true, and_self, not_true_eq_false, not_false_eq_true, false_imp_iff, true_imp_iff, imp_self, implies_true, ne_eq, reduceIte, cl, cl0, cl1, cl2, vpn, vp0, le8, le16, le40, le640, le1400, le6400, lt8, lt16, le15, le2, nI_leI, nI_ltI, nI_eq, nI_1, nI_add, n_le0, n_lt0, n_0le, n_eq0, n_eq1, n_eq2, n_m1, n_m1r, Nat.reduceEqDiff, Nat.reduceAdd, Int32.add_zero, nI_pred, div16, mul15, mul40, mul16, mul640, mulr16, xu_s, xu_c, xu_k, xu_cc, rows_xu, xf_s, xf_c, rows_xf, xul_c, rows_xul, xul_L, lgc, hc, l1, a1, a3, x]
      exact hnx
    · rw [fmK_n (sz := fun k => m k + 1) x] at hnx
      simp (disch := omega) only [forall_eq, true_and, and_true, and_self, not_true_eq_false, not_false_eq_true, false_imp_iff, true_imp_iff, imp_self, implies_true, ne_eq, reduceIte, cl, cl0, cl1, cl2, vpn, vp0, le8, le16, le40, le640, le1400, le6400, lt8, lt16, le15, le2, nI_leI, nI_ltI, nI_eq, nI_1, nI_add, n_le0, n_lt0, n_0le, n_eq0, n_eq1, n_eq2, n_m1, n_m1r, Nat.reduceEqDiff, Nat.reduceAdd, Int32.add_zero, nI_pred, div16, mul15, mul40, mul16, mul640, mulr16, xu_s, xu_c, xu_k, xu_cc, rows_xu, xf_s, xf_c, rows_xf, xul_c, rows_xul, xul_L, lgc, hc, l1, a1, a3, x, Int32.zero_add, dec_nI]
      exact hnx) (by
    intro f
    show b_Par_fitInto_L26 (p_Par_fitInto_L26 Q f) Q _ _ (nI c) τ
    unfold b_Par_fitInto_L26
    have hle := fmK_le (sz := fun k => m k + 1) f16 c (fun j hj => by have := (hp j (by omega)).2.2.2; omega)
    simp (disch := omega) only [forall_eq, true_and, and_true, and_self, not_true_eq_false, not_false_eq_true, false_imp_iff, true_imp_iff, imp_self, implies_true, ne_eq, reduceIte, cl, cl0, cl1, cl2, vpn, vp0, le8, le16, le40, le640, le1400, le6400, lt8, lt16, le15, le2, nI_leI, nI_ltI, nI_eq, nI_1, nI_add, n_le0, n_lt0, n_0le, n_eq0, n_eq1, n_eq2, n_m1, n_m1r, Nat.reduceEqDiff, Nat.reduceAdd, Int32.add_zero, nI_pred, div16, mul15, mul40, mul16, mul640, mulr16, xu_s, xu_c, xu_k, xu_cc, rows_xu, xf_s, xf_c, rows_xf, xul_c, rows_xul, xul_L, lgc, hc, Nat.le_refl]
    rw [neg_lt (by omega) (by omega)]
    exact ⟨fun x => hn (by omega), fun x => hy (by omega)⟩)
  have e0 : nI F - nI 0 = nI F := by rw [sub_nI (by omega)]; rfl
  have : (fmK f0 (fun k => m k + 1) 0) = (f0, 0) := rfl
  rw [this] at key
  dsimp only at key
  rw [e0] at key
  exact key
theorem e_roomM {τ : xS} {r mr fr c : Nat} {o m : Nat → Nat} (hr : r < 8) (hm : τ 51 r = nI mr) (mr4 : mr ≤ 40) (hf : τ 53 r = nI fr) (f16 : fr ≤ 16) (hc : τ 31 26 = nI c) (c6 : c ≤ 640) (hp : ∀ k, k < c → τ 57 k = nI (o k) ∧ o k < 640 ∧ τ 42 (o k) = nI (m k) ∧ m k < 16) (Q : Int32 → xS → Prop)
    (hy : (fmK (if mr = 0 then 16 else fr) (fun k => m k + 1) c).2 ≤ cnt (fun p => τ 50 p = 0) 40 → Q 1 τ) (hn : ¬ (fmK (if mr = 0 then 16 else fr) (fun k => m k + 1) c).2 ≤ cnt (fun p => τ 50 p = 0) 40 → Q 0 τ) : p_Mod_haveRoom (nI r) τ Q := by
  obtain ⟨f0, ef⟩ : ∃ f0, (if mr = 0 then 16 else fr) = f0 := ⟨_, rfl⟩
  have hf0 : f0 ≤ 16 := by
    rw [← ef]
    by_cases x : mr = 0
    · rw [if_pos x]; omega
    · rw [if_neg x]; exact f16
  rw [ef] at hy hn
  obtain ⟨F, eF⟩ : ∃ F, cnt (fun p => τ 50 p = 0) 40 = F := ⟨_, rfl⟩
  have hF : F ≤ 40 := by rw [← eF]; exact cnt_le _ _
  rw [eF] at hy hn
  have main : ∃ n, p_Mod_haveRoom_L28 Q n (nI (16 - f0)) 0 0 τ := by
    refine lpF (fun f k => p_Mod_haveRoom_L28 Q f (nI (16 - f0)) (nI (cnt (fun p => τ 50 p = 0) k)) (nI k) τ) 40 ?_ ?_
    · intro f k hk hnx
      show b_Mod_haveRoom_L28 (p_Mod_haveRoom_L28 Q f) Q _ _ (nI k) τ
      unfold b_Mod_haveRoom_L28
      have l1 : ¬ 40 ≤ k := by omega
      by_cases x : τ 50 k = 0
      · rw [cnt_y (fun p => τ 50 p = 0) x] at hnx
        simp (disch := omega) only [forall_eq, true_and, and_true, and_self, not_true_eq_false, not_false_eq_true, false_imp_iff, true_imp_iff, imp_self, implies_true, ne_eq, reduceIte, cl, cl0, cl1, cl2, vpn, vp0, le8, le16, le40, le640, le1400, le6400, lt8, lt16, le15, le2, nI_leI, nI_ltI, nI_eq, nI_1, nI_add, n_le0, n_lt0, n_0le, n_eq0, n_eq1, n_eq2, n_m1, n_m1r, Nat.reduceEqDiff, Nat.reduceAdd, Int32.add_zero, nI_pred, div16, mul15, mul40, mul16, mul640, mulr16, xu_s, xu_c, xu_k, xu_cc, rows_xu, xf_s, xf_c, rows_xf, xul_c, rows_xul, xul_L, lgc, l1, x]
        exact hnx
      · rw [cnt_n (fun p => τ 50 p = 0) x] at hnx
        simp (disch := omega) only [forall_eq, true_and, and_true, and_self, not_true_eq_false, not_false_eq_true, false_imp_iff, true_imp_iff, imp_self, implies_true, ne_eq, reduceIte, cl, cl0, cl1, cl2, vpn, vp0, le8, le16, le40, le640, le1400, le6400, lt8, lt16, le15, le2, nI_leI, nI_ltI, nI_eq, nI_1, nI_add, n_le0, n_lt0, n_0le, n_eq0, n_eq1, n_eq2, n_m1, n_m1r, Nat.reduceEqDiff, Nat.reduceAdd, Int32.add_zero, nI_pred, div16, mul15, mul40, mul16, mul640, mulr16, xu_s, xu_c, xu_k, xu_cc, rows_xu, xf_s, xf_c, rows_xf, xul_c, rows_xul, xul_L, lgc, l1, x]
        exact hnx
    · intro f
      show b_Mod_haveRoom_L28 (p_Mod_haveRoom_L28 Q f) Q _ _ (nI 40) τ
      unfold b_Mod_haveRoom_L28
      simp (disch := omega) only [forall_eq, true_and, and_true, and_self, not_true_eq_false, not_false_eq_true, false_imp_iff, true_imp_iff, imp_self, implies_true, ne_eq, reduceIte, cl, cl0, cl1, cl2, vpn, vp0, le8, le16, le40, le640, le1400, le6400, lt8, lt16, le15, le2, nI_leI, nI_ltI, nI_eq, nI_1, nI_add, n_le0, n_lt0, n_0le, n_eq0, n_eq1, n_eq2, n_m1, n_m1r, Nat.reduceEqDiff, Nat.reduceAdd, Int32.add_zero, nI_pred, div16, mul15, mul40, mul16, mul640, mulr16, xu_s, xu_c, xu_k, xu_cc, rows_xu, xf_s, xf_c, rows_xf, xul_c, rows_xul, xul_L, lgc, Nat.le_refl]
      rw [eF]
      have key := lpF (fun f k => p_Mod_haveRoom_L62 Q f (nI (16 - (fmK f0 (fun k => m k + 1) k).1)) (nI F - nI (fmK f0 (fun k => m k + 1) k).2) (nI k) τ) c (by
        intro f k hk hnx
        show b_Mod_haveRoom_L62 (p_Mod_haveRoom_L62 Q f) Q _ _ (nI k) τ
        unfold b_Mod_haveRoom_L62
        have l1 : ¬ c ≤ k := by omega
        obtain ⟨a1, a2, a3, a4⟩ := hp k hk
        have hle := fmK_le (sz := fun k => m k + 1) hf0 k (fun j hj => by have := (hp j (by omega)).2.2.2; omega)
        by_cases x : (fmK f0 (fun k => m k + 1) k).1 + (m k + 1) ≤ 16
        · rw [fmK_y (sz := fun k => m k + 1) x] at hnx
          have x' : m k + 1 ≤ 16 - (fmK f0 (fun k => m k + 1) k).1 := by omega
          dsimp only at hnx
          rw [show 16 - ((fmK f0 (fun k => m k + 1) k).1 + (m k + 1)) = 16 - (fmK f0 (fun k => m k + 1) k).1 - (m k + 1) by omega] at hnx
          simp (disch := omega) only [forall_eq, true_and, and_true, and_self, not_true_eq_false, not_false_eq_true, false_imp_iff, true_imp_iff, imp_self, implies_true, ne_eq, reduceIte, cl, cl0, cl1, cl2, vpn, vp0, le8, le16, le40, le640, le1400, le6400, lt8, lt16, le15, le2, nI_leI, nI_ltI, nI_eq, nI_1, nI_add, n_le0, n_lt0, n_0le, n_eq0, n_eq1, n_eq2, n_m1, n_m1r, Nat.reduceEqDiff, Nat.reduceAdd, Int32.add_zero, nI_pred, div16, mul15, mul40, mul16, mul640, mulr16, xu_s, xu_c, xu_k, xu_cc, rows_xu, xf_s, xf_c, rows_xf, xul_c, rows_xul, xul_L, lgc, hc, l1, a1, a3, x', sub_nI]
          exact hnx
        · rw [fmK_n (sz := fun k => m k + 1) x] at hnx
          have x' : ¬ m k + 1 ≤ 16 - (fmK f0 (fun k => m k + 1) k).1 := by omega
          have e16 : (16 : Int32) - nI (m k + 1) = nI (16 - (m k + 1)) := sub_nI (a := 16) (by omega)
          simp (disch := omega) only [forall_eq, true_and, and_true, and_self, not_true_eq_false, not_false_eq_true, false_imp_iff, true_imp_iff, imp_self, implies_true, ne_eq, reduceIte, cl, cl0, cl1, cl2, vpn, vp0, le8, le16, le40, le640, le1400, le6400, lt8, lt16, le15, le2, nI_leI, nI_ltI, nI_eq, nI_1, nI_add, n_le0, n_lt0, n_0le, n_eq0, n_eq1, n_eq2, n_m1, n_m1r, Nat.reduceEqDiff, Nat.reduceAdd, Int32.add_zero, nI_pred, div16, mul15, mul40, mul16, mul640, mulr16, xu_s, xu_c, xu_k, xu_cc, rows_xu, xf_s, xf_c, rows_xf, xul_c, rows_xul, xul_L, lgc, hc, l1, a1, a3, x', e16, dec_nI]
          exact hnx) (by
        intro f
        show b_Mod_haveRoom_L62 (p_Mod_haveRoom_L62 Q f) Q _ _ (nI c) τ
        unfold b_Mod_haveRoom_L62
        have hle := fmK_le (sz := fun k => m k + 1) hf0 c (fun j hj => by have := (hp j (by omega)).2.2.2; omega)
        simp (disch := omega) only [forall_eq, true_and, and_true, and_self, not_true_eq_false, not_false_eq_true, false_imp_iff, true_imp_iff, imp_self, implies_true, ne_eq, reduceIte, cl, cl0, cl1, cl2, vpn, vp0, le8, le16, le40, le640, le1400, le6400, lt8, lt16, le15, le2, nI_leI, nI_ltI, nI_eq, nI_1, nI_add, n_le0, n_lt0, n_0le, n_eq0, n_eq1, n_eq2, n_m1, n_m1r, Nat.reduceEqDiff, Nat.reduceAdd, Int32.add_zero, nI_pred, div16, mul15, mul40, mul16, mul640, mulr16, xu_s, xu_c, xu_k, xu_cc, rows_xu, xf_s, xf_c, rows_xf, xul_c, rows_xul, xul_L, lgc, hc, Nat.le_refl]
        rw [neg_lt (by omega) (by omega)]
        exact ⟨fun x => hn (by omega), fun x => hy (by omega)⟩)
      have e0 : nI F - nI 0 = nI F := by rw [sub_nI (by omega)]; rfl
      have : (fmK f0 (fun k => m k + 1) 0) = (f0, 0) := rfl
      rw [this] at key
      dsimp only at key
      rw [e0] at key
      exact key
  unfold p_Mod_haveRoom
  by_cases x : mr = 0
  · rw [if_pos x] at ef
    rw [← ef, show 16 - 16 = 0 by omega, nI_0] at main
    rw [x] at hm
    simp (disch := omega) only [forall_eq, true_and, and_true, and_self, not_true_eq_false, not_false_eq_true, false_imp_iff, true_imp_iff, imp_self, implies_true, ne_eq, reduceIte, cl, cl0, cl1, cl2, vpn, vp0, le8, le16, le40, le640, le1400, le6400, lt8, lt16, le15, le2, nI_leI, nI_ltI, nI_eq, nI_1, nI_add, n_le0, n_lt0, n_0le, n_eq0, n_eq1, n_eq2, n_m1, n_m1r, Nat.reduceEqDiff, Nat.reduceAdd, Int32.add_zero, nI_pred, div16, mul15, mul40, mul16, mul640, mulr16, xu_s, xu_c, xu_k, xu_cc, rows_xu, xf_s, xf_c, rows_xf, xul_c, rows_xul, xul_L, lgc, hm]
    exact main
  · rw [if_neg x] at ef
    have e16 : (16 : Int32) - nI fr = nI (16 - fr) := sub_nI (a := 16) (by omega)
    rw [← ef] at main
    simp (disch := omega) only [forall_eq, true_and, and_true, and_self, not_true_eq_false, not_false_eq_true, false_imp_iff, true_imp_iff, imp_self, implies_true, ne_eq, reduceIte, cl, cl0, cl1, cl2, vpn, vp0, le8, le16, le40, le640, le1400, le6400, lt8, lt16, le15, le2, nI_leI, nI_ltI, nI_eq, nI_1, nI_add, n_le0, n_lt0, n_0le, n_eq0, n_eq1, n_eq2, n_m1, n_m1r, Nat.reduceEqDiff, Nat.reduceAdd, Int32.add_zero, nI_pred, div16, mul15, mul40, mul16, mul640, mulr16, xu_s, xu_c, xu_k, xu_cc, rows_xu, xf_s, xf_c, rows_xf, xul_c, rows_xul, xul_L, lgc, hm, x, hf, e16]
    exact main
theorem least {P : Nat → Prop} {n : Nat} (h : ∃ p, p < n ∧ P p) : ∃ p, p < n ∧ P p ∧ ∀ p', p' < p → ¬ P p' := by
  obtain ⟨p, hp, h⟩ := h
  induction p using Nat.strongRecOn with
  | ind p ih =>
    by_cases x : ∃ p', p' < p ∧ P p'
    · obtain ⟨p', a, b⟩ := x
      exact ih p' a (by omega) b
    · exact ⟨p, hp, h, fun p' a b => x ⟨p', a, b⟩⟩
def clF (ρ : xS) (r : Nat) : Nat := if mm ρ r = 0 then 16 else tf ρ r
theorem Tk_ex {σ ρ : xS} {r s : Nat} (hT : TR σ ρ) (hr : r < rN ρ) (hs : 1 ≤ s ∧ s ≤ 16) (h : clF ρ r + s ≤ 16 ∨ 0 < cnt (fun p => ρ 50 p = 0) 40) : ∃ σ' ρ' q, Tk σ ρ r s σ' ρ' q ∧ (clF ρ r + s ≤ 16 → clF ρ' r = clF ρ r + s ∧ cnt (fun p => ρ' 50 p = 0) 40 = cnt (fun p => ρ 50 p = 0) 40) ∧ (¬ clF ρ r + s ≤ 16 → clF ρ' r = s ∧ cnt (fun p => ρ' 50 p = 0) 40 + 1 = cnt (fun p => ρ 50 p = 0) 40) := by
  obtain ⟨a1, a2, a3, a4, a5, a6, a7, a8, a9, aA⟩ := TR_at hT hr
  by_cases hf : 0 < mm ρ r ∧ tf ρ r + s ≤ 16
  · have e : clF ρ r = tf ρ r := if_neg (by omega)
    refine ⟨_, _, _, Or.inl ⟨hf.1, hf.2, rfl, rfl, rfl⟩, fun _ => ?_, fun x => by omega⟩
    unfold clF mm tf
    simp (disch := omega) only [forall_eq, true_and, and_true, and_self, not_true_eq_false, not_false_eq_true, false_imp_iff, true_imp_iff, imp_self, implies_true, ne_eq, reduceIte, cl, cl0, cl1, cl2, vpn, vp0, le8, le16, le40, le640, le1400, le6400, lt8, lt16, le15, le2, nI_leI, nI_ltI, nI_eq, nI_1, nI_add, n_le0, n_lt0, n_0le, n_eq0, n_eq1, n_eq2, n_m1, n_m1r, Nat.reduceEqDiff, Nat.reduceAdd, Int32.add_zero, nI_pred, div16, mul15, mul40, mul16, mul640, mulr16, xu_s, xu_c, xu_k, xu_cc, rows_xu, xf_s, xf_c, rows_xf, xul_c, rows_xul, xul_L, lgc]
    have hm : ¬ (ρ 51 r).toNatClampNeg = 0 := by have := hf.1; unfold mm at this; omega
    rw [if_neg hm, if_neg hm]
    exact cl (by have := hf.2; unfold tf at this; omega)
  · have hov : mm ρ r = 0 ∨ 16 < tf ρ r + s := by omega
    have hno : ¬ clF ρ r + s ≤ 16 := by
      unfold clF
      by_cases x : mm ρ r = 0
      · rw [if_pos x]; omega
      · rw [if_neg x]; omega
    have hpos : 0 < cnt (fun p => ρ 50 p = 0) 40 := h.elim (fun x => absurd x hno) id
    have hex : ∃ p, p < 40 ∧ ρ 50 p = 0 := by
      refine Classical.byContradiction (fun hn => ?_)
      have := cnt_none (P := fun p => ρ 50 p = 0) (n := 40) (fun p hp x => hn ⟨p, hp, x⟩)
      omega
    obtain ⟨p, p1, p2, p3⟩ := least hex
    have hm := Tk_lt hT hr p1 p2
    refine ⟨_, _, _, Or.inr ⟨hov, p, p1, p2, p3, rfl, rfl, rfl⟩, fun x => absurd x hno, fun _ => ?_⟩
    constructor
    · unfold clF
      have e1 : mm (xu (xu (xu (xu ρ 52 (40 * r + mm ρ r) (nI p)) 51 r (nI (mm ρ r + 1))) 50 p 1) 53 r (nI s)) r = mm ρ r + 1 := by
        show ((xu (xu (xu (xu ρ 52 (40 * r + mm ρ r) (nI p)) 51 r (nI (mm ρ r + 1))) 50 p 1) 53 r (nI s)) 51 r).toNatClampNeg = _
        simp (disch := omega) only [forall_eq, true_and, and_true, and_self, not_true_eq_false, not_false_eq_true, false_imp_iff, true_imp_iff, imp_self, implies_true, ne_eq, reduceIte, cl, cl0, cl1, cl2, vpn, vp0, le8, le16, le40, le640, le1400, le6400, lt8, lt16, le15, le2, nI_leI, nI_ltI, nI_eq, nI_1, nI_add, n_le0, n_lt0, n_0le, n_eq0, n_eq1, n_eq2, n_m1, n_m1r, Nat.reduceEqDiff, Nat.reduceAdd, Int32.add_zero, nI_pred, div16, mul15, mul40, mul16, mul640, mulr16, xu_s, xu_c, xu_k, xu_cc, rows_xu, xf_s, xf_c, rows_xf, xul_c, rows_xul, xul_L, lgc]
      have e2 : tf (xu (xu (xu (xu ρ 52 (40 * r + mm ρ r) (nI p)) 51 r (nI (mm ρ r + 1))) 50 p 1) 53 r (nI s)) r = s := by
        show ((xu (xu (xu (xu ρ 52 (40 * r + mm ρ r) (nI p)) 51 r (nI (mm ρ r + 1))) 50 p 1) 53 r (nI s)) 53 r).toNatClampNeg = _
        simp (disch := omega) only [forall_eq, true_and, and_true, and_self, not_true_eq_false, not_false_eq_true, false_imp_iff, true_imp_iff, imp_self, implies_true, ne_eq, reduceIte, cl, cl0, cl1, cl2, vpn, vp0, le8, le16, le40, le640, le1400, le6400, lt8, lt16, le15, le2, nI_leI, nI_ltI, nI_eq, nI_1, nI_add, n_le0, n_lt0, n_0le, n_eq0, n_eq1, n_eq2, n_m1, n_m1r, Nat.reduceEqDiff, Nat.reduceAdd, Int32.add_zero, nI_pred, div16, mul15, mul40, mul16, mul640, mulr16, xu_s, xu_c, xu_k, xu_cc, rows_xu, xf_s, xf_c, rows_xf, xul_c, rows_xul, xul_L, lgc]
      rw [e1, e2, if_neg (by omega)]
    · simp (disch := omega) only [forall_eq, true_and, and_true, and_self, not_true_eq_false, not_false_eq_true, false_imp_iff, true_imp_iff, imp_self, implies_true, ne_eq, reduceIte, cl, cl0, cl1, cl2, vpn, vp0, le8, le16, le40, le640, le1400, le6400, lt8, lt16, le15, le2, nI_leI, nI_ltI, nI_eq, nI_1, nI_add, n_le0, n_lt0, n_0le, n_eq0, n_eq1, n_eq2, n_m1, n_m1r, Nat.reduceEqDiff, Nat.reduceAdd, Int32.add_zero, nI_pred, div16, mul15, mul40, mul16, mul640, mulr16, xu_s, xu_c, xu_k, xu_cc, rows_xu, xf_s, xf_c, rows_xf, xul_c, rows_xul, xul_L, lgc]
      refine cnt_rem (k := p) (fun x _ => ?_) p1 p2
      by_cases e : x = p
      · rw [e, upd_s]; exact ⟨fun y => absurd y n10, fun y => absurd rfl y.2⟩
      · rw [upd_n _ _ e]; exact ⟨fun y => ⟨y, e⟩, fun y => y.1⟩
theorem Tk_N {σ ρ σ' ρ' : xS} {r s q : Nat} (h : Tk σ ρ r s σ' ρ' q) (hr : r < 8) : rN ρ' = rN ρ := by
  unfold rN
  rw [(Tk_fr h hr).2 31 (by decide) (by decide) (by decide) (by decide)]
def Ch (r : Nat) (sz : Nat → Nat) (σs ρs : Nat → xS) (qs : Nat → Nat) (N : Nat) : Prop := ∀ k, k < N → Tk (σs k) (ρs k) r (sz k) (σs (k + 1)) (ρs (k + 1)) (qs k)
theorem Ch_ex {σ ρ : xS} {r : Nat} {sz : Nat → Nat} (hT : TR σ ρ) (hr : r < rN ρ) : ∀ N, (∀ k, k < N → 1 ≤ sz k ∧ sz k ≤ 16) → (fmK (clF ρ r) sz N).2 ≤ cnt (fun p => ρ 50 p = 0) 40 →
    ∃ σs ρs qs, σs 0 = σ ∧ ρs 0 = ρ ∧ Ch r sz σs ρs qs N ∧ TR (σs N) (ρs N) ∧ rN (ρs N) = rN ρ ∧ clF (ρs N) r = (fmK (clF ρ r) sz N).1 ∧ cnt (fun p => ρs N 50 p = 0) 40 + (fmK (clF ρ r) sz N).2 = cnt (fun p => ρ 50 p = 0) 40 := by
  intro N
  have hr8 := (TR_at hT hr).1
  induction N with
  | zero => intro _ _; exact ⟨fun _ => σ, fun _ => ρ, fun _ => 0, rfl, rfl, fun k hk => by omega, hT, rfl, rfl, rfl⟩
  | succ N ih =>
    intro hsz hroom
    have hm := fmK_m (f0 := clF ρ r) (sz := sz) N
    obtain ⟨σs, ρs, qs, e1, e2, hC, hTN, hRN, hfN, hcN⟩ := ih (fun k hk => hsz k (by omega)) (by omega)
    have hex := Tk_ex (r := r) hTN (by omega) (hsz N (by omega)) (s := sz N) (by
      by_cases x : clF (ρs N) r + sz N ≤ 16
      · exact Or.inl x
      · right
        rw [hfN] at x
        rw [fmK_n x] at hroom
        dsimp only at hroom
        omega)
    obtain ⟨σ', ρ', q, hk, h1, h2⟩ := hex
    refine ⟨fun k => if k ≤ N then σs k else σ', fun k => if k ≤ N then ρs k else ρ', fun k => if k < N then qs k else q, ?_, ?_, fun k hkN => ?_, ?_, ?_, ?_, ?_⟩
    · dsimp only; rw [if_pos (by omega)]; exact e1
    · dsimp only; rw [if_pos (by omega)]; exact e2
    · dsimp only
      by_cases x : k < N
      · rw [if_pos (show k ≤ N by omega), if_pos (show k ≤ N by omega), if_pos (show k + 1 ≤ N by omega), if_pos (show k + 1 ≤ N by omega), if_pos x]
        exact hC k x
      · have : k = N := by omega
        subst this
        rw [if_pos (Nat.le_refl k), if_pos (Nat.le_refl k), if_neg (by omega), if_neg (by omega), if_neg (by omega)]
        exact hk
    · dsimp only
      rw [if_neg (by omega), if_neg (by omega)]
      exact (Tk_ok hTN (by omega) (hsz N (by omega)) hk).1
    · dsimp only
      rw [if_neg (by omega), Tk_N hk hr8]; exact hRN
    · dsimp only
      rw [if_neg (by omega)]
      by_cases x : clF (ρs N) r + sz N ≤ 16
      · rw [(h1 x).1]
        rw [hfN] at x ⊢
        rw [fmK_y x]
      · rw [(h2 x).1]
        rw [hfN] at x
        rw [fmK_n x]
    · dsimp only
      rw [if_neg (by omega)]
      by_cases x : clF (ρs N) r + sz N ≤ 16
      · rw [(h1 x).2]
        rw [hfN] at x
        rw [fmK_y x]
        exact hcN
      · have := (h2 x).2
        rw [hfN] at x
        rw [fmK_n x]
        dsimp only
        omega
theorem Ch_ok {σ ρ : xS} {r N : Nat} {sz : Nat → Nat} {σs ρs : Nat → xS} {qs : Nat → Nat} (hT : TR σ ρ) (hr : r < rN ρ) (e1 : σs 0 = σ) (e2 : ρs 0 = ρ) (hC : Ch r sz σs ρs qs N) (hsz : ∀ k, k < N → 1 ≤ sz k ∧ sz k ≤ 16) : ∀ k, k ≤ N → TR (σs k) (ρs k) ∧ rN (ρs k) = rN ρ ∧ (∀ g p m, g < rN ρ → p < 640 → itm σ ρ g p m → itm (σs k) (ρs k) g p m ∧ ∀ j, j < k → (p + m < qs j ∨ qs j + (sz j - 1) < p)) ∧ (∀ j, j < k → qs j + sz j ≤ 640 ∧ itm (σs k) (ρs k) r (qs j) (sz j - 1)) ∧ (∀ i j, i < j → j < k → (qs i + (sz i - 1) < qs j ∨ qs j + (sz j - 1) < qs i)) := by
  have hr8 := (TR_at hT hr).1
  intro k
  induction k with
  | zero => intro _; rw [e1, e2]; exact ⟨hT, rfl, fun g p m _ _ h => ⟨h, fun j hj => by omega⟩, fun j hj => by omega, fun i j _ hj => by omega⟩
  | succ k ih =>
    intro hk
    obtain ⟨i1, i2, i3, i4, i5⟩ := ih (by omega)
    have hk' := hC k (by omega)
    have hs := hsz k (by omega)
    obtain ⟨T1, T2, T3, T4⟩ := Tk_ok i1 (by omega) hs hk'
    refine ⟨T1, by rw [Tk_N hk' hr8]; exact i2, fun g p m hg hp h => ?_, fun j hj => ?_, fun i j hij hj => ?_⟩
    · obtain ⟨x1, x2⟩ := i3 g p m hg hp h
      obtain ⟨y1, y2⟩ := T4 g p m (by omega) hp x1
      refine ⟨y1, fun j hj => ?_⟩
      by_cases e : j = k
      · rw [e]; exact y2
      · exact x2 j (by omega)
    · by_cases e : j = k
      · rw [e]; exact ⟨T2, T3⟩
      · obtain ⟨x1, x2⟩ := i4 j (by omega)
        exact ⟨x1, (T4 r (qs j) (sz j - 1) (by omega) (by have := hsz j (by omega); omega) x2).1⟩
    · by_cases e : j = k
      · rw [e]
        obtain ⟨x1, x2⟩ := i4 i (by omega)
        exact (T4 r (qs i) (sz i - 1) (by omega) (by have := hsz i (by omega); omega) x2).2
      · exact i5 i j hij (by omega)
