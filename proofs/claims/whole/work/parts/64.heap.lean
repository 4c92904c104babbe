theorem HeapR_c {s c : Nat → Int32} {A : Nat → Prop} {pl mn : Nat → Nat} {hd : Nat → Int32} {fs fc fs' fc' : Nat → Nat → Int32} (h : HeapR s c A pl mn hd fs fc) (e : ∀ o i, A o → i < mn o → fs' o i = fs o i ∧ fc' o i = fc o i) : HeapR s c A pl mn hd fs' fc' := by
  refine ⟨h.1, fun o i ho hi => ?_, h.2.2⟩
  rw [(e o i ho hi).1, (e o i ho hi).2]
  exact h.2.1 o i ho hi
theorem HeapR_f {s c : Nat → Int32} {A : Nat → Prop} {pl mn : Nat → Nat} {hd : Nat → Int32} {fs fc : Nat → Nat → Int32} (h : HeapR s c A pl mn hd fs fc) (hd' : lDis A pl mn) {u n : Nat} (hu : A u) (hn : n < mn u) (a b : Int32) :
    HeapR (upd s (pl u + 1 + n) a) (upd c (pl u + 1 + n) b) A pl mn hd (fun o i => if o = u ∧ i = n then a else fs o i) (fun o i => if o = u ∧ i = n then b else fc o i) := by
  refine ⟨fun o ho => ?_, fun o i ho hi => ?_, fun p hp hf => ?_⟩
  · have : pl o ≠ pl u + 1 + n := fun e => by
      by_cases eo : o = u
      · rw [eo] at e; omega
      · have := hd' o u ho hu eo; omega
    rw [upd_n _ _ this, upd_n _ _ this]
    exact h.1 o ho
  · by_cases e : o = u ∧ i = n
    · dsimp only
      rw [if_pos e, if_pos e, e.1, e.2, upd_s, upd_s]; exact ⟨rfl, rfl⟩
    · dsimp only
      have : pl o + 1 + i ≠ pl u + 1 + n := fun e' => by
        by_cases eo : o = u
        · rw [eo] at e'; exact e ⟨eo, by omega⟩
        · have := hd' o u ho hu eo; omega
      rw [if_neg e, if_neg e, upd_n _ _ this, upd_n _ _ this]
      exact h.2.1 o i ho hi
  · have : p ≠ pl u + 1 + n := fun e => by have := hf u hu; omega
    rw [upd_n _ _ this, upd_n _ _ this]
    exact h.2.2 p hp hf
theorem n15 {o i u n : Nat} (hi : i < 15) (hn : n < 15) : 15 * o + i = 15 * u + n ↔ o = u ∧ i = n := by omega
theorem Inv_fld (t : Nat) (σ : xS) (u n p : Nat) (hu : iA (σ 40) u) (hn : n < (σ 42 u).toNatClampNeg) (hp : (σ 44 u).toNatClampNeg = p) (s v : Int32) (hv : vOk (σ 40) (σ 43) ((σ 43 u).toNatClampNeg) s v) (h : Inv t σ) : Inv t (xu (xu (xu (xu σ 28 (p + 1 + n) s) 29 (p + 1 + n) (tr (σ 44) s v)) 46 (15 * u + n) s) 47 (15 * u + n) v) := by
  unfold Inv Ref Cls at h ⊢
  obtain ⟨⟨h1, h2, h3, h4, h5, h6, h7, h8, h9⟩, c1, c2, c3, c4, c5, c6, c7⟩ := h
  simp (disch := omega) only [forall_eq, true_and, and_true, and_self, not_true_eq_false, not_false_eq_true, false_imp_iff, true_imp_iff, imp_self, implies_true, ne_eq, reduceIte, cl, cl0, cl1, cl2, vpn, vp0, le8, le16, le40, le640, le1400, le6400, lt8, lt16, le15, le2, nI_leI, nI_ltI, nI_eq, nI_1, nI_add, n_le0, n_lt0, n_0le, n_eq0, n_eq1, n_eq2, n_m1, n_m1r, Nat.reduceEqDiff, Nat.reduceAdd, Int32.add_zero, nI_pred, div16, mul15, mul40, mul16, mul640, mulr16, xu_s, xu_c, xu_k, xu_cc, rows_xu, xf_s, xf_c, rows_xf, xul_c, rows_xul, xul_L, lgc]
  refine ⟨⟨h1, h2, ?_, h4, h5, h6, h7, h8, h9⟩, ?_, c2, c3, c4, c5, c6, c7⟩
  · intro o i ho hi
    have a1 := (h1 o ho).2.2.1.2
    have a2 := (h1 u hu).2.2.1.2
    by_cases e : 15 * o + i = 15 * u + n
    · rw [e, upd_s, upd_s, ((n15 (by omega) (by omega)).mp e).1]; exact hv
    · rw [upd_n _ _ e, upd_n _ _ e]; exact h3 o i ho hi
  · have := HeapR_f c1 h8.2 hu hn s (tr (σ 44) s v)
    rw [← hp]
    refine HeapR_c this (fun o i ho hi => ?_)
    have a1 := (h1 o ho).2.2.1.2
    have a2 := (h1 u hu).2.2.1.2
    by_cases e : 15 * o + i = 15 * u + n
    · have e' := (n15 (by omega) (by omega)).mp e
      rw [e, upd_s, upd_s, if_pos e', if_pos e']; exact ⟨rfl, rfl⟩
    · have e' : ¬ (o = u ∧ i = n) := fun x => e ((n15 (by omega) (by omega)).mpr x)
      rw [upd_n _ _ e, upd_n _ _ e, if_neg e', if_neg e']; exact ⟨rfl, rfl⟩
theorem k_8 (xs : Nat → Int32) (L : Nat) (x4 : Int32) (t : Nat) (σ : xS) (ht : t < 512) (hI : Inv t σ) (hL : lawOk L x4) : o_8 xs L x4 σ (Inv (t + 1)) := by
  have hI' := Inv_nop t σ ht hI
  unfold o_8 p_Law_put p_Rp_put q_Rp_put p_Mod_put p_Mod_thrown p_Mod_put_J18 p_Mod_put_J19 p_Mod_put_J41 p_Mod_put_J42 p_Mod_put_J109 p_Val_contentOf_5 p_Hea_hasField p_Hea_fieldsOf p_Val_take_19_5 p_Val_assign_19 p_Reg_ofPlace p_Mem_refersBeyond_1_5 p_Val_isReference_5 p_Val_contentOf_5 p_Reg_ofPlace
  generalize xs (x4 + 1).toNatClampNeg = x
  generalize xs (x4 + 2).toNatClampNeg = i
  generalize xs (x4 + 3).toNatClampNeg = y
  rcases root_cases x with h | ⟨j, hj, rfl⟩
  · have h : badRoot x := h
    simp (disch := omega) only [forall_eq, true_and, and_true, and_self, not_true_eq_false, not_false_eq_true, false_imp_iff, true_imp_iff, imp_self, implies_true, ne_eq, reduceIte, cl, cl0, cl1, cl2, vpn, vp0, le8, le16, le40, le640, le1400, le6400, lt8, lt16, le15, le2, nI_leI, nI_ltI, nI_eq, nI_1, nI_add, n_le0, n_lt0, n_0le, n_eq0, n_eq1, n_eq2, n_m1, n_m1r, Nat.reduceEqDiff, Nat.reduceAdd, Int32.add_zero, nI_pred, div16, mul15, mul40, mul16, mul640, mulr16, xu_s, xu_c, xu_k, xu_cc, rows_xu, xf_s, xf_c, rows_xf, xul_c, rows_xul, xul_L, lgc, hL.1, hL.2.1, hL.2.2.1, e_isRootN h, e_goes1, e_crN h, e_qrN h, or_false, false_or, or_true, true_or, n10, n01, s_is, s_si, false_and]
    exact Inv_thr _ _ _ hI'
  rcases root_cases y with h | ⟨f, hf, rfl⟩
  · have h : badRoot y := h
    simp (disch := omega) only [forall_eq, true_and, and_true, and_self, not_true_eq_false, not_false_eq_true, false_imp_iff, true_imp_iff, imp_self, implies_true, ne_eq, reduceIte, cl, cl0, cl1, cl2, vpn, vp0, le8, le16, le40, le640, le1400, le6400, lt8, lt16, le15, le2, nI_leI, nI_ltI, nI_eq, nI_1, nI_add, n_le0, n_lt0, n_0le, n_eq0, n_eq1, n_eq2, n_m1, n_m1r, Nat.reduceEqDiff, Nat.reduceAdd, Int32.add_zero, nI_pred, div16, mul15, mul40, mul16, mul640, mulr16, xu_s, xu_c, xu_k, xu_cc, rows_xu, xf_s, xf_c, rows_xf, xul_c, rows_xul, xul_L, lgc, hL.1, hL.2.1, hL.2.2.1, e_isRoot hj, e_cr hj, e_qr hj, e_isRootN h, e_goes1, e_crN h, e_qrN h, or_false, false_or, n10, n01, s_is, s_si, false_and]
    exact Inv_thr _ _ _ hI'
  by_cases h2 : σ 54 j = 2
  · obtain ⟨u, hu, hv, e17, e18⟩ := root_at hI' hj h2
    obtain ⟨k, tg, m, g, p, z1, z2, z3, z4, z5, z6, o1, o2, o3, o4, o5, o6, o7, o8, o9, o10, o11, o12, o13, o14, o15⟩ := obj_at hI' hu
    rw [o5] at e18
    rcases ix_cases i with hi | ⟨n, hn, rfl⟩
    · simp (disch := omega) only [forall_eq, true_and, and_true, and_self, not_true_eq_false, not_false_eq_true, false_imp_iff, true_imp_iff, imp_self, implies_true, ne_eq, reduceIte, cl, cl0, cl1, cl2, vpn, vp0, le8, le16, le40, le640, le1400, le6400, lt8, lt16, le15, le2, nI_leI, nI_ltI, nI_eq, nI_1, nI_add, n_le0, n_lt0, n_0le, n_eq0, n_eq1, n_eq2, n_m1, n_m1r, Nat.reduceEqDiff, Nat.reduceAdd, Int32.add_zero, nI_pred, div16, mul15, mul40, mul16, mul640, mulr16, xu_s, xu_c, xu_k, xu_cc, rows_xu, xf_s, xf_c, rows_xf, xul_c, rows_xul, xul_L, lgc, hL.1, hL.2.1, hL.2.2.1, e_isRoot hj, e_cr hj, e_qr hj, e_isRoot hf, e_cr hf, e_qr hf, p_Mod_refers, p_Mod_refers_J16, h2, e_cfY hj e17, e_qfY hj e17, e_goes, or_false, false_or, n10, n01, false_and, e18, hv, o10, o3, hi]
      exact Inv_thr _ _ _ (Inv_out _ _ _ _ hI')
    by_cases hm : n < m
    · have hm' : ¬ m ≤ n := by omega
      by_cases f2 : σ 54 f = 2
      · obtain ⟨w, hw, hv', e17', e18'⟩ := root_at hI' hf f2
        obtain ⟨k', tg', m', g', p', z1', z2', z3', z4', z5', z6', o1', o2', o3', o4', o5', o6', o7', o8', o9', o10', o11', o12', o13', o14', o15'⟩ := obj_at hI' hw
        rw [o5'] at e18'
        by_cases hg : g' ≤ g
        · simp (disch := omega) only [forall_eq, true_and, and_true, and_self, not_true_eq_false, not_false_eq_true, false_imp_iff, true_imp_iff, imp_self, implies_true, ne_eq, reduceIte, cl, cl0, cl1, cl2, vpn, vp0, le8, le16, le40, le640, le1400, le6400, lt8, lt16, le15, le2, nI_leI, nI_ltI, nI_eq, nI_1, nI_add, n_le0, n_lt0, n_0le, n_eq0, n_eq1, n_eq2, n_m1, n_m1r, Nat.reduceEqDiff, Nat.reduceAdd, Int32.add_zero, nI_pred, div16, mul15, mul40, mul16, mul640, mulr16, xu_s, xu_c, xu_k, xu_cc, rows_xu, xf_s, xf_c, rows_xf, xul_c, rows_xul, xul_L, lgc, hL.1, hL.2.1, hL.2.2.1, e_isRoot hj, e_cr hj, e_qr hj, e_isRoot hf, e_cr hf, e_qr hf, p_Mod_refers, p_Mod_refers_J16, h2, e_cfY hj e17, e_qfY hj e17, e_goes, or_false, false_or, n10, n01, false_and, e18, hv, o10, o3, hm, hm', f2, hv', e17', e18', o11, o11', o4, o4', hg]
          have := Inv_fld (t + 1) (xu (xul σ 30 0 (Int32.toInt64 1)) 31 0 0) u n p hu (by simp (disch := omega) only [forall_eq, true_and, and_true, and_self, not_true_eq_false, not_false_eq_true, false_imp_iff, true_imp_iff, imp_self, implies_true, ne_eq, reduceIte, cl, cl0, cl1, cl2, vpn, vp0, le8, le16, le40, le640, le1400, le6400, lt8, lt16, le15, le2, nI_leI, nI_ltI, nI_eq, nI_1, nI_add, n_le0, n_lt0, n_0le, n_eq0, n_eq1, n_eq2, n_m1, n_m1r, Nat.reduceEqDiff, Nat.reduceAdd, Int32.add_zero, nI_pred, div16, mul15, mul40, mul16, mul640, mulr16, xu_s, xu_c, xu_k, xu_cc, rows_xu, xf_s, xf_c, rows_xf, xul_c, rows_xul, xul_L, lgc, o3]; omega) (by simp (disch := omega) only [forall_eq, true_and, and_true, and_self, not_true_eq_false, not_false_eq_true, false_imp_iff, true_imp_iff, imp_self, implies_true, ne_eq, reduceIte, cl, cl0, cl1, cl2, vpn, vp0, le8, le16, le40, le640, le1400, le6400, lt8, lt16, le15, le2, nI_leI, nI_ltI, nI_eq, nI_1, nI_add, n_le0, n_lt0, n_0le, n_eq0, n_eq1, n_eq2, n_m1, n_m1r, Nat.reduceEqDiff, Nat.reduceAdd, Int32.add_zero, nI_pred, div16, mul15, mul40, mul16, mul640, mulr16, xu_s, xu_c, xu_k, xu_cc, rows_xu, xf_s, xf_c, rows_xf, xul_c, rows_xul, xul_L, lgc, o5]) 2 (nI w) (Or.inr (Or.inr ⟨rfl, w, hw, rfl, by simp (disch := omega) only [forall_eq, true_and, and_true, and_self, not_true_eq_false, not_false_eq_true, false_imp_iff, true_imp_iff, imp_self, implies_true, ne_eq, reduceIte, cl, cl0, cl1, cl2, vpn, vp0, le8, le16, le40, le640, le1400, le6400, lt8, lt16, le15, le2, nI_leI, nI_ltI, nI_eq, nI_1, nI_add, n_le0, n_lt0, n_0le, n_eq0, n_eq1, n_eq2, n_m1, n_m1r, Nat.reduceEqDiff, Nat.reduceAdd, Int32.add_zero, nI_pred, div16, mul15, mul40, mul16, mul640, mulr16, xu_s, xu_c, xu_k, xu_cc, rows_xu, xf_s, xf_c, rows_xf, xul_c, rows_xul, xul_L, lgc, o4, o4']; omega⟩)) (Inv_thr _ _ _ (Inv_out _ _ _ _ hI'))
          unfold Inv Ref Cls at this ⊢
          simp (disch := omega) only [forall_eq, true_and, and_true, and_self, not_true_eq_false, not_false_eq_true, false_imp_iff, true_imp_iff, imp_self, implies_true, ne_eq, reduceIte, cl, cl0, cl1, cl2, vpn, vp0, le8, le16, le40, le640, le1400, le6400, lt8, lt16, le15, le2, nI_leI, nI_ltI, nI_eq, nI_1, nI_add, n_le0, n_lt0, n_0le, n_eq0, n_eq1, n_eq2, n_m1, n_m1r, Nat.reduceEqDiff, Nat.reduceAdd, Int32.add_zero, nI_pred, div16, mul15, mul40, mul16, mul640, mulr16, xu_s, xu_c, xu_k, xu_cc, rows_xu, xf_s, xf_c, rows_xf, xul_c, rows_xul, xul_L, lgc, tr_2, o5'] at this ⊢
          exact this
        · simp (disch := omega) only [forall_eq, true_and, and_true, and_self, not_true_eq_false, not_false_eq_true, false_imp_iff, true_imp_iff, imp_self, implies_true, ne_eq, reduceIte, cl, cl0, cl1, cl2, vpn, vp0, le8, le16, le40, le640, le1400, le6400, lt8, lt16, le15, le2, nI_leI, nI_ltI, nI_eq, nI_1, nI_add, n_le0, n_lt0, n_0le, n_eq0, n_eq1, n_eq2, n_m1, n_m1r, Nat.reduceEqDiff, Nat.reduceAdd, Int32.add_zero, nI_pred, div16, mul15, mul40, mul16, mul640, mulr16, xu_s, xu_c, xu_k, xu_cc, rows_xu, xf_s, xf_c, rows_xf, xul_c, rows_xul, xul_L, lgc, hL.1, hL.2.1, hL.2.2.1, e_isRoot hj, e_cr hj, e_qr hj, e_isRoot hf, e_cr hf, e_qr hf, p_Mod_refers, p_Mod_refers_J16, h2, e_cfY hj e17, e_qfY hj e17, e_goes, or_false, false_or, n10, n01, false_and, e18, hv, o10, o3, hm, hm', f2, hv', e17', e18', o11, o11', o4, o4', hg]
          exact Inv_thr _ _ _ (Inv_out _ _ _ _ hI')
      · obtain ⟨e17', e17b, e18'⟩ := root_no hI' hf f2
        simp (disch := omega) only [forall_eq, true_and, and_true, and_self, not_true_eq_false, not_false_eq_true, false_imp_iff, true_imp_iff, imp_self, implies_true, ne_eq, reduceIte, cl, cl0, cl1, cl2, vpn, vp0, le8, le16, le40, le640, le1400, le6400, lt8, lt16, le15, le2, nI_leI, nI_ltI, nI_eq, nI_1, nI_add, n_le0, n_lt0, n_0le, n_eq0, n_eq1, n_eq2, n_m1, n_m1r, Nat.reduceEqDiff, Nat.reduceAdd, Int32.add_zero, nI_pred, div16, mul15, mul40, mul16, mul640, mulr16, xu_s, xu_c, xu_k, xu_cc, rows_xu, xf_s, xf_c, rows_xf, xul_c, rows_xul, xul_L, lgc, hL.1, hL.2.1, hL.2.2.1, e_isRoot hj, e_cr hj, e_qr hj, e_isRoot hf, e_cr hf, e_qr hf, p_Mod_refers, p_Mod_refers_J16, h2, e_cfY hj e17, e_qfY hj e17, e_goes, or_false, false_or, n10, n01, false_and, e18, hv, o10, o3, hm, hm', f2, e17b, e18', o11, o4]
        have hvv : vOk (σ 40) (σ 43) ((σ 43 u).toNatClampNeg) (σ 54 f) (σ 55 f) := by
          obtain ⟨⟨h1, h2, h3, h4, h5, h6, h7, h8, h9⟩, c1, c2, c3, c4, c5, c6, c7⟩ := hI'
          rcases h4 f hf with h | h | ⟨h, _⟩
          · exact Or.inl h
          · exact Or.inr (Or.inl h)
          · exact absurd h f2
        have := Inv_fld (t + 1) (xu (xul σ 30 0 (Int32.toInt64 1)) 31 0 0) u n p hu (by simp (disch := omega) only [forall_eq, true_and, and_true, and_self, not_true_eq_false, not_false_eq_true, false_imp_iff, true_imp_iff, imp_self, implies_true, ne_eq, reduceIte, cl, cl0, cl1, cl2, vpn, vp0, le8, le16, le40, le640, le1400, le6400, lt8, lt16, le15, le2, nI_leI, nI_ltI, nI_eq, nI_1, nI_add, n_le0, n_lt0, n_0le, n_eq0, n_eq1, n_eq2, n_m1, n_m1r, Nat.reduceEqDiff, Nat.reduceAdd, Int32.add_zero, nI_pred, div16, mul15, mul40, mul16, mul640, mulr16, xu_s, xu_c, xu_k, xu_cc, rows_xu, xf_s, xf_c, rows_xf, xul_c, rows_xul, xul_L, lgc, o3]; omega) (by simp (disch := omega) only [forall_eq, true_and, and_true, and_self, not_true_eq_false, not_false_eq_true, false_imp_iff, true_imp_iff, imp_self, implies_true, ne_eq, reduceIte, cl, cl0, cl1, cl2, vpn, vp0, le8, le16, le40, le640, le1400, le6400, lt8, lt16, le15, le2, nI_leI, nI_ltI, nI_eq, nI_1, nI_add, n_le0, n_lt0, n_0le, n_eq0, n_eq1, n_eq2, n_m1, n_m1r, Nat.reduceEqDiff, Nat.reduceAdd, Int32.add_zero, nI_pred, div16, mul15, mul40, mul16, mul640, mulr16, xu_s, xu_c, xu_k, xu_cc, rows_xu, xf_s, xf_c, rows_xf, xul_c, rows_xul, xul_L, lgc, o5]) (σ 54 f) (σ 55 f) hvv (Inv_thr _ _ _ (Inv_out _ _ _ _ hI'))
        unfold Inv Ref Cls at this ⊢
        simp (disch := omega) only [forall_eq, true_and, and_true, and_self, not_true_eq_false, not_false_eq_true, false_imp_iff, true_imp_iff, imp_self, implies_true, ne_eq, reduceIte, cl, cl0, cl1, cl2, vpn, vp0, le8, le16, le40, le640, le1400, le6400, lt8, lt16, le15, le2, nI_leI, nI_ltI, nI_eq, nI_1, nI_add, n_le0, n_lt0, n_0le, n_eq0, n_eq1, n_eq2, n_m1, n_m1r, Nat.reduceEqDiff, Nat.reduceAdd, Int32.add_zero, nI_pred, div16, mul15, mul40, mul16, mul640, mulr16, xu_s, xu_c, xu_k, xu_cc, rows_xu, xf_s, xf_c, rows_xf, xul_c, rows_xul, xul_L, lgc, tr_n f2] at this ⊢
        exact this
    · have hm' : m ≤ n := by omega
      simp (disch := omega) only [forall_eq, true_and, and_true, and_self, not_true_eq_false, not_false_eq_true, false_imp_iff, true_imp_iff, imp_self, implies_true, ne_eq, reduceIte, cl, cl0, cl1, cl2, vpn, vp0, le8, le16, le40, le640, le1400, le6400, lt8, lt16, le15, le2, nI_leI, nI_ltI, nI_eq, nI_1, nI_add, n_le0, n_lt0, n_0le, n_eq0, n_eq1, n_eq2, n_m1, n_m1r, Nat.reduceEqDiff, Nat.reduceAdd, Int32.add_zero, nI_pred, div16, mul15, mul40, mul16, mul640, mulr16, xu_s, xu_c, xu_k, xu_cc, rows_xu, xf_s, xf_c, rows_xf, xul_c, rows_xul, xul_L, lgc, hL.1, hL.2.1, hL.2.2.1, e_isRoot hj, e_cr hj, e_qr hj, e_isRoot hf, e_cr hf, e_qr hf, p_Mod_refers, p_Mod_refers_J16, h2, e_cfY hj e17, e_qfY hj e17, e_goes, or_false, false_or, n10, n01, false_and, e18, hv, o10, o3, hm, hm']
      exact Inv_thr _ _ _ (Inv_out _ _ _ _ hI')
  · obtain ⟨e17, _, _⟩ := root_no hI' hj h2
    simp (disch := omega) only [forall_eq, true_and, and_true, and_self, not_true_eq_false, not_false_eq_true, false_imp_iff, true_imp_iff, imp_self, implies_true, ne_eq, reduceIte, cl, cl0, cl1, cl2, vpn, vp0, le8, le16, le40, le640, le1400, le6400, lt8, lt16, le15, le2, nI_leI, nI_ltI, nI_eq, nI_1, nI_add, n_le0, n_lt0, n_0le, n_eq0, n_eq1, n_eq2, n_m1, n_m1r, Nat.reduceEqDiff, Nat.reduceAdd, Int32.add_zero, nI_pred, div16, mul15, mul40, mul16, mul640, mulr16, xu_s, xu_c, xu_k, xu_cc, rows_xu, xf_s, xf_c, rows_xf, xul_c, rows_xul, xul_L, lgc, hL.1, hL.2.1, hL.2.2.1, e_isRoot hj, e_cr hj, e_qr hj, e_isRoot hf, e_cr hf, e_qr hf, p_Mod_refers, p_Mod_refers_J16, h2, e_cfN hj e17, e_qfN hj e17, e_goes2, or_false, false_or, n10, n01, n20, s_is, s_si, false_and]
    exact Inv_thr _ _ _ hI'
