theorem Tk_fr {σ ρ σ' ρ' : xS} {r s q : Nat} (h : Tk σ ρ r s σ' ρ' q) (hr : r < 8) : (∀ d, d ≠ 20 → d ≠ 22 → d ≠ 23 → ¬ (32 ≤ d ∧ d < 40) → σ' d = σ d) ∧ (∀ d, d ≠ 50 → d ≠ 51 → d ≠ 52 → d ≠ 53 → ρ' d = ρ d) := by
  rcases h with ⟨_, _, _, rfl, rfl⟩ | ⟨_, p, _, _, _, _, rfl, rfl⟩
  · exact ⟨fun d h1 h2 h3 h4 => xu_c _ _ _ _ h3, fun d h1 h2 h3 h4 => xu_c _ _ _ _ h4⟩
  · exact ⟨fun d h1 h2 h3 h4 => by rw [xu_c _ _ _ _ h3, xu_c _ _ _ _ h2, xu_c _ _ _ _ (by omega), xu_c _ _ _ _ h1], fun d h1 h2 h3 h4 => by rw [xu_c _ _ _ _ h4, xu_c _ _ _ _ h1, xu_c _ _ _ _ h2, xu_c _ _ _ _ h3]⟩
def nwC (σ : xS) (q n : Nat) (h : Int32) : xS := hp2 σ (rng (upd (σ 28) q 3) (q + 1) n 0) (rng (upd (σ 29) q h) (q + 1) n 0)
def nwR (ρ : xS) (o k tg n r q : Nat) : xS := va_up (va_up (xu (xu (xu (xu (xu (xu (xu ρ 40 o (nI k)) 41 o (nI tg)) 42 o (nI n)) 43 o (nI r)) 45 o 0) 44 o (nI q)) 49 q (nI o)) 46 (rng (ρ 46) (15 * o) n 0)) 47 (rng (ρ 47) (15 * o) n 0)
theorem e_found {σ : xS} {q k tg n : Nat} (hq : q + n < 640) (hk : k < 3) (ht : tg < 1000) (hn : n < 16) (Q : xS → Prop) (h : Q (nwC σ q n (hdI (nI k) (nI tg) (nI n)))) : p_Hea_found (nI q) (nI k) (nI tg) (nI n) σ Q := by
  have e1 : (nI k).toNatClampNeg = k := cl (by omega)
  have e2 : (nI tg).toNatClampNeg = tg := cl (by omega)
  have e3 : (nI n).toNatClampNeg = n := cl (by omega)
  have hh := hd_make (k := nI k) (t := nI tg) (m := nI n) (by rw [e1]) (by omega) (by rw [e2]) (by omega) (by rw [e3]) (by omega)
  have hm := hd_many (k := nI k) (t := nI tg) (m := nI n) (by omega) (by omega) (by rw [e3]) (by omega)
  unfold p_Hea_found p_Val_assign_19 p_Hea_clearFields p_Hea_fieldsOf
  simp (disch := omega) only [forall_eq, true_and, and_true, and_self, not_true_eq_false, not_false_eq_true, false_imp_iff, true_imp_iff, imp_self, implies_true, ne_eq, reduceIte, cl, cl0, cl1, cl2, vpn, vp0, le8, le16, le40, le640, le1400, le6400, lt8, lt16, le15, le2, nI_leI, nI_ltI, nI_eq, nI_1, nI_add, n_le0, n_lt0, n_0le, n_eq0, n_eq1, n_eq2, n_m1, n_m1r, Nat.reduceEqDiff, Nat.reduceAdd, Int32.add_zero, nI_pred, div16, mul15, mul40, mul16, mul640, mulr16, xu_s, xu_c, xu_k, xu_cc, rows_xu, xf_s, xf_c, rows_xf, xul_c, rows_xul, xul_L, lgc, hh, hm]
  have key := lpF (fun f i => p_Hea_clearFields_L8 Q f (nI q) (nI n) (nI i) (hp2 σ (rng (upd (σ 28) q 3) (q + 1) i 0) (rng (upd (σ 29) q (hdI (nI k) (nI tg) (nI n))) (q + 1) i 0))) n (by
    intro f i hi hk'
    show b_Hea_clearFields_L8 (p_Hea_clearFields_L8 Q f) Q (nI q) (nI n) (nI i) _
    unfold b_Hea_clearFields_L8 p_Val_setNil_19 p_Val_assign_19
    have l1 : ¬ n ≤ i := by omega
    simp (disch := omega) only [forall_eq, true_and, and_true, and_self, not_true_eq_false, not_false_eq_true, false_imp_iff, true_imp_iff, imp_self, implies_true, ne_eq, reduceIte, cl, cl0, cl1, cl2, vpn, vp0, le8, le16, le40, le640, le1400, le6400, lt8, lt16, le15, le2, nI_leI, nI_ltI, nI_eq, nI_1, nI_add, n_le0, n_lt0, n_0le, n_eq0, n_eq1, n_eq2, n_m1, n_m1r, Nat.reduceEqDiff, Nat.reduceAdd, Int32.add_zero, nI_pred, div16, mul15, mul40, mul16, mul640, mulr16, xu_s, xu_c, xu_k, xu_cc, rows_xu, xf_s, xf_c, rows_xf, xul_c, rows_xul, xul_L, lgc, l1, hp2_s, xu_xf, rng_s]
    exact hk') (by
    intro f
    show b_Hea_clearFields_L8 (p_Hea_clearFields_L8 Q f) Q (nI q) (nI n) (nI n) _
    unfold b_Hea_clearFields_L8
    simp (disch := omega) only [forall_eq, true_and, and_true, and_self, not_true_eq_false, not_false_eq_true, false_imp_iff, true_imp_iff, imp_self, implies_true, ne_eq, reduceIte, cl, cl0, cl1, cl2, vpn, vp0, le8, le16, le40, le640, le1400, le6400, lt8, lt16, le15, le2, nI_leI, nI_ltI, nI_eq, nI_1, nI_add, n_le0, n_lt0, n_0le, n_eq0, n_eq1, n_eq2, n_m1, n_m1r, Nat.reduceEqDiff, Nat.reduceAdd, Int32.add_zero, nI_pred, div16, mul15, mul40, mul16, mul640, mulr16, xu_s, xu_c, xu_k, xu_cc, rows_xu, xf_s, xf_c, rows_xf, xul_c, rows_xul, xul_L, lgc, Nat.le_refl]
    exact h)
  rw [rng_0, rng_0] at key
  have e : hp2 σ (upd (σ 28) q 3) (upd (σ 29) q (hdI (nI k) (nI tg) (nI n))) = xu (xu σ 28 q 3) 29 q (hdI (nI k) (nI tg) (nI n)) := by
    funext d j
    by_cases x : d = 29
    · subst x; rw [xu_cc, xu_c _ _ _ _ (by decide)]; show va_up (va_up σ 28 _) 29 _ 29 j = _; rw [xf_s]
    · rw [xu_c _ _ _ _ x]
      show va_up (va_up σ 28 _) 29 _ d j = _
      rw [xf_c _ _ _ x]
      rfl
  rw [e] at key
  exact key
theorem Inv2_new {t : Nat} {σ ρ σ' ρ' : xS} {r n q o k tg : Nat} (hI : Inv2 t σ ρ) (hr : r < rN ρ) (hk : Tk σ ρ r (n + 1) σ' ρ' q) (hk3 : k < 3) (htg : tg < 1000) (hn : n < 16) (hkn : k = 2 → 0 < n) (ho : o < 640) (hO : ρ 40 o = -1) : Inv2 t (nwC σ' q n (hdI (nI k) (nI tg) (nI n))) (nwR ρ' o k tg n r q) := by
  have hT := Inv2_TR hI
  have hR8 : rN ρ ≤ 8 := hI.1.2.2.2.2.2.1.2.1
  obtain ⟨T1, T2, T3, T4⟩ := Tk_ok hT hr ⟨by omega, by omega⟩ hk
  rw [show n + 1 - 1 = n by omega] at T3 T4
  obtain ⟨F1, F2⟩ := Tk_fr hk (by omega)
  obtain ⟨⟨h1, h2, h3, h4, h5, h6, h7, h8, h9⟩, c1, c2, c3, c4, c5, c6, c7⟩ := id hI
  obtain ⟨h6', h7', c3'⟩ := T1
  have z13 : ρ' 31 = ρ 31 := F2 31 (by decide) (by decide) (by decide) (by decide)
  rw [z13] at h6' h7' c3'
  have er : rowsF (nwC σ' q n (hdI (nI k) (nI tg) (nI n))) = rowsF σ' := by
    unfold nwC hp2
    rw [rows_xf _ _ _ (by omega), rows_xf _ _ _ (by omega)]
  unfold Inv2
  rw [er]
  unfold nwC nwR hp2
  simp (disch := omega) only [forall_eq, true_and, and_true, and_self, not_true_eq_false, not_false_eq_true, false_imp_iff, true_imp_iff, imp_self, implies_true, ne_eq, reduceIte, cl, cl0, cl1, cl2, vpn, vp0, le8, le16, le40, le640, le1400, le6400, lt8, lt16, le15, le2, nI_leI, nI_ltI, nI_eq, nI_1, nI_add, n_le0, n_lt0, n_0le, n_eq0, n_eq1, n_eq2, n_m1, n_m1r, Nat.reduceEqDiff, Nat.reduceAdd, Int32.add_zero, nI_pred, div16, mul15, mul40, mul16, mul640, mulr16, xu_s, xu_c, xu_k, xu_cc, rows_xu, xf_s, xf_c, rows_xf, xul_c, rows_xul, xul_L, lgc]
  rw [F2 40 (by decide) (by decide) (by decide) (by decide), F2 41 (by decide) (by decide) (by decide) (by decide), F2 42 (by decide) (by decide) (by decide) (by decide), F2 43 (by decide) (by decide) (by decide) (by decide), F2 44 (by decide) (by decide) (by decide) (by decide), F2 45 (by decide) (by decide) (by decide) (by decide), F2 46 (by decide) (by decide) (by decide) (by decide), F2 47 (by decide) (by decide) (by decide) (by decide), F2 49 (by decide) (by decide) (by decide) (by decide), F2 54 (by decide) (by decide) (by decide) (by decide), F2 55 (by decide) (by decide) (by decide) (by decide), F2 56 (by decide) (by decide) (by decide) (by decide), z13, F1 28 (by decide) (by decide) (by decide) (by decide), F1 29 (by decide) (by decide) (by decide) (by decide), F1 17 (by decide) (by decide) (by decide) (by decide), F1 18 (by decide) (by decide) (by decide) (by decide), F1 8 (by decide) (by decide) (by decide) (by decide), F1 24 (by decide) (by decide) (by decide) (by decide), F1 9 (by decide) (by decide) (by decide) (by decide), F1 25 (by decide) (by decide) (by decide) (by decide), F1 2 (by decide) (by decide) (by decide) (by decide), F1 0 (by decide) (by decide) (by decide) (by decide), F1 3 (by decide) (by decide) (by decide) (by decide), F1 12 (by decide) (by decide) (by decide) (by decide), F1 13 (by decide) (by decide) (by decide) (by decide)]
  have hA : ∀ x, iA (upd (ρ 40) o (nI k)) x ↔ x = o ∨ iA (ρ 40) x := fun x => by
    unfold iA
    by_cases e : x = o
    · rw [e, upd_s]
      exact ⟨fun _ => Or.inl rfl, fun _ => ⟨ho, fun y => (n_m1 (by omega)).mp y⟩⟩
    · rw [upd_n _ _ e]
      exact ⟨fun y => Or.inr y, fun y => y.elim (fun z => absurd z e) id⟩
  have ne : ∀ x, iA (ρ 40) x → x ≠ o := fun x hx e => hx.2 (by rw [e]; exact hO)
  have dj : ∀ x, iA (ρ 40) x → (itm σ' ρ' ((ρ 43 x).toNatClampNeg) ((ρ 44 x).toNatClampNeg) ((ρ 42 x).toNatClampNeg) ∧ ((ρ 44 x).toNatClampNeg + (ρ 42 x).toNatClampNeg < q ∨ q + n < (ρ 44 x).toNatClampNeg)) := fun x hx => T4 _ _ _ (h1 x hx).2.2.2.2.1.2 (h1 x hx).2.2.2.2.2.1.2 (h8.1 x hx)
  have vk : ∀ g s v, vOk (ρ 40) (ρ 43) g s v → vOk (upd (ρ 40) o (nI k)) (upd (ρ 43) o (nI r)) g s v := fun g s v h => by
    rcases h with h | h | ⟨h, u, x, y, z⟩
    · exact Or.inl h
    · exact Or.inr (Or.inl h)
    · exact Or.inr (Or.inr ⟨h, u, (hA u).mpr (Or.inr x), y, by rw [upd_n _ _ (ne u x)]; exact z⟩)
  have tre : ∀ g s v, vOk (ρ 40) (ρ 43) g s v → tr (upd (ρ 44) o (nI q)) s v = tr (ρ 44) s v := fun g s v h => by
    rcases h with ⟨h, _⟩ | h | ⟨h, u, x, y, z⟩
    · rw [h, tr_n n02, tr_n n02]
    · rw [h, tr_n n12, tr_n n12]
    · rw [h, tr_2, tr_2, y, cl (by have := x.1; omega), upd_n _ _ (ne u x)]
  have rg : ∀ x i, x ≠ o → i < 15 → ¬ (15 * o ≤ 15 * x + i ∧ 15 * x + i < 15 * o + n) := fun x i hx hi => by omega
  have en : (nI n).toNatClampNeg = n := cl (by omega)
  have eq : (nI q).toNatClampNeg = q := cl (by omega)
  refine ⟨⟨fun x hx => ?_, fun p hp => ?_, fun x i hx hi => ?_, fun j hj => vk _ _ _ (h4 j hj), ?_, h6', h7', ⟨fun x hx => ?_, fun x y hx hy hne => ?_⟩, h9⟩, ?_, fun j hj => ?_, c3', ⟨c4.1, fun j hj => ?_⟩, ?_, c6, c7⟩
  · by_cases e : x = o
    · rw [e, upd_s, upd_s, upd_s, upd_s, upd_s, upd_s, en, eq, upd_s, cl (show k < 2147483648 by omega), cl (show tg < 2147483648 by omega), cl (show r < 2147483648 by omega)]
      exact ⟨⟨rfl, hk3⟩, ⟨rfl, htg⟩, ⟨rfl, hn⟩, fun y => hkn ((n_eq2 (by omega)).mp y), ⟨rfl, hr⟩, ⟨rfl, by omega⟩, ⟨rfl, Nat.zero_le _⟩, rfl⟩
    · have hx' := ((hA x).mp hx).elim (fun z => absurd z e) id
      rw [upd_n _ _ e, upd_n _ _ e, upd_n _ _ e, upd_n _ _ e, upd_n _ _ e, upd_n _ _ e]
      obtain ⟨b1, b2, b3, b4, b5, b6, b7, b8⟩ := h1 x hx'
      refine ⟨b1, b2, b3, b4, b5, b6, b7, ?_⟩
      rw [upd_n _ _ (by have := (dj x hx').2; omega)]; exact b8
  · by_cases e : p = q
    · right; exact ⟨o, (hA o).mpr (Or.inl rfl), by rw [e, upd_s], by rw [upd_s, eq, e]⟩
    · rw [upd_n _ _ e]
      refine (h2 p hp).imp id (fun ⟨x, x1, x2, x3⟩ => ⟨x, (hA x).mpr (Or.inr x1), x2, by rw [upd_n _ _ (ne x x1)]; exact x3⟩)
  · by_cases e : x = o
    · rw [e, upd_s, en] at hi
      rw [e, rng_y _ _ (by omega), rng_y _ _ (by omega)]; exact Or.inl ⟨rfl, rfl⟩
    · have hx' := ((hA x).mp hx).elim (fun z => absurd z e) id
      rw [upd_n _ _ e] at hi ⊢
      have := (h1 x hx').2.2.1.2
      rw [rng_n _ _ (rg x i e (by omega)), rng_n _ _ (rg x i e (by omega))]
      exact vk _ _ _ (h3 x i hx' hi)
  · exact ⟨h5.1, h5.2.1, fun j hj => ⟨(hA _).mpr (Or.inr (h5.2.2.1 j hj).1), (h5.2.2.1 j hj).2⟩, h5.2.2.2⟩
  · by_cases e : x = o
    · rw [e, upd_s, upd_s, upd_s, en, eq, cl (show r < 2147483648 by omega)]
      exact T3
    · have hx' := ((hA x).mp hx).elim (fun z => absurd z e) id
      rw [upd_n _ _ e, upd_n _ _ e, upd_n _ _ e]
      exact (dj x hx').1
  · dsimp only
    by_cases e : x = o
    · have e' : y ≠ o := fun z => hne (by rw [e, z])
      have hy' := ((hA y).mp hy).elim (fun z => absurd z e') id
      rw [e, upd_s, upd_s, upd_n _ _ e', upd_n _ _ e', en, eq]
      exact (dj y hy').2.symm
    · have hx' := ((hA x).mp hx).elim (fun z => absurd z e) id
      rw [upd_n _ _ e, upd_n _ _ e]
      by_cases e' : y = o
      · rw [e', upd_s, upd_s, en, eq]; exact (dj x hx').2
      · have hy' := ((hA y).mp hy).elim (fun z => absurd z e') id
        rw [upd_n _ _ e', upd_n _ _ e']
        exact h8.2 x y hx' hy' hne
  · refine ⟨fun x hx => ?_, fun x i hx hi => ?_, fun p hp hf => ?_⟩
    · dsimp only
      by_cases e : x = o
      · rw [e, upd_s, upd_s, upd_s, upd_s, eq, rng_n _ _ (by omega), rng_n _ _ (by omega), upd_s, upd_s]; exact ⟨rfl, rfl⟩
      · have hx' := ((hA x).mp hx).elim (fun z => absurd z e) id
        have := (dj x hx').2
        rw [upd_n _ _ e, upd_n _ _ e, upd_n _ _ e, upd_n _ _ e, rng_n _ _ (by omega), rng_n _ _ (by omega), upd_n _ _ (by omega), upd_n _ _ (by omega)]
        exact c1.1 x hx'
    · dsimp only at hi ⊢
      by_cases e : x = o
      · rw [e, upd_s, en] at hi
        rw [e, upd_s, eq, rng_y _ _ (by omega), rng_y _ _ (by omega), rng_y _ _ (by omega), rng_y _ _ (by omega), tr_n n02]; exact ⟨rfl, rfl⟩
      · have hx' := ((hA x).mp hx).elim (fun z => absurd z e) id
        have := (dj x hx').2
        rw [upd_n _ _ e] at hi ⊢
        have m16 := (h1 x hx').2.2.1.2
        have u1 : rng (upd (σ 28) q 3) (q + 1) n 0 ((ρ 44 x).toNatClampNeg + 1 + i) = σ 28 ((ρ 44 x).toNatClampNeg + 1 + i) := by rw [rng_n _ _ (by omega), upd_n _ _ (by omega)]
        have u2 : rng (upd (σ 29) q (hdI (nI k) (nI tg) (nI n))) (q + 1) n 0 ((ρ 44 x).toNatClampNeg + 1 + i) = σ 29 ((ρ 44 x).toNatClampNeg + 1 + i) := by rw [rng_n _ _ (by omega), upd_n _ _ (by omega)]
        rw [u1, u2, rng_n _ _ (rg x i e (by omega)), rng_n _ _ (rg x i e (by omega)), tre _ _ _ (h3 x i hx' hi)]
        exact c1.2.1 x i hx' hi
    · have h0 := hf o ((hA o).mpr (Or.inl rfl))
      dsimp only at h0
      rw [upd_s, upd_s, en, eq] at h0
      rw [rng_n _ _ (by omega), rng_n _ _ (by omega), upd_n _ _ (by omega), upd_n _ _ (by omega)]
      refine c1.2.2 p hp (fun x hx => ?_)
      have h1' := hf x ((hA x).mpr (Or.inr hx))
      dsimp only at h1'
      rw [upd_n _ _ (ne x hx), upd_n _ _ (ne x hx)] at h1'
      exact h1'
  · rw [tre _ _ _ (h4 j hj)]; exact c2 j hj
  · rw [upd_n _ _ (ne _ (h5.2.2.1 j hj).1)]; exact c4.2 j hj
  · obtain ⟨w1, w2, w, w3, w4, w5⟩ := c5
    refine ⟨w1, w2, w, fun j hj => ?_, fun i j hij hj => ?_, fun x hx h0 => ?_⟩
    · obtain ⟨y1, y2, y3⟩ := w3 j hj
      rw [upd_n _ _ (ne _ y1), upd_n _ _ (ne _ y1)]
      exact ⟨(hA _).mpr (Or.inr y1), y2, y3⟩
    · rw [upd_n _ _ (ne _ (w3 i (by omega)).1), upd_n _ _ (ne _ (w3 j hj).1)]; exact w4 i j hij hj
    · by_cases e : x = o
      · rw [e, upd_s] at h0; exact absurd h0 (by decide)
      · have hx' := ((hA x).mp hx).elim (fun z => absurd z e) id
        rw [upd_n _ _ e] at h0
        exact w5 x hx' h0
theorem Inv2_root {t : Nat} {σ ρ : xS} (j : Nat) (hj : j < 16) (s v : Int32) (hv : vOk (ρ 40) (ρ 43) 8 s v) (h : Inv2 t σ ρ) : Inv2 t (xu (xu σ 17 j s) 18 j (tr (ρ 44) s v)) (xu (xu ρ 54 j s) 55 j v) := by
  unfold Inv2 at h ⊢
  obtain ⟨⟨h1, h2, h3, h4, h5, h6, h7, h8, h9⟩, c1, c2, c3, c4, c5, c6, c7⟩ := h
  simp (disch := omega) only [forall_eq, true_and, and_true, and_self, not_true_eq_false, not_false_eq_true, false_imp_iff, true_imp_iff, imp_self, implies_true, ne_eq, reduceIte, cl, cl0, cl1, cl2, vpn, vp0, le8, le16, le40, le640, le1400, le6400, lt8, lt16, le15, le2, nI_leI, nI_ltI, nI_eq, nI_1, nI_add, n_le0, n_lt0, n_0le, n_eq0, n_eq1, n_eq2, n_m1, n_m1r, Nat.reduceEqDiff, Nat.reduceAdd, Int32.add_zero, nI_pred, div16, mul15, mul40, mul16, mul640, mulr16, xu_s, xu_c, xu_k, xu_cc, rows_xu, xf_s, xf_c, rows_xf, xul_c, rows_xul, xul_L, lgc]
  refine ⟨⟨h1, h2, h3, ?_, h5, h6, h7, h8, h9⟩, c1, ?_, c3, c4, c5, c6, c7⟩
  · intro k hk
    by_cases e : k = j
    · rw [e, upd_s, upd_s]; exact hv
    · rw [upd_n _ _ e, upd_n _ _ e]; exact h4 k hk
  · intro k hk
    by_cases e : k = j
    · rw [e, upd_s, upd_s, upd_s, upd_s]; exact ⟨rfl, rfl⟩
    · rw [upd_n _ _ e, upd_n _ _ e, upd_n _ _ e, upd_n _ _ e]; exact c2 k hk
