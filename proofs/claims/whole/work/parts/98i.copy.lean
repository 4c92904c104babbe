def VV (σ : xS) (pt no : Nat → Nat) (c j i : Nat) (v : Int32) : Prop := (oS σ (pt j) i = 2 → (∃ m, m < c ∧ pt m = oV σ (pt j) i ∧ v = nI (no m)) ∨ ((∀ m, m < c → pt m ≠ oV σ (pt j) i) ∧ v = nI (oV σ (pt j) i))) ∧ (¬ oS σ (pt j) i = 2 → v = σ 47 (15 * pt j + i))
def CP (σ τ y : xS) (pt no : Nat → Nat) (c k i : Nat) : Prop := (∀ j l, (j < k ∨ j = k ∧ l < i) → l < oM σ (pt j) → y 46 (15 * no j + l) = oS σ (pt j) l ∧ VV σ pt no c j l (y 47 (15 * no j + l))) ∧ (∀ x l, oB σ x → l < 15 → y 46 (15 * x + l) = σ 46 (15 * x + l) ∧ y 47 (15 * x + l) = σ 47 (15 * x + l)) ∧ (∀ d, d ≠ 46 → d ≠ 47 → y d = τ d)
theorem e_copyF {t : Nat} {σ τ : xS} {r c a b : Nat} {pt qs no : Nat → Nat} (ht : t < 100000) (hI : Inv2 t σ σ) (ha : a < 16) (hb : b < 16) (hB : ∀ k, k < c → oB σ (pt k)) (c6 : c ≤ 640) (hno : ∀ j, j < c → no j < 640 ∧ ¬ oB σ (no j)) (hnd : ∀ i j, i < j → j < c → no i ≠ no j) (hc : τ 31 26 = nI c) (h57 : ∀ k, k < c → τ 57 k = nI (pt k)) (h58 : ∀ o, o < 640 → (∃ k, k < c ∧ pt k = o ∧ τ 58 o = nI k) ∨ (τ 58 o = -1 ∧ ∀ k, k < c → pt k ≠ o)) (h56 : ∀ j, j < c → τ 56 (oN σ + j) = nI (no j)) (h19 : τ 31 19 = nI (oN σ)) (h42 : ∀ x, oB σ x → τ 42 x = σ 42 x) (h46 : ∀ x l, oB σ x → l < 15 → τ 46 (15 * x + l) = σ 46 (15 * x + l) ∧ τ 47 (15 * x + l) = σ 47 (15 * x + l)) (Q : Int32 → xS → Prop)
    (h : ∀ y, CP σ τ y pt no c c 0 → Q (nI c) (xu (xu (xu y 54 a (y 54 b)) 55 a (if c = 0 then y 55 b else nI (no 0))) 31 25 (y 31 25 + nI c))) : ∃ n, p_Mod_copy_L117 Q n (nI a) (nI b) 0 τ := by
  have hG := Inv2_Gd ht hI
  have hn6 := hG.2.2.2.1.2.1
  refine lpS (S := xS) (fun f k y => p_Mod_copy_L117 Q f (nI a) (nI b) (nI k) y) (fun k y => CP σ τ y pt no c k 0) c ?_ ?_ (s := τ) ⟨fun j l h => by omega, h46, fun _ _ _ => rfl⟩
  · intro f k y hk hy hnx
    show b_Mod_copy_L117 (p_Mod_copy_L117 Q f) Q (nI a) (nI b) (nI k) y
    unfold b_Mod_copy_L117
    have l1 : ¬ c ≤ k := by omega
    have y31 : y 31 = τ 31 := hy.2.2 31 (by decide) (by decide)
    have y57 : y 57 = τ 57 := hy.2.2 57 (by decide) (by decide)
    have y56 : y 56 = τ 56 := hy.2.2 56 (by decide) (by decide)
    have B := hB k hk
    have b6 := B.1
    obtain ⟨n6, nB⟩ := hno k hk
    have m16 := (hG.1 _ B).1.2.2.2.1
    simp (disch := omega) only [forall_eq, true_and, and_true, and_self, not_true_eq_false, not_false_eq_true, false_imp_iff, true_imp_iff, imp_self, implies_true, ne_eq, reduceIte, cl, cl0, cl1, cl2, vpn, vp0, le8, le16, le40, le640, le1400, le6400, lt8, lt16, le15, le2, nI_leI, nI_ltI, nI_eq, nI_1, nI_add, n_le0, n_lt0, n_0le, n_eq0, n_eq1, n_eq2, n_m1, n_m1r, Nat.reduceEqDiff, Nat.reduceAdd, Int32.add_zero, nI_pred, div16, mul15, mul40, mul16, mul640, mulr16, xu_s, xu_c, xu_k, xu_cc, rows_xu, xf_s, xf_c, rows_xf, xul_c, rows_xul, xul_L, lgc, y31, hc, l1, y57, h57 k hk, h19, y56, h56 k hk]
    refine lpS (S := xS) (fun f' i z => p_Mod_copy_L152 (p_Mod_copy_L117 Q f) Q f' (nI a) (nI b) (nI k) (nI (pt k)) (nI (no k)) (nI i) z) (fun i z => CP σ τ z pt no c k i) (oM σ (pt k)) ?_ ?_ (s := y) hy
    · intro f' i z hi hz hn'
      show b_Mod_copy_L152 (p_Mod_copy_L117 Q f) (p_Mod_copy_L152 (p_Mod_copy_L117 Q f) Q f') Q (nI a) (nI b) (nI k) (nI (pt k)) (nI (no k)) (nI i) z
      unfold b_Mod_copy_L152
      have l2 : ¬ oM σ (pt k) ≤ i := by omega
      obtain ⟨Z1, Z2, Z3⟩ := id hz
      have z42 : z 42 (pt k) = nI (oM σ (pt k)) := by rw [Z3 42 (by decide) (by decide), h42 _ B]; exact (hG.1 _ B).1.2.2.1
      obtain ⟨s1, s2⟩ := Z2 (pt k) i B (by omega)
      have s1' : z 46 (15 * pt k + i) = oS σ (pt k) i := s1
      have z58 : z 58 = τ 58 := Z3 58 (by decide) (by decide)
      have z31 : z 31 = τ 31 := Z3 31 (by decide) (by decide)
      have z56 : z 56 = τ 56 := Z3 56 (by decide) (by decide)
      have go : ∀ v, VV σ pt no c k i v → p_Mod_copy_L152 (p_Mod_copy_L117 Q f) Q f' (nI a) (nI b) (nI k) (nI (pt k)) (nI (no k)) (nI (i + 1)) (xu (xu z 46 (15 * no k + i) (oS σ (pt k) i)) 47 (15 * no k + i) v) := fun v hv => by
        refine hn' _ ⟨fun j l hj hl => ?_, fun x l hx hl => ?_, fun d d1 d2 => ?_⟩
        · simp (disch := omega) only [forall_eq, true_and, and_true, and_self, not_true_eq_false, not_false_eq_true, false_imp_iff, true_imp_iff, imp_self, implies_true, ne_eq, reduceIte, cl, cl0, cl1, cl2, vpn, vp0, le8, le16, le40, le640, le1400, le6400, lt8, lt16, le15, le2, nI_leI, nI_ltI, nI_eq, nI_1, nI_add, n_le0, n_lt0, n_0le, n_eq0, n_eq1, n_eq2, n_m1, n_m1r, Nat.reduceEqDiff, Nat.reduceAdd, Int32.add_zero, nI_pred, div16, mul15, mul40, mul16, mul640, mulr16, xu_s, xu_c, xu_k, xu_cc, rows_xu, xf_s, xf_c, rows_xf, xul_c, rows_xul, xul_L, lgc]
          by_cases e : j = k ∧ l = i
          · rw [e.1, e.2, upd_s, upd_s]; exact ⟨rfl, hv⟩
          · have hjk : j < c := by omega
            have ml := (hG.1 _ (hB j hjk)).1.2.2.2.1
            have ne : 15 * no j + l ≠ 15 * no k + i := fun x => by
              obtain ⟨x1, x2⟩ := (n15 (by omega) (by omega)).mp x
              by_cases ej : j = k
              · exact e ⟨ej, x2⟩
              · exact hnd j k (by omega) hk x1
            rw [upd_n _ _ ne, upd_n _ _ ne]
            exact Z1 j l (by
              rcases hj with hj | hj
              · exact Or.inl hj
              · right
                refine ⟨hj.1, ?_⟩
                have : l ≠ i := fun x => e ⟨hj.1, x⟩
                omega) hl
        · simp (disch := omega) only [forall_eq, true_and, and_true, and_self, not_true_eq_false, not_false_eq_true, false_imp_iff, true_imp_iff, imp_self, implies_true, ne_eq, reduceIte, cl, cl0, cl1, cl2, vpn, vp0, le8, le16, le40, le640, le1400, le6400, lt8, lt16, le15, le2, nI_leI, nI_ltI, nI_eq, nI_1, nI_add, n_le0, n_lt0, n_0le, n_eq0, n_eq1, n_eq2, n_m1, n_m1r, Nat.reduceEqDiff, Nat.reduceAdd, Int32.add_zero, nI_pred, div16, mul15, mul40, mul16, mul640, mulr16, xu_s, xu_c, xu_k, xu_cc, rows_xu, xf_s, xf_c, rows_xf, xul_c, rows_xul, xul_L, lgc]
          have ne : 15 * x + l ≠ 15 * no k + i := fun e => nB (by rw [← ((n15 (by omega) (by omega)).mp e).1]; exact hx)
          rw [upd_n _ _ ne, upd_n _ _ ne]; exact Z2 x l hx hl
        · simp (disch := omega) only [forall_eq, true_and, and_true, and_self, not_true_eq_false, not_false_eq_true, false_imp_iff, true_imp_iff, imp_self, implies_true, ne_eq, reduceIte, cl, cl0, cl1, cl2, vpn, vp0, le8, le16, le40, le640, le1400, le6400, lt8, lt16, le15, le2, nI_leI, nI_ltI, nI_eq, nI_1, nI_add, n_le0, n_lt0, n_0le, n_eq0, n_eq1, n_eq2, n_m1, n_m1r, Nat.reduceEqDiff, Nat.reduceAdd, Int32.add_zero, nI_pred, div16, mul15, mul40, mul16, mul640, mulr16, xu_s, xu_c, xu_k, xu_cc, rows_xu, xf_s, xf_c, rows_xf, xul_c, rows_xul, xul_L, lgc]; exact Z3 d d1 d2
      by_cases e2 : oS σ (pt k) i = 2
      · obtain ⟨b1, b2, b3⟩ := (hG.2.1 _ i B hi).2 e2
        have v6 := b2.1
        have sv : z 47 (15 * pt k + i) = nI (oV σ (pt k) i) := by rw [s2]; exact b1
        rcases h58 (oV σ (pt k) i) v6 with ⟨m, m1, m2, m3⟩ | ⟨m1, m2⟩
        · have hh := go (nI (no m)) ⟨fun _ => Or.inl ⟨m, m1, m2, rfl⟩, fun x => absurd e2 x⟩
          simp (disch := omega) only [forall_eq, true_and, and_true, and_self, not_true_eq_false, not_false_eq_true, false_imp_iff, true_imp_iff, imp_self, implies_true, ne_eq, reduceIte, cl, cl0, cl1, cl2, vpn, vp0, le8, le16, le40, le640, le1400, le6400, lt8, lt16, le15, le2, nI_leI, nI_ltI, nI_eq, nI_1, nI_add, n_le0, n_lt0, n_0le, n_eq0, n_eq1, n_eq2, n_m1, n_m1r, Nat.reduceEqDiff, Nat.reduceAdd, Int32.add_zero, nI_pred, div16, mul15, mul40, mul16, mul640, mulr16, xu_s, xu_c, xu_k, xu_cc, rows_xu, xf_s, xf_c, rows_xf, xul_c, rows_xul, xul_L, lgc, z42, l2, s1', sv, e2, z58, m3, z31, h19, z56, h56 m m1] at hh ⊢
          exact hh
        · have hh := go (nI (oV σ (pt k) i)) ⟨fun _ => Or.inr ⟨m2, rfl⟩, fun x => absurd e2 x⟩
          simp (disch := omega) only [forall_eq, true_and, and_true, and_self, not_true_eq_false, not_false_eq_true, false_imp_iff, true_imp_iff, imp_self, implies_true, ne_eq, reduceIte, cl, cl0, cl1, cl2, vpn, vp0, le8, le16, le40, le640, le1400, le6400, lt8, lt16, le15, le2, nI_leI, nI_ltI, nI_eq, nI_1, nI_add, n_le0, n_lt0, n_0le, n_eq0, n_eq1, n_eq2, n_m1, n_m1r, Nat.reduceEqDiff, Nat.reduceAdd, Int32.add_zero, nI_pred, div16, mul15, mul40, mul16, mul640, mulr16, xu_s, xu_c, xu_k, xu_cc, rows_xu, xf_s, xf_c, rows_xf, xul_c, rows_xul, xul_L, lgc, z42, l2, s1', sv, e2, z58, m1] at hh ⊢
          exact hh
      · have hh := go (z 47 (15 * pt k + i)) ⟨fun x => absurd x e2, fun _ => s2⟩
        simp (disch := omega) only [forall_eq, true_and, and_true, and_self, not_true_eq_false, not_false_eq_true, false_imp_iff, true_imp_iff, imp_self, implies_true, ne_eq, reduceIte, cl, cl0, cl1, cl2, vpn, vp0, le8, le16, le40, le640, le1400, le6400, lt8, lt16, le15, le2, nI_leI, nI_ltI, nI_eq, nI_1, nI_add, n_le0, n_lt0, n_0le, n_eq0, n_eq1, n_eq2, n_m1, n_m1r, Nat.reduceEqDiff, Nat.reduceAdd, Int32.add_zero, nI_pred, div16, mul15, mul40, mul16, mul640, mulr16, xu_s, xu_c, xu_k, xu_cc, rows_xu, xf_s, xf_c, rows_xf, xul_c, rows_xul, xul_L, lgc, z42, l2, s1', e2] at hh ⊢
        exact hh
    · intro f' z hz
      show b_Mod_copy_L152 (p_Mod_copy_L117 Q f) (p_Mod_copy_L152 (p_Mod_copy_L117 Q f) Q f') Q (nI a) (nI b) (nI k) (nI (pt k)) (nI (no k)) (nI (oM σ (pt k))) z
      unfold b_Mod_copy_L152
      have z42 : z 42 (pt k) = nI (oM σ (pt k)) := by rw [hz.2.2 42 (by decide) (by decide), h42 _ B]; exact (hG.1 _ B).1.2.2.1
      simp (disch := omega) only [forall_eq, true_and, and_true, and_self, not_true_eq_false, not_false_eq_true, false_imp_iff, true_imp_iff, imp_self, implies_true, ne_eq, reduceIte, cl, cl0, cl1, cl2, vpn, vp0, le8, le16, le40, le640, le1400, le6400, lt8, lt16, le15, le2, nI_leI, nI_ltI, nI_eq, nI_1, nI_add, n_le0, n_lt0, n_0le, n_eq0, n_eq1, n_eq2, n_m1, n_m1r, Nat.reduceEqDiff, Nat.reduceAdd, Int32.add_zero, nI_pred, div16, mul15, mul40, mul16, mul640, mulr16, xu_s, xu_c, xu_k, xu_cc, rows_xu, xf_s, xf_c, rows_xf, xul_c, rows_xul, xul_L, lgc, z42, Nat.le_refl]
      refine hnx z ⟨fun j l hj hl => hz.1 j l ?_ hl, hz.2.1, hz.2.2⟩
      rcases hj with hj | hj
      · by_cases e : j = k
        · right; exact ⟨e, by rw [e] at hl; exact hl⟩
        · left; omega
      · omega
  · intro f y hy
    show b_Mod_copy_L117 (p_Mod_copy_L117 Q f) Q (nI a) (nI b) (nI c) y
    unfold b_Mod_copy_L117 p_Mod_copy_J315
    have y31 : y 31 = τ 31 := hy.2.2 31 (by decide) (by decide)
    have y56 : y 56 = τ 56 := hy.2.2 56 (by decide) (by decide)
    have hh := h y hy
    rw [y31] at hh
    rcases Nat.eq_zero_or_pos c with c0 | c0
    · rw [if_pos c0] at hh
      rw [c0] at hc hh
      simp (disch := omega) only [forall_eq, true_and, and_true, and_self, not_true_eq_false, not_false_eq_true, false_imp_iff, true_imp_iff, imp_self, implies_true, ne_eq, reduceIte, cl, cl0, cl1, cl2, vpn, vp0, le8, le16, le40, le640, le1400, le6400, lt8, lt16, le15, le2, nI_leI, nI_ltI, nI_eq, nI_1, nI_add, n_le0, n_lt0, n_0le, n_eq0, n_eq1, n_eq2, n_m1, n_m1r, Nat.reduceEqDiff, Nat.reduceAdd, Int32.add_zero, nI_pred, div16, mul15, mul40, mul16, mul640, mulr16, xu_s, xu_c, xu_k, xu_cc, rows_xu, xf_s, xf_c, rows_xf, xul_c, rows_xul, xul_L, lgc, y31, hc, c0, Nat.le_refl]
      exact hh
    · rw [if_neg (by omega)] at hh
      have cz : ¬ c = 0 := by omega
      have e56 := h56 0 c0
      rw [Nat.add_zero] at e56
      simp (disch := omega) only [forall_eq, true_and, and_true, and_self, not_true_eq_false, not_false_eq_true, false_imp_iff, true_imp_iff, imp_self, implies_true, ne_eq, reduceIte, cl, cl0, cl1, cl2, vpn, vp0, le8, le16, le40, le640, le1400, le6400, lt8, lt16, le15, le2, nI_leI, nI_ltI, nI_eq, nI_1, nI_add, n_le0, n_lt0, n_0le, n_eq0, n_eq1, n_eq2, n_m1, n_m1r, Nat.reduceEqDiff, Nat.reduceAdd, Int32.add_zero, nI_pred, div16, mul15, mul40, mul16, mul640, mulr16, xu_s, xu_c, xu_k, xu_cc, rows_xu, xf_s, xf_c, rows_xf, xul_c, rows_xul, xul_L, lgc, y31, hc, cz, Nat.le_refl, h19, y56, e56]
      exact hh
def dup (f : Nat → Int32) (p q n : Nat) : Nat → Int32 := fun x => if q ≤ x ∧ x < q + n then f (p + (x - q)) else f x
theorem dup_y (f : Nat → Int32) {p q n x : Nat} (h : q ≤ x ∧ x < q + n) : dup f p q n x = f (p + (x - q)) := if_pos h
theorem dup_n (f : Nat → Int32) {p q n x : Nat} (h : ¬ (q ≤ x ∧ x < q + n)) : dup f p q n x = f x := if_neg h
theorem dup_0 (f : Nat → Int32) (p q : Nat) : dup f p q 0 = f := by funext x; exact dup_n f (by omega)
theorem dup_s (f : Nat → Int32) {p q n M : Nat} (hn : n < M) (h : p + M ≤ q ∨ q + M ≤ p) : upd (dup f p q n) (q + n) (dup f p q n (p + n)) = dup f p q (n + 1) := by
  rw [dup_n f (x := p + n) (by omega)]
  funext x
  by_cases e : x = q + n
  · rw [e, upd_s, dup_y _ (by omega)]; congr 1; omega
  · rw [upd_n _ _ e]
    by_cases h1 : q ≤ x ∧ x < q + n
    · rw [dup_y _ h1, dup_y _ (by omega)]
    · rw [dup_n _ h1, dup_n _ (by omega)]
theorem e_dup {σ : xS} {s c : Nat → Int32} {p q m : Nat} (hp : p + m < 640) (hq : q + m < 640) (hpq : p + m < q ∨ q + m < p) (hm : c p &&& 15 = nI m) (Q : xS → Prop) (h : Q (hp2 σ (dup s p q (m + 1)) (dup c p q (m + 1)))) : p_Hea_duplicate (nI p) (nI q) (hp2 σ s c) Q := by
  unfold p_Hea_duplicate p_Hea_sizeOf p_Hea_fieldsOf
  simp (disch := omega) only [forall_eq, true_and, and_true, and_self, not_true_eq_false, not_false_eq_true, false_imp_iff, true_imp_iff, imp_self, implies_true, ne_eq, reduceIte, cl, cl0, cl1, cl2, vpn, vp0, le8, le16, le40, le640, le1400, le6400, lt8, lt16, le15, le2, nI_leI, nI_ltI, nI_eq, nI_1, nI_add, n_le0, n_lt0, n_0le, n_eq0, n_eq1, n_eq2, n_m1, n_m1r, Nat.reduceEqDiff, Nat.reduceAdd, Int32.add_zero, nI_pred, div16, mul15, mul40, mul16, mul640, mulr16, xu_s, xu_c, xu_k, xu_cc, rows_xu, xf_s, xf_c, rows_xf, xul_c, rows_xul, xul_L, lgc, hm]
  have key := lpF (fun f i => p_Hea_duplicate_L9 Q f (nI p) (nI q) (nI (m + 1)) (nI i) (hp2 σ (dup s p q i) (dup c p q i))) (m + 1) (by
    intro f i hi hk
    show b_Hea_duplicate_L9 (p_Hea_duplicate_L9 Q f) Q (nI p) (nI q) (nI (m + 1)) (nI i) _
    unfold b_Hea_duplicate_L9 p_Val_take_19_19 p_Val_assign_19
    have l1 : ¬ m + 1 ≤ i := by omega
    have k1 := dup_s s (p := p) (q := q) (n := i) (M := m + 1) hi (by omega)
    have k2 := dup_s c (p := p) (q := q) (n := i) (M := m + 1) hi (by omega)
    rw [← k1, ← k2] at hk
    simp (disch := omega) only [forall_eq, true_and, and_true, and_self, not_true_eq_false, not_false_eq_true, false_imp_iff, true_imp_iff, imp_self, implies_true, ne_eq, reduceIte, cl, cl0, cl1, cl2, vpn, vp0, le8, le16, le40, le640, le1400, le6400, lt8, lt16, le15, le2, nI_leI, nI_ltI, nI_eq, nI_1, nI_add, n_le0, n_lt0, n_0le, n_eq0, n_eq1, n_eq2, n_m1, n_m1r, Nat.reduceEqDiff, Nat.reduceAdd, Int32.add_zero, nI_pred, div16, mul15, mul40, mul16, mul640, mulr16, xu_s, xu_c, xu_k, xu_cc, rows_xu, xf_s, xf_c, rows_xf, xul_c, rows_xul, xul_L, lgc, l1, hp2_s, xu_xf]
    exact hk) (by
    intro f
    show b_Hea_duplicate_L9 (p_Hea_duplicate_L9 Q f) Q (nI p) (nI q) (nI (m + 1)) (nI (m + 1)) _
    unfold b_Hea_duplicate_L9
    simp (disch := omega) only [forall_eq, true_and, and_true, and_self, not_true_eq_false, not_false_eq_true, false_imp_iff, true_imp_iff, imp_self, implies_true, ne_eq, reduceIte, cl, cl0, cl1, cl2, vpn, vp0, le8, le16, le40, le640, le1400, le6400, lt8, lt16, le15, le2, nI_leI, nI_ltI, nI_eq, nI_1, nI_add, n_le0, n_lt0, n_0le, n_eq0, n_eq1, n_eq2, n_m1, n_m1r, Nat.reduceEqDiff, Nat.reduceAdd, Int32.add_zero, nI_pred, div16, mul15, mul40, mul16, mul640, mulr16, xu_s, xu_c, xu_k, xu_cc, rows_xu, xf_s, xf_c, rows_xf, xul_c, rows_xul, xul_L, lgc, Nat.le_refl]
    exact h)
  rw [dup_0, dup_0] at key
  exact key
noncomputable def fol (s np c : Nat → Int32) (a n : Nat) : Nat → Int32 := fun x => if a ≤ x ∧ x < a + n ∧ s x = 2 then np ((c x).toNatClampNeg) else c x
theorem fol_0 (s np c : Nat → Int32) (a : Nat) : fol s np c a 0 = c := by funext x; exact if_neg (by omega)
theorem fol_y {s np c : Nat → Int32} {a n : Nat} (h : s (a + n) = 2) : upd (fol s np c a n) (a + n) (np ((c (a + n)).toNatClampNeg)) = fol s np c a (n + 1) := by
  funext x
  unfold fol
  by_cases e : x = a + n
  · rw [e, upd_s, if_pos ⟨by omega, by omega, h⟩]
  · rw [upd_n _ _ e]
    by_cases y : a ≤ x ∧ x < a + n ∧ s x = 2
    · rw [if_pos y, if_pos ⟨y.1, by omega, y.2.2⟩]
    · rw [if_neg y, if_neg (fun z => y ⟨z.1, by omega, z.2.2⟩)]
theorem fol_n {s np c : Nat → Int32} {a n : Nat} (h : ¬ s (a + n) = 2) : fol s np c a (n + 1) = fol s np c a n := by
  funext x
  unfold fol
  by_cases y : a ≤ x ∧ x < a + n ∧ s x = 2
  · rw [if_pos y, if_pos ⟨y.1, by omega, y.2.2⟩]
  · rw [if_neg y, if_neg (fun z => y ⟨z.1, by
      have : x ≠ a + n := fun e => h (e ▸ z.2.2)
      omega, z.2.2⟩)]
theorem upd_same {f : Nat → Int32} {k : Nat} {v : Int32} (h : f k = v) : upd f k v = f := by
  funext x
  by_cases e : x = k
  · rw [e, upd_s, h]
  · rw [upd_n _ _ e]
theorem e_folF {σ : xS} {s c : Nat → Int32} {q m : Nat} (hq : q + m < 640) (h16 : m < 16) (hm : c q &&& 15 = nI m) (hv : ∀ i, i < m → s (q + 1 + i) = 2 → ∃ v, v < 640 ∧ c (q + 1 + i) = nI v) (Q : xS → Prop) (h : Q (hp2 σ s (fol s (σ 10) c (q + 1) m))) : p_Par_followFieldsOf (nI q) (hp2 σ s c) Q := by
  unfold p_Par_followFieldsOf p_Hea_fieldsOf
  simp (disch := omega) only [forall_eq, true_and, and_true, and_self, not_true_eq_false, not_false_eq_true, false_imp_iff, true_imp_iff, imp_self, implies_true, ne_eq, reduceIte, cl, cl0, cl1, cl2, vpn, vp0, le8, le16, le40, le640, le1400, le6400, lt8, lt16, le15, le2, nI_leI, nI_ltI, nI_eq, nI_1, nI_add, n_le0, n_lt0, n_0le, n_eq0, n_eq1, n_eq2, n_m1, n_m1r, Nat.reduceEqDiff, Nat.reduceAdd, Int32.add_zero, nI_pred, div16, mul15, mul40, mul16, mul640, mulr16, xu_s, xu_c, xu_k, xu_cc, rows_xu, xf_s, xf_c, rows_xf, xul_c, rows_xul, xul_L, lgc, hm]
  have key := lpF (fun f i => p_Par_followFieldsOf_L14 Q f (nI q) (nI m) (nI i) (hp2 σ s (fol s (σ 10) c (q + 1) i))) m (by
    intro f i hi hk
    show b_Par_followFieldsOf_L14 (p_Par_followFieldsOf_L14 Q f) Q (nI q) (nI m) (nI i) _
    unfold b_Par_followFieldsOf_L14 p_Mem_followMove_1_19 p_Val_isReference_19 p_Val_contentOf_19 p_Val_setReference_19 p_Val_assign_19
    have l1 : ¬ m ≤ i := by omega
    have e0 : fol s (σ 10) c (q + 1) i (q + 1 + i) = c (q + 1 + i) := if_neg (by omega)
    by_cases e2 : s (q + 1 + i) = 2
    · obtain ⟨v, v1, v2⟩ := hv i hi e2
      rw [← fol_y e2, v2, cl (by omega)] at hk
      have es := upd_same e2
      simp (disch := omega) only [forall_eq, true_and, and_true, and_self, not_true_eq_false, not_false_eq_true, false_imp_iff, true_imp_iff, imp_self, implies_true, ne_eq, reduceIte, cl, cl0, cl1, cl2, vpn, vp0, le8, le16, le40, le640, le1400, le6400, lt8, lt16, le15, le2, nI_leI, nI_ltI, nI_eq, nI_1, nI_add, n_le0, n_lt0, n_0le, n_eq0, n_eq1, n_eq2, n_m1, n_m1r, Nat.reduceEqDiff, Nat.reduceAdd, Int32.add_zero, nI_pred, div16, mul15, mul40, mul16, mul640, mulr16, xu_s, xu_c, xu_k, xu_cc, rows_xu, xf_s, xf_c, rows_xf, xul_c, rows_xul, xul_L, lgc, l1, e2, n10, e0, v2, hp2_s, xu_xf, es]
      exact hk
    · rw [fol_n e2] at hk
      simp (disch := omega) only [forall_eq, true_and, and_true, and_self, not_true_eq_false, not_false_eq_true, false_imp_iff, true_imp_iff, imp_self, implies_true, ne_eq, reduceIte, cl, cl0, cl1, cl2, vpn, vp0, le8, le16, le40, le640, le1400, le6400, lt8, lt16, le15, le2, nI_leI, nI_ltI, nI_eq, nI_1, nI_add, n_le0, n_lt0, n_0le, n_eq0, n_eq1, n_eq2, n_m1, n_m1r, Nat.reduceEqDiff, Nat.reduceAdd, Int32.add_zero, nI_pred, div16, mul15, mul40, mul16, mul640, mulr16, xu_s, xu_c, xu_k, xu_cc, rows_xu, xf_s, xf_c, rows_xf, xul_c, rows_xul, xul_L, lgc, l1, e2, n10]
      exact hk) (by
    intro f
    show b_Par_followFieldsOf_L14 (p_Par_followFieldsOf_L14 Q f) Q (nI q) (nI m) (nI m) _
    unfold b_Par_followFieldsOf_L14
    simp (disch := omega) only [forall_eq, true_and, and_true, and_self, not_true_eq_false, not_false_eq_true, false_imp_iff, true_imp_iff, imp_self, implies_true, ne_eq, reduceIte, cl, cl0, cl1, cl2, vpn, vp0, le8, le16, le40, le640, le1400, le6400, lt8, lt16, le15, le2, nI_leI, nI_ltI, nI_eq, nI_1, nI_add, n_le0, n_lt0, n_0le, n_eq0, n_eq1, n_eq2, n_m1, n_m1r, Nat.reduceEqDiff, Nat.reduceAdd, Int32.add_zero, nI_pred, div16, mul15, mul40, mul16, mul640, mulr16, xu_s, xu_c, xu_k, xu_cc, rows_xu, xf_s, xf_c, rows_xf, xul_c, rows_xul, xul_L, lgc, Nat.le_refl]
    exact h)
  rw [fol_0] at key
  exact key
def HC (B : Nat → Prop) (pl mn pt qs : Nat → Nat) (hd : Nat → Int32) (fs fc : Nat → Nat → Int32) (np : Nat → Int32) (k : Nat) (s s' : Nat → Int32) : Prop :=
  (∀ o, B o → s (pl o) = 3 ∧ s' (pl o) = hd o) ∧ (∀ o i, B o → i < mn o → s (pl o + 1 + i) = fs o i ∧ s' (pl o + 1 + i) = fc o i) ∧
  (∀ j, j < k → s (qs j) = 3 ∧ s' (qs j) = hd (pt j)) ∧ (∀ j i, j < k → i < mn (pt j) → s (qs j + 1 + i) = fs (pt j) i ∧ (fs (pt j) i = 2 → s' (qs j + 1 + i) = np ((fc (pt j) i).toNatClampNeg)) ∧ (¬ fs (pt j) i = 2 → s' (qs j + 1 + i) = fc (pt j) i)) ∧
  (∀ p, p < 640 → (∀ o, B o → p < pl o ∨ pl o + mn o < p) → (∀ j, j < k → p < qs j ∨ qs j + mn (pt j) < p) → s p = 4 ∧ s' p = 0)
theorem e_dupAll {τ : xS} {B : Nat → Prop} {pl mn pt qs : Nat → Nat} {hd : Nat → Int32} {fs fc : Nat → Nat → Int32} {c : Nat} (hL : LF B pl mn pt qs c) (hb : ∀ o, B o → pl o + mn o < 640 ∧ mn o < 16 ∧ hd o &&& 15 = nI (mn o)) (hv : ∀ o i, B o → i < mn o → fs o i = 2 → ∃ v, v < 640 ∧ fc o i = nI v) (hc : τ 3 3 = nI c) (c6 : c ≤ 640) (h12 : ∀ k, k < c → τ 12 k = nI (pl (pt k))) (h10 : ∀ k, k < c → τ 10 (pl (pt k)) = nI (qs k)) (hR : HeapR (τ 28) (τ 29) B pl mn hd fs fc) (Q : xS → Prop)
    (h : ∀ s s', HC B pl mn pt qs hd fs fc (τ 10) c s s' → Q (hp2 τ s s')) : ∃ n, p_Par_duplicate_L7 Q n 0 τ := by
  have key := lpS (S := (Nat → Int32) × (Nat → Int32)) (fun f k x => p_Par_duplicate_L7 Q f (nI k) (hp2 τ x.1 x.2)) (fun k x => HC B pl mn pt qs hd fs fc (τ 10) k x.1 x.2) c (by
    rintro f k ⟨s1, c1⟩ hk hs hn
    dsimp only at hs hn ⊢
    show b_Par_duplicate_L7 (p_Par_duplicate_L7 Q f) Q (nI k) _
    unfold b_Par_duplicate_L7 p_Mem_newPlaceOf
    have l1 : ¬ c ≤ k := by omega
    obtain ⟨a1, a2⟩ := hL.1 k hk
    obtain ⟨b1, b2, b3⟩ := hb (pt k) a1
    obtain ⟨S1, S2, S3, S4, S5⟩ := hs
    have dis := hL.2.2.1
    have dq := hL.2.2.2.1
    have dk := dis (pt k) k a1 hk
    simp (disch := omega) only [forall_eq, true_and, and_true, and_self, not_true_eq_false, not_false_eq_true, false_imp_iff, true_imp_iff, imp_self, implies_true, ne_eq, reduceIte, cl, cl0, cl1, cl2, vpn, vp0, le8, le16, le40, le640, le1400, le6400, lt8, lt16, le15, le2, nI_leI, nI_ltI, nI_eq, nI_1, nI_add, n_le0, n_lt0, n_0le, n_eq0, n_eq1, n_eq2, n_m1, n_m1r, Nat.reduceEqDiff, Nat.reduceAdd, Int32.add_zero, nI_pred, div16, mul15, mul40, mul16, mul640, mulr16, xu_s, xu_c, xu_k, xu_cc, rows_xu, xf_s, xf_c, rows_xf, xul_c, rows_xul, xul_L, lgc, hc, l1, h12 k hk, h10 k hk]
    refine e_dup (m := mn (pt k)) b1 a2 dk (by rw [(S1 (pt k) a1).2]; exact b3) _ ?_
    have d0 : dup s1 (pl (pt k)) (qs k) (mn (pt k) + 1) (qs k) = 3 ∧ dup c1 (pl (pt k)) (qs k) (mn (pt k) + 1) (qs k) = hd (pt k) := by
      rw [dup_y _ (by omega), dup_y _ (by omega), show pl (pt k) + (qs k - qs k) = pl (pt k) by omega]
      exact S1 _ a1
    have d1 : ∀ i, i < mn (pt k) → dup s1 (pl (pt k)) (qs k) (mn (pt k) + 1) (qs k + 1 + i) = fs (pt k) i ∧ dup c1 (pl (pt k)) (qs k) (mn (pt k) + 1) (qs k + 1 + i) = fc (pt k) i := fun i hi => by
      rw [dup_y _ (by omega), dup_y _ (by omega), show pl (pt k) + (qs k + 1 + i - qs k) = pl (pt k) + 1 + i by omega]
      exact S2 _ i a1 hi
    refine e_folF (m := mn (pt k)) a2 b2 (by rw [d0.2]; exact b3) (fun i hi e => ?_) _ ?_
    · rw [(d1 i hi).1] at e
      rw [(d1 i hi).2]
      exact hv _ i a1 hi e
    have out : ∀ x, ¬ (qs k ≤ x ∧ x < qs k + (mn (pt k) + 1)) → dup s1 (pl (pt k)) (qs k) (mn (pt k) + 1) x = s1 x ∧ fol (dup s1 (pl (pt k)) (qs k) (mn (pt k) + 1)) (τ 10) (dup c1 (pl (pt k)) (qs k) (mn (pt k) + 1)) (qs k + 1) (mn (pt k)) x = c1 x := fun x hx => by
      refine ⟨dup_n _ hx, ?_⟩
      unfold fol
      rw [if_neg (by omega), dup_n _ hx]
    have e1 : fol (dup s1 (pl (pt k)) (qs k) (mn (pt k) + 1)) (τ 10) (dup c1 (pl (pt k)) (qs k) (mn (pt k) + 1)) (qs k + 1) (mn (pt k)) (qs k) = hd (pt k) := by unfold fol; rw [if_neg (by omega)]; exact d0.2
    have e2' : ∀ i, i < mn (pt k) → (fs (pt k) i = 2 → fol (dup s1 (pl (pt k)) (qs k) (mn (pt k) + 1)) (τ 10) (dup c1 (pl (pt k)) (qs k) (mn (pt k) + 1)) (qs k + 1) (mn (pt k)) (qs k + 1 + i) = τ 10 ((fc (pt k) i).toNatClampNeg)) ∧ (¬ fs (pt k) i = 2 → fol (dup s1 (pl (pt k)) (qs k) (mn (pt k) + 1)) (τ 10) (dup c1 (pl (pt k)) (qs k) (mn (pt k) + 1)) (qs k + 1) (mn (pt k)) (qs k + 1 + i) = fc (pt k) i) := fun i hi => ⟨fun e2 => by
        unfold fol
        rw [if_pos ⟨by omega, by omega, by rw [(d1 i hi).1]; exact e2⟩, (d1 i hi).2], fun e2 => by
        unfold fol
        rw [if_neg (fun z => e2 (by rw [← (d1 i hi).1]; exact z.2.2))]; exact (d1 i hi).2⟩
    have d0' := d0.1
    have d1' := fun i hi => (d1 i hi).1
    refine hn (dup s1 (pl (pt k)) (qs k) (mn (pt k) + 1), fol (dup s1 (pl (pt k)) (qs k) (mn (pt k) + 1)) (τ 10) (dup c1 (pl (pt k)) (qs k) (mn (pt k) + 1)) (qs k + 1) (mn (pt k))) ?_
    dsimp only
    generalize fol (dup s1 (pl (pt k)) (qs k) (mn (pt k) + 1)) (τ 10) (dup c1 (pl (pt k)) (qs k) (mn (pt k) + 1)) (qs k + 1) (mn (pt k)) = v at out e1 e2' ⊢
    generalize dup s1 (pl (pt k)) (qs k) (mn (pt k) + 1) = u at out d0' d1' ⊢
    refine ⟨fun o ho => ?_, fun o i ho hi => ?_, fun j hj => ?_, fun j i hj hi => ?_, fun p hp h1 h2 => ?_⟩
    · have := dis o k ho hk
      rw [(out (pl o) (by omega)).1, (out (pl o) (by omega)).2]; exact S1 o ho
    · have := dis o k ho hk
      rw [(out (pl o + 1 + i) (by omega)).1, (out (pl o + 1 + i) (by omega)).2]; exact S2 o i ho hi
    · by_cases e : j = k
      · rw [e]; exact ⟨d0', e1⟩
      · have := dq j k (by omega) hk
        rw [(out (qs j) (by omega)).1, (out (qs j) (by omega)).2]; exact S3 j (by omega)
    · by_cases e : j = k
      · rw [e] at hi ⊢
        exact ⟨d1' i hi, (e2' i hi).1, (e2' i hi).2⟩
      · have := dq j k (by omega) hk
        rw [(out (qs j + 1 + i) (by omega)).1, (out (qs j + 1 + i) (by omega)).2]; exact S4 j i (by omega) hi
    · have := h2 k (by omega)
      rw [(out p (by omega)).1, (out p (by omega)).2]
      exact S5 p hp h1 (fun j hj => h2 j (by omega))) (by
    rintro f ⟨s1, c1⟩ hs
    show b_Par_duplicate_L7 (p_Par_duplicate_L7 Q f) Q (nI c) _
    unfold b_Par_duplicate_L7
    simp (disch := omega) only [forall_eq, true_and, and_true, and_self, not_true_eq_false, not_false_eq_true, false_imp_iff, true_imp_iff, imp_self, implies_true, ne_eq, reduceIte, cl, cl0, cl1, cl2, vpn, vp0, le8, le16, le40, le640, le1400, le6400, lt8, lt16, le15, le2, nI_leI, nI_ltI, nI_eq, nI_1, nI_add, n_le0, n_lt0, n_0le, n_eq0, n_eq1, n_eq2, n_m1, n_m1r, Nat.reduceEqDiff, Nat.reduceAdd, Int32.add_zero, nI_pred, div16, mul15, mul40, mul16, mul640, mulr16, xu_s, xu_c, xu_k, xu_cc, rows_xu, xf_s, xf_c, rows_xf, xul_c, rows_xul, xul_L, lgc, hc, Nat.le_refl]
    exact h s1 c1 hs) (s := (τ 28, τ 29)) ⟨hR.1, hR.2.1, fun j hj => by omega, fun j i hj => by omega, fun p hp h1 _ => hR.2.2 p hp h1⟩
  dsimp only [hp2] at key
  rw [hp2_0] at key
  exact key
