def lvo (K : Nat → Int32) (LL : Nat → Prop) (l : Nat → Int32) : Prop := ∀ o, o < 640 → (l o = 0 ∧ ¬ LL o) ∨ (l o = 1 ∧ iA K o ∧ LL o)
theorem e_find2 {σ : xS} {mn kd : Nat → Nat} {fs : Nat → Nat → Int32} {fv : Nat → Nat → Nat} {Sd : Nat → Prop} (hF : FdR (σ 40) (σ 42) (σ 46) (σ 47) mn kd fs fv) (Q : xS → Prop) {l : Nat → Int32} (hl : sb (σ 40) l (Lv (iA (σ 40)) Sd kd mn fs fv)) (hs : ∀ q, Sd q → l q = 1)
    (h : ∀ l', lvo (σ 40) (Lv (iA (σ 40)) Sd kd mn fs fv) l' → Q (va_up σ 48 l')) : ∃ n, p_Mod_findLive_L112 Q n 1 (va_up σ 48 l) := by
  refine lpM (S := Int32 × (Nat → Int32)) (fun n s => p_Mod_findLive_L112 Q n s.1 (va_up σ 48 s.2)) (fun s => sb (σ 40) s.2 (Lv (iA (σ 40)) Sd kd mn fs fv) ∧ (∀ q, Sd q → s.2 q = 1) ∧ (s.1 = 1 ∨ s.1 = 0 ∧ ∀ o, iA (σ 40) o → cls1 kd mn fs fv s.2 o (mn o))) (fun s => cnt (fun p => s.2 p = 0) 640 + (if s.1 = 0 then 0 else 1)) ?_ (s := (1, l)) ⟨hl, hs, Or.inl rfl⟩
  rintro n ⟨x, l1⟩ ⟨i1, i2, i3⟩ hk
  dsimp only at i1 i2 i3 hk ⊢
  show b_Mod_findLive_L112 (p_Mod_findLive_L112 Q n) Q x _
  unfold b_Mod_findLive_L112
  rcases i3 with e | ⟨e, hc⟩
  · subst e
    simp (disch := omega) only [forall_eq, true_and, and_true, and_self, not_true_eq_false, not_false_eq_true, false_imp_iff, true_imp_iff, imp_self, implies_true, ne_eq, reduceIte, cl, cl0, cl1, cl2, vpn, vp0, le8, le16, le40, le640, le1400, le6400, lt8, lt16, le15, le2, nI_leI, nI_ltI, nI_eq, nI_1, nI_add, n_le0, n_lt0, n_0le, n_eq0, n_eq1, n_eq2, n_m1, n_m1r, Nat.reduceEqDiff, Nat.reduceAdd, Int32.add_zero, nI_pred, div16, mul15, mul40, mul16, mul640, mulr16, xu_s, xu_c, xu_k, xu_cc, rows_xu, xf_s, xf_c, rows_xf, xul_c, rows_xul, xul_L, lgc, n10]
    rw [if_neg n10] at hk
    refine lpS (S := Int32 × (Nat → Int32)) (fun g i s => p_Mod_findLive_L120 (p_Mod_findLive_L112 Q n) Q g s.1 (nI i) (va_up σ 48 s.2)) (fun i s => sb (σ 40) s.2 (Lv (iA (σ 40)) Sd kd mn fs fv) ∧ (∀ q, l1 q = 1 → s.2 q = 1) ∧ ((s.1 = 0 ∧ s.2 = l1 ∧ ∀ o, o < i → iA (σ 40) o → cls1 kd mn fs fv l1 o (mn o)) ∨ (s.1 = 1 ∧ cnt (fun p => s.2 p = 0) 640 + 1 ≤ cnt (fun p => l1 p = 0) 640))) 640 ?_ ?_ (s := (0, l1)) ⟨i1, fun _ h => h, Or.inl ⟨rfl, rfl, fun o ho => by omega⟩⟩
    · rintro g o ⟨y, l2⟩ ho ⟨j1, j2, j3⟩ hk2
      dsimp only at j1 j2 j3 hk2 ⊢
      show b_Mod_findLive_L120 (p_Mod_findLive_L112 Q n) (p_Mod_findLive_L120 (p_Mod_findLive_L112 Q n) Q g) Q y (nI o) _
      unfold b_Mod_findLive_L120
      have l1' : ¬ 640 ≤ o := by omega
      simp (disch := omega) only [forall_eq, true_and, and_true, and_self, not_true_eq_false, not_false_eq_true, false_imp_iff, true_imp_iff, imp_self, implies_true, ne_eq, reduceIte, cl, cl0, cl1, cl2, vpn, vp0, le8, le16, le40, le640, le1400, le6400, lt8, lt16, le15, le2, nI_leI, nI_ltI, nI_eq, nI_1, nI_add, n_le0, n_lt0, n_0le, n_eq0, n_eq1, n_eq2, n_m1, n_m1r, Nat.reduceEqDiff, Nat.reduceAdd, Int32.add_zero, nI_pred, div16, mul15, mul40, mul16, mul640, mulr16, xu_s, xu_c, xu_k, xu_cc, rows_xu, xf_s, xf_c, rows_xf, xul_c, rows_xul, xul_L, lgc, l1']
      refine e_find1 hF _ _ _ ho j1 y (fun l' z k1 k2 k3 => ?_)
      refine hk2 (z, l') ⟨k1, fun q hq => k2 q (j2 q hq), ?_⟩
      dsimp only
      rcases j3 with ⟨a, b, c⟩ | ⟨a, b⟩
      · rcases k3 with ⟨d, e, f⟩ | ⟨d, e⟩
        · left
          refine ⟨by rw [d, a], by rw [e, b], fun q hq hA => ?_⟩
          by_cases eq : q = o
          · rw [eq] at hA ⊢; rw [← b]; exact f hA
          · exact c q (by omega) hA
        · right; rw [b] at e; exact ⟨d, e⟩
      · rcases k3 with ⟨d, e, f⟩ | ⟨d, e⟩
        · right; rw [e]; exact ⟨by rw [d, a], b⟩
        · right; exact ⟨d, by omega⟩
    · rintro g ⟨y, l2⟩ ⟨j1, j2, j3⟩
      dsimp only at j1 j2 j3 ⊢
      show b_Mod_findLive_L120 (p_Mod_findLive_L112 Q n) (p_Mod_findLive_L120 (p_Mod_findLive_L112 Q n) Q g) Q y (nI 640) _
      unfold b_Mod_findLive_L120
      simp (disch := omega) only [forall_eq, true_and, and_true, and_self, not_true_eq_false, not_false_eq_true, false_imp_iff, true_imp_iff, imp_self, implies_true, ne_eq, reduceIte, cl, cl0, cl1, cl2, vpn, vp0, le8, le16, le40, le640, le1400, le6400, lt8, lt16, le15, le2, nI_leI, nI_ltI, nI_eq, nI_1, nI_add, n_le0, n_lt0, n_0le, n_eq0, n_eq1, n_eq2, n_m1, n_m1r, Nat.reduceEqDiff, Nat.reduceAdd, Int32.add_zero, nI_pred, div16, mul15, mul40, mul16, mul640, mulr16, xu_s, xu_c, xu_k, xu_cc, rows_xu, xf_s, xf_c, rows_xf, xul_c, rows_xul, xul_L, lgc, Nat.le_refl]
      refine hk (y, l2) ⟨j1, fun q hq => j2 q (i2 q hq), ?_⟩ ?_
      · dsimp only
        rcases j3 with ⟨a, b, c⟩ | ⟨a, b⟩
        · right; exact ⟨a, fun o hA => by rw [b]; exact c o hA.1 hA⟩
        · left; exact a
      · dsimp only
        rcases j3 with ⟨a, b, c⟩ | ⟨a, b⟩
        · rw [a, b, if_pos rfl]; omega
        · rw [a, if_neg n10]; omega
  · subst e
    simp (disch := omega) only [forall_eq, true_and, and_true, and_self, not_true_eq_false, not_false_eq_true, false_imp_iff, true_imp_iff, imp_self, implies_true, ne_eq, reduceIte, cl, cl0, cl1, cl2, vpn, vp0, le8, le16, le40, le640, le1400, le6400, lt8, lt16, le15, le2, nI_leI, nI_ltI, nI_eq, nI_1, nI_add, n_le0, n_lt0, n_0le, n_eq0, n_eq1, n_eq2, n_m1, n_m1r, Nat.reduceEqDiff, Nat.reduceAdd, Int32.add_zero, nI_pred, div16, mul15, mul40, mul16, mul640, mulr16, xu_s, xu_c, xu_k, xu_cc, rows_xu, xf_s, xf_c, rows_xf, xul_c, rows_xul, xul_L, lgc, n01]
    refine h l1 (fun o ho => ?_)
    rcases i1 o ho with e | e
    · left
      refine ⟨e, fun hL => ?_⟩
      have := hL (fun q => l1 q = 1) i2 (fun q i hq hx hi h2 hh => hc q hq hx i hi h2 hh)
      rw [e] at this
      exact absurd this n01
    · exact Or.inr e
theorem e_findLive {σ : xS} {mn kd g : Nat → Nat} {fs : Nat → Nat → Int32} {fv : Nat → Nat → Nat} {Sd : Nat → Prop} {rt qu : Nat → Nat} {r m : Nat} (hr : r < 8) (hF : FdR (σ 40) (σ 42) (σ 46) (σ 47) mn kd fs fv) (hg : ∀ o, iA (σ 40) o → σ 43 o = nI (g o) ∧ g o < 8)
    (hrt : ∀ k, k < 16 → σ 54 k = 2 → σ 55 k = nI (rt k) ∧ iA (σ 40) (rt k)) (hm : σ 31 19 = nI m) (h6 : m ≤ 1400) (hqu : ∀ k, k < m → σ 56 k = nI (qu k) ∧ iA (σ 40) (qu k))
    (hSd : ∀ q, Sd q ↔ (iA (σ 40) q ∧ g q < r) ∨ (∃ k, k < 16 ∧ σ 54 k = 2 ∧ rt k = q) ∨ (∃ k, k < m ∧ qu k = q)) (Q : xS → Prop)
    (h : ∀ l', lvo (σ 40) (Lv (iA (σ 40)) Sd kd mn fs fv) l' → Q (va_up σ 48 l')) : p_Mod_findLive (nI r) σ Q := by
  have hq2 : ∀ l, sb (σ 40) l (Lv (iA (σ 40)) Sd kd mn fs fv) → (∀ q, iA (σ 40) q → g q < r → l q = 1) → (∀ k, k < 16 → σ 54 k = 2 → l (rt k) = 1) → ∃ n, p_Mod_findLive_L84 Q n 0 (va_up σ 48 l) := fun l hl ho hr' => by
    refine lpS (S := Nat → Int32) (fun f i s => p_Mod_findLive_L84 Q f (nI i) (va_up σ 48 s)) (fun i s => sb (σ 40) s (Lv (iA (σ 40)) Sd kd mn fs fv) ∧ (∀ q, l q = 1 → s q = 1) ∧ ∀ k, k < i → s (qu k) = 1) m ?_ ?_ (s := l) ⟨hl, fun _ h => h, fun k hk => by omega⟩
    · intro f i s hi ⟨j1, j2, j3⟩ hk
      show b_Mod_findLive_L84 (p_Mod_findLive_L84 Q f) Q (nI i) _
      unfold b_Mod_findLive_L84
      have l1' : ¬ m ≤ i := by omega
      obtain ⟨q1, q2⟩ := hqu i hi
      have q6 := q2.1
      simp (disch := omega) only [forall_eq, true_and, and_true, and_self, not_true_eq_false, not_false_eq_true, false_imp_iff, true_imp_iff, imp_self, implies_true, ne_eq, reduceIte, cl, cl0, cl1, cl2, vpn, vp0, le8, le16, le40, le640, le1400, le6400, lt8, lt16, le15, le2, nI_leI, nI_ltI, nI_eq, nI_1, nI_add, n_le0, n_lt0, n_0le, n_eq0, n_eq1, n_eq2, n_m1, n_m1r, Nat.reduceEqDiff, Nat.reduceAdd, Int32.add_zero, nI_pred, div16, mul15, mul40, mul16, mul640, mulr16, xu_s, xu_c, xu_k, xu_cc, rows_xu, xf_s, xf_c, rows_xf, xul_c, rows_xul, xul_L, lgc, hm, l1', q1, nar1, xu_xf]
      refine hk _ ⟨fun o ho => ?_, fun q hq => ?_, fun k hk => ?_⟩
      · by_cases e : o = qu i
        · right; rw [e, upd_s]; exact ⟨rfl, q2, Lv_sd ((hSd _).mpr (Or.inr (Or.inr ⟨i, hi, rfl⟩)))⟩
        · rw [upd_n _ _ e]; exact j1 o ho
      · by_cases e : q = qu i
        · rw [e, upd_s]
        · rw [upd_n _ _ e]; exact j2 q hq
      · by_cases e : qu k = qu i
        · rw [e, upd_s]
        · rw [upd_n _ _ e]
          exact j3 k (by have : k ≠ i := fun x => e (by rw [x]); omega)
    · intro f s ⟨j1, j2, j3⟩
      show b_Mod_findLive_L84 (p_Mod_findLive_L84 Q f) Q (nI m) _
      unfold b_Mod_findLive_L84
      simp (disch := omega) only [forall_eq, true_and, and_true, and_self, not_true_eq_false, not_false_eq_true, false_imp_iff, true_imp_iff, imp_self, implies_true, ne_eq, reduceIte, cl, cl0, cl1, cl2, vpn, vp0, le8, le16, le40, le640, le1400, le6400, lt8, lt16, le15, le2, nI_leI, nI_ltI, nI_eq, nI_1, nI_add, n_le0, n_lt0, n_0le, n_eq0, n_eq1, n_eq2, n_m1, n_m1r, Nat.reduceEqDiff, Nat.reduceAdd, Int32.add_zero, nI_pred, div16, mul15, mul40, mul16, mul640, mulr16, xu_s, xu_c, xu_k, xu_cc, rows_xu, xf_s, xf_c, rows_xf, xul_c, rows_xul, xul_L, lgc, hm, Nat.le_refl]
      refine e_find2 hF Q j1 (fun q hq => ?_) h
      rcases (hSd q).mp hq with ⟨a, b⟩ | ⟨k, a, b, c⟩ | ⟨k, a, b⟩
      · exact j2 q (ho q a b)
      · rw [← c]; exact j2 _ (hr' k a b)
      · rw [← b]; exact j3 k a
  have hq1 : ∀ l, sb (σ 40) l (Lv (iA (σ 40)) Sd kd mn fs fv) → (∀ q, iA (σ 40) q → g q < r → l q = 1) → ∃ n, p_Mod_findLive_L48 Q n 0 (va_up σ 48 l) := fun l hl ho => by
    refine lpS (S := Nat → Int32) (fun f i s => p_Mod_findLive_L48 Q f (nI i) (va_up σ 48 s)) (fun i s => sb (σ 40) s (Lv (iA (σ 40)) Sd kd mn fs fv) ∧ (∀ q, l q = 1 → s q = 1) ∧ ∀ k, k < i → σ 54 k = 2 → s (rt k) = 1) 16 ?_ ?_ (s := l) ⟨hl, fun _ h => h, fun k hk => by omega⟩
    · intro f i s hi ⟨j1, j2, j3⟩ hk
      show b_Mod_findLive_L48 (p_Mod_findLive_L48 Q f) Q (nI i) _
      unfold b_Mod_findLive_L48
      have l1' : ¬ 16 ≤ i := by omega
      by_cases e2 : σ 54 i = 2
      · obtain ⟨q1, q2⟩ := hrt i hi e2
        have q6 := q2.1
        simp (disch := omega) only [forall_eq, true_and, and_true, and_self, not_true_eq_false, not_false_eq_true, false_imp_iff, true_imp_iff, imp_self, implies_true, ne_eq, reduceIte, cl, cl0, cl1, cl2, vpn, vp0, le8, le16, le40, le640, le1400, le6400, lt8, lt16, le15, le2, nI_leI, nI_ltI, nI_eq, nI_1, nI_add, n_le0, n_lt0, n_0le, n_eq0, n_eq1, n_eq2, n_m1, n_m1r, Nat.reduceEqDiff, Nat.reduceAdd, Int32.add_zero, nI_pred, div16, mul15, mul40, mul16, mul640, mulr16, xu_s, xu_c, xu_k, xu_cc, rows_xu, xf_s, xf_c, rows_xf, xul_c, rows_xul, xul_L, lgc, l1', e2, q1, nar1, xu_xf]
        refine hk _ ⟨fun o ho => ?_, fun q hq => ?_, fun k hk hk2 => ?_⟩
        · by_cases e : o = rt i
          · right; rw [e, upd_s]; exact ⟨rfl, q2, Lv_sd ((hSd _).mpr (Or.inr (Or.inl ⟨i, hi, e2, rfl⟩)))⟩
          · rw [upd_n _ _ e]; exact j1 o ho
        · by_cases e : q = rt i
          · rw [e, upd_s]
          · rw [upd_n _ _ e]; exact j2 q hq
        · by_cases e : rt k = rt i
          · rw [e, upd_s]
          · rw [upd_n _ _ e]
            exact j3 k (by have : k ≠ i := fun x => e (by rw [x]); omega) hk2
      · simp (disch := omega) only [forall_eq, true_and, and_true, and_self, not_true_eq_false, not_false_eq_true, false_imp_iff, true_imp_iff, imp_self, implies_true, ne_eq, reduceIte, cl, cl0, cl1, cl2, vpn, vp0, le8, le16, le40, le640, le1400, le6400, lt8, lt16, le15, le2, nI_leI, nI_ltI, nI_eq, nI_1, nI_add, n_le0, n_lt0, n_0le, n_eq0, n_eq1, n_eq2, n_m1, n_m1r, Nat.reduceEqDiff, Nat.reduceAdd, Int32.add_zero, nI_pred, div16, mul15, mul40, mul16, mul640, mulr16, xu_s, xu_c, xu_k, xu_cc, rows_xu, xf_s, xf_c, rows_xf, xul_c, rows_xul, xul_L, lgc, l1', e2]
        refine hk s ⟨j1, j2, fun k hk hk2 => j3 k ?_ hk2⟩
        have : k ≠ i := fun x => e2 (x ▸ hk2)
        omega
    · intro f s ⟨j1, j2, j3⟩
      show b_Mod_findLive_L48 (p_Mod_findLive_L48 Q f) Q (nI 16) _
      unfold b_Mod_findLive_L48
      simp (disch := omega) only [forall_eq, true_and, and_true, and_self, not_true_eq_false, not_false_eq_true, false_imp_iff, true_imp_iff, imp_self, implies_true, ne_eq, reduceIte, cl, cl0, cl1, cl2, vpn, vp0, le8, le16, le40, le640, le1400, le6400, lt8, lt16, le15, le2, nI_leI, nI_ltI, nI_eq, nI_1, nI_add, n_le0, n_lt0, n_0le, n_eq0, n_eq1, n_eq2, n_m1, n_m1r, Nat.reduceEqDiff, Nat.reduceAdd, Int32.add_zero, nI_pred, div16, mul15, mul40, mul16, mul640, mulr16, xu_s, xu_c, xu_k, xu_cc, rows_xu, xf_s, xf_c, rows_xf, xul_c, rows_xul, xul_L, lgc, Nat.le_refl]
      exact hq2 s j1 (fun q a b => j2 q (ho q a b)) j3
  unfold p_Mod_findLive
  have key := lpS (S := Nat → Int32) (fun f i s => p_Mod_findLive_L2 Q f (nI r) (nI i) (va_up σ 48 s)) (fun i s => ∀ o, o < i → (s o = 1 ∧ iA (σ 40) o ∧ g o < r) ∨ (s o = 0 ∧ ¬ (iA (σ 40) o ∧ g o < r))) 640 (by
    intro f i s hi hs hk
    show b_Mod_findLive_L2 (p_Mod_findLive_L2 Q f) Q (nI r) (nI i) _
    unfold b_Mod_findLive_L2
    have l1' : ¬ 640 ≤ i := by omega
    have ext : ∀ v : Int32, ((v = 1 ∧ iA (σ 40) i ∧ g i < r) ∨ (v = 0 ∧ ¬ (iA (σ 40) i ∧ g i < r))) → ∀ o, o < i + 1 → (upd s i v o = 1 ∧ iA (σ 40) o ∧ g o < r) ∨ (upd s i v o = 0 ∧ ¬ (iA (σ 40) o ∧ g o < r)) := fun v hv p hp => by
      by_cases e : p = i
      · rw [e, upd_s]; exact hv
      · rw [upd_n _ _ e]; exact hs p (by omega)
    by_cases e : σ 40 i = -1
    · simp (disch := omega) only [forall_eq, true_and, and_true, and_self, not_true_eq_false, not_false_eq_true, false_imp_iff, true_imp_iff, imp_self, implies_true, ne_eq, reduceIte, cl, cl0, cl1, cl2, vpn, vp0, le8, le16, le40, le640, le1400, le6400, lt8, lt16, le15, le2, nI_leI, nI_ltI, nI_eq, nI_1, nI_add, n_le0, n_lt0, n_0le, n_eq0, n_eq1, n_eq2, n_m1, n_m1r, Nat.reduceEqDiff, Nat.reduceAdd, Int32.add_zero, nI_pred, div16, mul15, mul40, mul16, mul640, mulr16, xu_s, xu_c, xu_k, xu_cc, rows_xu, xf_s, xf_c, rows_xf, xul_c, rows_xul, xul_L, lgc, l1', e, nar0, xu_xf]
      exact hk _ (ext 0 (Or.inr ⟨rfl, fun x => x.1.2 e⟩))
    · obtain ⟨g1, g2⟩ := hg i ⟨hi, e⟩
      by_cases hgr : g i < r
      · have hgr' : ¬ r ≤ g i := by omega
        simp (disch := omega) only [forall_eq, true_and, and_true, and_self, not_true_eq_false, not_false_eq_true, false_imp_iff, true_imp_iff, imp_self, implies_true, ne_eq, reduceIte, cl, cl0, cl1, cl2, vpn, vp0, le8, le16, le40, le640, le1400, le6400, lt8, lt16, le15, le2, nI_leI, nI_ltI, nI_eq, nI_1, nI_add, n_le0, n_lt0, n_0le, n_eq0, n_eq1, n_eq2, n_m1, n_m1r, Nat.reduceEqDiff, Nat.reduceAdd, Int32.add_zero, nI_pred, div16, mul15, mul40, mul16, mul640, mulr16, xu_s, xu_c, xu_k, xu_cc, rows_xu, xf_s, xf_c, rows_xf, xul_c, rows_xul, xul_L, lgc, l1', e, g1, hgr', nar1, xu_xf]
        exact hk _ (ext 1 (Or.inl ⟨rfl, ⟨hi, e⟩, hgr⟩))
      · have hgr' : r ≤ g i := by omega
        simp (disch := omega) only [forall_eq, true_and, and_true, and_self, not_true_eq_false, not_false_eq_true, false_imp_iff, true_imp_iff, imp_self, implies_true, ne_eq, reduceIte, cl, cl0, cl1, cl2, vpn, vp0, le8, le16, le40, le640, le1400, le6400, lt8, lt16, le15, le2, nI_leI, nI_ltI, nI_eq, nI_1, nI_add, n_le0, n_lt0, n_0le, n_eq0, n_eq1, n_eq2, n_m1, n_m1r, Nat.reduceEqDiff, Nat.reduceAdd, Int32.add_zero, nI_pred, div16, mul15, mul40, mul16, mul640, mulr16, xu_s, xu_c, xu_k, xu_cc, rows_xu, xf_s, xf_c, rows_xf, xul_c, rows_xul, xul_L, lgc, l1', e, g1, hgr', nar0, xu_xf]
        exact hk _ (ext 0 (Or.inr ⟨rfl, fun x => hgr x.2⟩))) (by
    intro f s hs
    show b_Mod_findLive_L2 (p_Mod_findLive_L2 Q f) Q (nI r) (nI 640) _
    unfold b_Mod_findLive_L2
    simp (disch := omega) only [forall_eq, true_and, and_true, and_self, not_true_eq_false, not_false_eq_true, false_imp_iff, true_imp_iff, imp_self, implies_true, ne_eq, reduceIte, cl, cl0, cl1, cl2, vpn, vp0, le8, le16, le40, le640, le1400, le6400, lt8, lt16, le15, le2, nI_leI, nI_ltI, nI_eq, nI_1, nI_add, n_le0, n_lt0, n_0le, n_eq0, n_eq1, n_eq2, n_m1, n_m1r, Nat.reduceEqDiff, Nat.reduceAdd, Int32.add_zero, nI_pred, div16, mul15, mul40, mul16, mul640, mulr16, xu_s, xu_c, xu_k, xu_cc, rows_xu, xf_s, xf_c, rows_xf, xul_c, rows_xul, xul_L, lgc, Nat.le_refl]
    refine hq1 s (fun o ho => ?_) (fun q a b => ?_)
    · rcases hs o ho with ⟨a, b, c⟩ | ⟨a, b⟩
      · exact Or.inr ⟨a, b, Lv_sd ((hSd o).mpr (Or.inl ⟨b, c⟩))⟩
      · exact Or.inl a
    · rcases hs q a.1 with ⟨c, d, e⟩ | ⟨c, d⟩
      · exact c
      · exact absurd ⟨a, b⟩ d) (s := σ 48) (fun o ho => by omega)
  rw [xf_0] at key
  exact key
theorem e_nextDue {σ : xS} {mn g : Nat → Nat} {r : Nat} (hr : r < 8) (hT : Rt (σ 40) (σ 42) (σ 43) (σ 46) (σ 47) mn g) {wt : Nat → Nat} (hw : ∀ o, iA (σ 40) o → σ 45 o = nI (wt o) ∧ wt o < 100000) (Q : Int32 → xS → Prop)
    (hy : ∀ u, (iA (σ 40) u ∧ r ≤ g u ∧ σ 48 u = 0 ∧ 0 < wt u) → (∀ o, (iA (σ 40) o ∧ r ≤ g o ∧ σ 48 o = 0 ∧ 0 < wt o) → wt u ≤ wt o) → Q (nI u) σ)
    (hn : (∀ o, ¬ (iA (σ 40) o ∧ r ≤ g o ∧ σ 48 o = 0 ∧ 0 < wt o)) → Q (-1) σ) : p_Mod_nextDue (nI r) σ Q := by
  unfold p_Mod_nextDue
  refine lpS (S := Int32) (fun f i x => p_Mod_nextDue_L4 Q f (nI r) x (nI i) σ) (fun i x => (x = -1 ∧ ∀ o, o < i → ¬ (iA (σ 40) o ∧ r ≤ g o ∧ σ 48 o = 0 ∧ 0 < wt o)) ∨ ∃ u, x = nI u ∧ (iA (σ 40) u ∧ r ≤ g u ∧ σ 48 u = 0 ∧ 0 < wt u) ∧ ∀ o, o < i → (iA (σ 40) o ∧ r ≤ g o ∧ σ 48 o = 0 ∧ 0 < wt o) → wt u ≤ wt o) 640 ?_ ?_ (s := -1) (Or.inl ⟨rfl, fun o ho => by omega⟩)
  · intro f i x hi hs hk
    show b_Mod_nextDue_L4 (p_Mod_nextDue_L4 Q f) Q (nI r) x (nI i) σ
    unfold b_Mod_nextDue_L4 p_Mod_nextDue_J42 p_Mod_nextDue_J43
    have l1' : ¬ 640 ≤ i := by omega
    have skip : ¬ (iA (σ 40) i ∧ r ≤ g i ∧ σ 48 i = 0 ∧ 0 < wt i) → p_Mod_nextDue_L4 Q f (nI r) x (nI (i + 1)) σ := fun hno => by
      refine hk x (hs.imp (fun z => ⟨z.1, fun o ho => ?_⟩) (fun ⟨u, a, b, c⟩ => ⟨u, a, b, fun o ho hi' => ?_⟩))
      · by_cases e : o = i
        · rw [e]; exact hno
        · exact z.2 o (by omega)
      · exact c o (by have : o ≠ i := fun e => hno (e ▸ hi'); omega) hi'
    simp (disch := omega) only [forall_eq, true_and, and_true, and_self, not_true_eq_false, not_false_eq_true, false_imp_iff, true_imp_iff, imp_self, implies_true, ne_eq, reduceIte, cl, cl0, cl1, cl2, vpn, vp0, le8, le16, le40, le640, le1400, le6400, lt8, lt16, le15, le2, nI_leI, nI_ltI, nI_eq, nI_1, nI_add, n_le0, n_lt0, n_0le, n_eq0, n_eq1, n_eq2, n_m1, n_m1r, Nat.reduceEqDiff, Nat.reduceAdd, Int32.add_zero, nI_pred, div16, mul15, mul40, mul16, mul640, mulr16, xu_s, xu_c, xu_k, xu_cc, rows_xu, xf_s, xf_c, rows_xf, xul_c, rows_xul, xul_L, lgc, l1']
    refine e_young hT rfl rfl hi hr _ (fun y1 y2 => ?_) (fun y => ?_)
    · obtain ⟨w1, w2⟩ := hw i y1
      by_cases hl : σ 48 i = 0
      · rcases Nat.eq_zero_or_pos (wt i) with w0 | w0
        · simp (disch := omega) only [forall_eq, true_and, and_true, and_self, not_true_eq_false, not_false_eq_true, false_imp_iff, true_imp_iff, imp_self, implies_true, ne_eq, reduceIte, cl, cl0, cl1, cl2, vpn, vp0, le8, le16, le40, le640, le1400, le6400, lt8, lt16, le15, le2, nI_leI, nI_ltI, nI_eq, nI_1, nI_add, n_le0, n_lt0, n_0le, n_eq0, n_eq1, n_eq2, n_m1, n_m1r, Nat.reduceEqDiff, Nat.reduceAdd, Int32.add_zero, nI_pred, div16, mul15, mul40, mul16, mul640, mulr16, xu_s, xu_c, xu_k, xu_cc, rows_xu, xf_s, xf_c, rows_xf, xul_c, rows_xul, xul_L, lgc, n10, hl, w1, w0]
          exact skip (fun z => by omega)
        · have w0' : ¬ wt i = 0 := by omega
          rcases hs with ⟨rfl, hs⟩ | ⟨u, rfl, hu, hs⟩
          · simp (disch := omega) only [forall_eq, true_and, and_true, and_self, not_true_eq_false, not_false_eq_true, false_imp_iff, true_imp_iff, imp_self, implies_true, ne_eq, reduceIte, cl, cl0, cl1, cl2, vpn, vp0, le8, le16, le40, le640, le1400, le6400, lt8, lt16, le15, le2, nI_leI, nI_ltI, nI_eq, nI_1, nI_add, n_le0, n_lt0, n_0le, n_eq0, n_eq1, n_eq2, n_m1, n_m1r, Nat.reduceEqDiff, Nat.reduceAdd, Int32.add_zero, nI_pred, div16, mul15, mul40, mul16, mul640, mulr16, xu_s, xu_c, xu_k, xu_cc, rows_xu, xf_s, xf_c, rows_xf, xul_c, rows_xul, xul_L, lgc, n10, hl, w1, w0']
            refine hk (nI i) (Or.inr ⟨i, rfl, ⟨y1, y2, hl, w0⟩, fun o ho hio => ?_⟩)
            by_cases e : o = i
            · rw [e]; exact Nat.le_refl _
            · exact absurd hio (hs o (by omega))
          · obtain ⟨v1, v2⟩ := hw u hu.1
            have u6 := hu.1.1
            by_cases hle : wt u ≤ wt i
            · simp (disch := omega) only [forall_eq, true_and, and_true, and_self, not_true_eq_false, not_false_eq_true, false_imp_iff, true_imp_iff, imp_self, implies_true, ne_eq, reduceIte, cl, cl0, cl1, cl2, vpn, vp0, le8, le16, le40, le640, le1400, le6400, lt8, lt16, le15, le2, nI_leI, nI_ltI, nI_eq, nI_1, nI_add, n_le0, n_lt0, n_0le, n_eq0, n_eq1, n_eq2, n_m1, n_m1r, Nat.reduceEqDiff, Nat.reduceAdd, Int32.add_zero, nI_pred, div16, mul15, mul40, mul16, mul640, mulr16, xu_s, xu_c, xu_k, xu_cc, rows_xu, xf_s, xf_c, rows_xf, xul_c, rows_xul, xul_L, lgc, n10, hl, w1, w0', v1, hle]
              refine hk (nI u) (Or.inr ⟨u, rfl, hu, fun o ho hio => ?_⟩)
              by_cases e : o = i
              · rw [e]; exact hle
              · exact hs o (by omega) hio
            · simp (disch := omega) only [forall_eq, true_and, and_true, and_self, not_true_eq_false, not_false_eq_true, false_imp_iff, true_imp_iff, imp_self, implies_true, ne_eq, reduceIte, cl, cl0, cl1, cl2, vpn, vp0, le8, le16, le40, le640, le1400, le6400, lt8, lt16, le15, le2, nI_leI, nI_ltI, nI_eq, nI_1, nI_add, n_le0, n_lt0, n_0le, n_eq0, n_eq1, n_eq2, n_m1, n_m1r, Nat.reduceEqDiff, Nat.reduceAdd, Int32.add_zero, nI_pred, div16, mul15, mul40, mul16, mul640, mulr16, xu_s, xu_c, xu_k, xu_cc, rows_xu, xf_s, xf_c, rows_xf, xul_c, rows_xul, xul_L, lgc, n10, hl, w1, w0', v1, hle]
              refine hk (nI i) (Or.inr ⟨i, rfl, ⟨y1, y2, hl, w0⟩, fun o ho hio => ?_⟩)
              by_cases e : o = i
              · rw [e]; exact Nat.le_refl _
              · have := hs o (by omega) hio; omega
      · simp (disch := omega) only [forall_eq, true_and, and_true, and_self, not_true_eq_false, not_false_eq_true, false_imp_iff, true_imp_iff, imp_self, implies_true, ne_eq, reduceIte, cl, cl0, cl1, cl2, vpn, vp0, le8, le16, le40, le640, le1400, le6400, lt8, lt16, le15, le2, nI_leI, nI_ltI, nI_eq, nI_1, nI_add, n_le0, n_lt0, n_0le, n_eq0, n_eq1, n_eq2, n_m1, n_m1r, Nat.reduceEqDiff, Nat.reduceAdd, Int32.add_zero, nI_pred, div16, mul15, mul40, mul16, mul640, mulr16, xu_s, xu_c, xu_k, xu_cc, rows_xu, xf_s, xf_c, rows_xf, xul_c, rows_xul, xul_L, lgc, n10, hl]
        exact skip (fun z => hl z.2.2.1)
    · simp (disch := omega) only [forall_eq, true_and, and_true, and_self, not_true_eq_false, not_false_eq_true, false_imp_iff, true_imp_iff, imp_self, implies_true, ne_eq, reduceIte, cl, cl0, cl1, cl2, vpn, vp0, le8, le16, le40, le640, le1400, le6400, lt8, lt16, le15, le2, nI_leI, nI_ltI, nI_eq, nI_1, nI_add, n_le0, n_lt0, n_0le, n_eq0, n_eq1, n_eq2, n_m1, n_m1r, Nat.reduceEqDiff, Nat.reduceAdd, Int32.add_zero, nI_pred, div16, mul15, mul40, mul16, mul640, mulr16, xu_s, xu_c, xu_k, xu_cc, rows_xu, xf_s, xf_c, rows_xf, xul_c, rows_xul, xul_L, lgc]
      exact skip (fun z => y ⟨z.1, z.2.1⟩)
  · intro f x hs
    show b_Mod_nextDue_L4 (p_Mod_nextDue_L4 Q f) Q (nI r) x (nI 640) σ
    unfold b_Mod_nextDue_L4
    simp (disch := omega) only [forall_eq, true_and, and_true, and_self, not_true_eq_false, not_false_eq_true, false_imp_iff, true_imp_iff, imp_self, implies_true, ne_eq, reduceIte, cl, cl0, cl1, cl2, vpn, vp0, le8, le16, le40, le640, le1400, le6400, lt8, lt16, le15, le2, nI_leI, nI_ltI, nI_eq, nI_1, nI_add, n_le0, n_lt0, n_0le, n_eq0, n_eq1, n_eq2, n_m1, n_m1r, Nat.reduceEqDiff, Nat.reduceAdd, Int32.add_zero, nI_pred, div16, mul15, mul40, mul16, mul640, mulr16, xu_s, xu_c, xu_k, xu_cc, rows_xu, xf_s, xf_c, rows_xf, xul_c, rows_xul, xul_L, lgc, Nat.le_refl]
    rcases hs with ⟨rfl, hs⟩ | ⟨u, rfl, hu, hs⟩
    · exact hn (fun o ho => hs o ho.1.1 ho)
    · exact hy u hu (fun o ho => hs o ho.1.1 ho)
