theorem cnt_m {P : Nat → Prop} {i j : Nat} (h : i ≤ j) : cnt P i ≤ cnt P j := by
  obtain ⟨d, rfl⟩ : ∃ d, j = i + d := ⟨j - i, by omega⟩
  rw [cnt_add]; omega
theorem cnt_ym {P : Nat → Prop} {i j : Nat} (hi : P i) (h : i < j) : cnt P i + 1 ≤ cnt P j := by
  have := cnt_m (P := P) (show i + 1 ≤ j by omega)
  rw [cnt_y P hi] at this
  exact this
theorem cnt_sel {K : Nat → Prop} : ∀ i j : Nat, j < cnt K i → cnt K (sel K i j) = j := by
  intro i
  induction i with
  | zero => intro j hj; exact absurd hj (Nat.not_lt_zero _)
  | succ i ih =>
    intro j hj
    by_cases h : K i
    · rw [sel_y h]
      rw [cnt_y K h] at hj
      show cnt K (if j = cnt K i then i else sel K i j) = j
      by_cases e : j = cnt K i
      · rw [if_pos e, e]
      · rw [if_neg e]; exact ih j (by omega)
    · rw [sel_n h]
      rw [cnt_n K h] at hj
      exact ih j hj
theorem cw_sel {D : Nat → Prop} {v f : Nat → Int32} {n i j : Nat} (hj : j < cnt D i) : cw D (fun k => n + cnt D k) v f i (n + j) = v (sel D i j) := by
  obtain ⟨s1, s2⟩ := sel_in i j hj
  refine cw_at i s1 s2 (by rw [cnt_sel i j hj]) (fun k h1 h2 hk e => ?_)
  have := cnt_ym s2 h1
  rw [cnt_sel i j hj] at this
  omega
theorem cw_lo {D : Nat → Prop} {v f : Nat → Int32} {n i j : Nat} (hj : j < n) : cw D (fun k => n + cnt D k) v f i j = f j := cw_no i (fun k _ _ => by omega)
def hos (τ : xS) (a b : Nat → Int32) (x : Int32) : xS := xu (va_up (va_up τ 25 a) 24 b) 8 1 x
theorem hos_25 (τ : xS) (a b : Nat → Int32) (x : Int32) : hos τ a b x 25 = a := by unfold hos; simp (disch := omega) only [forall_eq, true_and, and_true, and_self, not_true_eq_false, not_false_eq_true, false_imp_iff, true_imp_iff, imp_self, implies_true, ne_eq, reduceIte, cl, cl0, cl1, cl2, vpn, vp0, le8, le16, le40, le640, le1400, le6400, lt8, lt16, le15, le2, nI_leI, nI_ltI, nI_eq, nI_1, nI_add, n_le0, n_lt0, n_0le, n_eq0, n_eq1, n_eq2, n_m1, n_m1r, Nat.reduceEqDiff, Nat.reduceAdd, Int32.add_zero, nI_pred, div16, mul15, mul40, mul16, mul640, mulr16, xu_s, xu_c, xu_k, xu_cc, rows_xu, xf_s, xf_c, rows_xf, xul_c, rows_xul, xul_L, lgc]
theorem hos_24 (τ : xS) (a b : Nat → Int32) (x : Int32) : hos τ a b x 24 = b := by unfold hos; simp (disch := omega) only [forall_eq, true_and, and_true, and_self, not_true_eq_false, not_false_eq_true, false_imp_iff, true_imp_iff, imp_self, implies_true, ne_eq, reduceIte, cl, cl0, cl1, cl2, vpn, vp0, le8, le16, le40, le640, le1400, le6400, lt8, lt16, le15, le2, nI_leI, nI_ltI, nI_eq, nI_1, nI_add, n_le0, n_lt0, n_0le, n_eq0, n_eq1, n_eq2, n_m1, n_m1r, Nat.reduceEqDiff, Nat.reduceAdd, Int32.add_zero, nI_pred, div16, mul15, mul40, mul16, mul640, mulr16, xu_s, xu_c, xu_k, xu_cc, rows_xu, xf_s, xf_c, rows_xf, xul_c, rows_xul, xul_L, lgc]
theorem hos_8 (τ : xS) (a b : Nat → Int32) (x : Int32) : hos τ a b x 8 1 = x := by unfold hos; simp (disch := omega) only [forall_eq, true_and, and_true, and_self, not_true_eq_false, not_false_eq_true, false_imp_iff, true_imp_iff, imp_self, implies_true, ne_eq, reduceIte, cl, cl0, cl1, cl2, vpn, vp0, le8, le16, le40, le640, le1400, le6400, lt8, lt16, le15, le2, nI_leI, nI_ltI, nI_eq, nI_1, nI_add, n_le0, n_lt0, n_0le, n_eq0, n_eq1, n_eq2, n_m1, n_m1r, Nat.reduceEqDiff, Nat.reduceAdd, Int32.add_zero, nI_pred, div16, mul15, mul40, mul16, mul640, mulr16, xu_s, xu_c, xu_k, xu_cc, rows_xu, xf_s, xf_c, rows_xf, xul_c, rows_xul, xul_L, lgc]
theorem hos_d (τ : xS) (a b : Nat → Int32) (x : Int32) {d : Nat} (h : d ≠ 25 ∧ d ≠ 24 ∧ d ≠ 8) : hos τ a b x d = τ d := by
  unfold hos
  rw [xu_c _ _ _ _ h.2.2, xf_c _ _ _ h.2.1, xf_c _ _ _ h.1]
theorem hos_w25 (τ : xS) (a b : Nat → Int32) (x : Int32) (k : Nat) (v : Int32) : xu (hos τ a b x) 25 k v = hos τ (upd a k v) b x := by
  funext d j
  by_cases e : d = 25
  · subst e; rw [xu_cc, hos_25, hos_25]
  · rw [xu_c _ _ _ _ e]
    by_cases e' : d = 24
    · subst e'; rw [hos_24, hos_24]
    · by_cases e'' : d = 8
      · subst e''; unfold hos; rw [xu_cc, xu_cc]; congr 1
      · rw [hos_d _ _ _ _ ⟨e, e', e''⟩, hos_d _ _ _ _ ⟨e, e', e''⟩]
theorem hos_w24 (τ : xS) (a b : Nat → Int32) (x : Int32) (k : Nat) (v : Int32) : xu (hos τ a b x) 24 k v = hos τ a (upd b k v) x := by
  funext d j
  by_cases e : d = 24
  · subst e; rw [xu_cc, hos_24, hos_24]
  · rw [xu_c _ _ _ _ e]
    by_cases e' : d = 25
    · subst e'; rw [hos_25, hos_25]
    · by_cases e'' : d = 8
      · subst e''; unfold hos; rw [xu_cc, xu_cc]; congr 1
      · rw [hos_d _ _ _ _ ⟨e', e, e''⟩, hos_d _ _ _ _ ⟨e', e, e''⟩]
theorem hos_w8 (τ : xS) (a b : Nat → Int32) (x y : Int32) : xu (hos τ a b x) 8 1 y = hos τ a b y := by
  funext d j
  by_cases e : d = 8
  · subst e; unfold hos; rw [xu_cc, xu_cc, xu_cc, upd_upd]
  · rw [xu_c _ _ _ _ e]; unfold hos; rw [xu_c _ _ _ _ e, xu_c _ _ _ _ e]
theorem hos_0 (τ : xS) : hos τ (τ 25) (τ 24) (τ 8 1) = τ := by
  unfold hos
  rw [xf_0, xf_0]
  funext d j
  by_cases e : d = 8
  · subst e
    rw [xu_cc]
    by_cases e' : j = 1
    · rw [e', upd_s]
    · rw [upd_n _ _ e']
  · rw [xu_c _ _ _ _ e]
theorem e_handOver {τ : xS} {n wn : Nat} {q : Nat → Nat} {Kp : Nat → Prop} (hn : τ 8 1 = nI n) (hw : τ 9 1 = nI wn) (w6 : wn ≤ 640) (h6 : n + cnt (fun k => ¬ Kp k) wn ≤ 640) (hq : ∀ k, k < wn → τ 25 k = nI (q k) ∧ q k < 640 ∧ ((τ 26 (q k) = 1 ∧ Kp k) ∨ (τ 26 (q k) = 0 ∧ ¬ Kp k))) (Q : xS → Prop)
    (h : Q (xu (hos τ (kep Kp (τ 25) wn) (cw (fun k => ¬ Kp k) (fun k => n + cnt (fun k => ¬ Kp k) k) (τ 25) (τ 24) wn) (nI (n + cnt (fun k => ¬ Kp k) wn))) 9 1 (nI (cnt Kp wn)))) : p_Lin_handOverDead_9_11_8 τ Q := by
  unfold p_Lin_handOverDead_9_11_8
  have key := lpF (fun f i => p_Lin_handOverDead_9_11_8_L5 Q f (nI (cnt Kp i)) (nI i) (hos τ (kep Kp (τ 25) i) (cw (fun k => ¬ Kp k) (fun k => n + cnt (fun k => ¬ Kp k) k) (τ 25) (τ 24) i) (nI (n + cnt (fun k => ¬ Kp k) i)))) wn (by
    intro f i hi hk
    show b_Lin_handOverDead_9_11_8_L5 (p_Lin_handOverDead_9_11_8_L5 Q f) Q (nI (cnt Kp i)) (nI i) _
    unfold b_Lin_handOverDead_9_11_8_L5 p_Mar_isLive p_Lin_append_8
    have l1' : ¬ wn ≤ i := by omega
    have l2 := cnt_le Kp i
    obtain ⟨q1, q2, q3⟩ := hq i hi
    rcases q3 with ⟨e, hb⟩ | ⟨e, hb⟩
    · have e' := e_narl (Or.inr e)
      rw [cnt_y Kp hb, ← kep_y _ hb, cnt_n (fun k => ¬ Kp k) (fun x => x hb), cw_n (B := fun k => ¬ Kp k) _ _ _ (fun x => x hb), q1] at hk
      simp (disch := omega) only [forall_eq, true_and, and_true, and_self, not_true_eq_false, not_false_eq_true, false_imp_iff, true_imp_iff, imp_self, implies_true, ne_eq, reduceIte, cl, cl0, cl1, cl2, vpn, vp0, le8, le16, le40, le640, le1400, le6400, lt8, lt16, le15, le2, nI_leI, nI_ltI, nI_eq, nI_1, nI_add, n_le0, n_lt0, n_0le, n_eq0, n_eq1, n_eq2, n_m1, n_m1r, Nat.reduceEqDiff, Nat.reduceAdd, Int32.add_zero, nI_pred, div16, mul15, mul40, mul16, mul640, mulr16, xu_s, xu_c, xu_k, xu_cc, rows_xu, xf_s, xf_c, rows_xf, xul_c, rows_xul, xul_L, lgc, e, n10] at e' ⊢
      simp (disch := omega) only [forall_eq, true_and, and_true, and_self, not_true_eq_false, not_false_eq_true, false_imp_iff, true_imp_iff, imp_self, implies_true, ne_eq, reduceIte, cl, cl0, cl1, cl2, vpn, vp0, le8, le16, le40, le640, le1400, le6400, lt8, lt16, le15, le2, nI_leI, nI_ltI, nI_eq, nI_1, nI_add, n_le0, n_lt0, n_0le, n_eq0, n_eq1, n_eq2, n_m1, n_m1r, Nat.reduceEqDiff, Nat.reduceAdd, Int32.add_zero, nI_pred, div16, mul15, mul40, mul16, mul640, mulr16, xu_s, xu_c, xu_k, xu_cc, rows_xu, xf_s, xf_c, rows_xf, xul_c, rows_xul, xul_L, lgc, hos_d, hw, l1', hos_25, kep_ge, Nat.le_refl, q1, e, e', n10, hos_w25]
      exact hk
    · have e' := e_narl (Or.inl e)
      have l3 := cnt_ym (P := fun k => ¬ Kp k) hb hi
      have l4 : ¬ 640 ≤ n + cnt (fun k => ¬ Kp k) i := by omega
      have c1 := cw_y (B := fun k => ¬ Kp k) (fun k => n + cnt (fun k => ¬ Kp k) k) (τ 25) (τ 24) (k := i) hb
      rw [cnt_n Kp hb, kep_n _ hb, cnt_y (fun k => ¬ Kp k) hb, ← c1, q1] at hk
      simp (disch := omega) only [forall_eq, true_and, and_true, and_self, not_true_eq_false, not_false_eq_true, false_imp_iff, true_imp_iff, imp_self, implies_true, ne_eq, reduceIte, cl, cl0, cl1, cl2, vpn, vp0, le8, le16, le40, le640, le1400, le6400, lt8, lt16, le15, le2, nI_leI, nI_ltI, nI_eq, nI_1, nI_add, n_le0, n_lt0, n_0le, n_eq0, n_eq1, n_eq2, n_m1, n_m1r, Nat.reduceEqDiff, Nat.reduceAdd, Int32.add_zero, nI_pred, div16, mul15, mul40, mul16, mul640, mulr16, xu_s, xu_c, xu_k, xu_cc, rows_xu, xf_s, xf_c, rows_xf, xul_c, rows_xul, xul_L, lgc, e, n10] at e' ⊢
      simp (disch := omega) only [forall_eq, true_and, and_true, and_self, not_true_eq_false, not_false_eq_true, false_imp_iff, true_imp_iff, imp_self, implies_true, ne_eq, reduceIte, cl, cl0, cl1, cl2, vpn, vp0, le8, le16, le40, le640, le1400, le6400, lt8, lt16, le15, le2, nI_leI, nI_ltI, nI_eq, nI_1, nI_add, n_le0, n_lt0, n_0le, n_eq0, n_eq1, n_eq2, n_m1, n_m1r, Nat.reduceEqDiff, Nat.reduceAdd, Int32.add_zero, nI_pred, div16, mul15, mul40, mul16, mul640, mulr16, xu_s, xu_c, xu_k, xu_cc, rows_xu, xf_s, xf_c, rows_xf, xul_c, rows_xul, xul_L, lgc, hos_d, hw, l1', hos_25, kep_ge, Nat.le_refl, q1, e, e', n10, hos_8, l4, hos_w24, hos_w8]
      exact hk) (by
    intro f
    show b_Lin_handOverDead_9_11_8_L5 (p_Lin_handOverDead_9_11_8_L5 Q f) Q _ (nI wn) _
    unfold b_Lin_handOverDead_9_11_8_L5
    simp (disch := omega) only [forall_eq, true_and, and_true, and_self, not_true_eq_false, not_false_eq_true, false_imp_iff, true_imp_iff, imp_self, implies_true, ne_eq, reduceIte, cl, cl0, cl1, cl2, vpn, vp0, le8, le16, le40, le640, le1400, le6400, lt8, lt16, le15, le2, nI_leI, nI_ltI, nI_eq, nI_1, nI_add, n_le0, n_lt0, n_0le, n_eq0, n_eq1, n_eq2, n_m1, n_m1r, Nat.reduceEqDiff, Nat.reduceAdd, Int32.add_zero, nI_pred, div16, mul15, mul40, mul16, mul640, mulr16, xu_s, xu_c, xu_k, xu_cc, rows_xu, xf_s, xf_c, rows_xf, xul_c, rows_xul, xul_L, lgc, hos_d, hw, Nat.le_refl]
    exact h)
  have e0 : cnt (fun k => ¬ Kp k) 0 = 0 := rfl
  rw [kep_0, cw_0, e0, Nat.add_zero, ← hn, hos_0] at key
  exact key
def dus (τ : xS) (a b : Nat → Int32) (x : Int32) : xS := xu (va_up (va_up τ 45 a) 56 b) 31 19 x
theorem dus_45 (τ : xS) (a b : Nat → Int32) (x : Int32) : dus τ a b x 45 = a := by unfold dus; simp (disch := omega) only [forall_eq, true_and, and_true, and_self, not_true_eq_false, not_false_eq_true, false_imp_iff, true_imp_iff, imp_self, implies_true, ne_eq, reduceIte, cl, cl0, cl1, cl2, vpn, vp0, le8, le16, le40, le640, le1400, le6400, lt8, lt16, le15, le2, nI_leI, nI_ltI, nI_eq, nI_1, nI_add, n_le0, n_lt0, n_0le, n_eq0, n_eq1, n_eq2, n_m1, n_m1r, Nat.reduceEqDiff, Nat.reduceAdd, Int32.add_zero, nI_pred, div16, mul15, mul40, mul16, mul640, mulr16, xu_s, xu_c, xu_k, xu_cc, rows_xu, xf_s, xf_c, rows_xf, xul_c, rows_xul, xul_L, lgc]
theorem dus_56 (τ : xS) (a b : Nat → Int32) (x : Int32) : dus τ a b x 56 = b := by unfold dus; simp (disch := omega) only [forall_eq, true_and, and_true, and_self, not_true_eq_false, not_false_eq_true, false_imp_iff, true_imp_iff, imp_self, implies_true, ne_eq, reduceIte, cl, cl0, cl1, cl2, vpn, vp0, le8, le16, le40, le640, le1400, le6400, lt8, lt16, le15, le2, nI_leI, nI_ltI, nI_eq, nI_1, nI_add, n_le0, n_lt0, n_0le, n_eq0, n_eq1, n_eq2, n_m1, n_m1r, Nat.reduceEqDiff, Nat.reduceAdd, Int32.add_zero, nI_pred, div16, mul15, mul40, mul16, mul640, mulr16, xu_s, xu_c, xu_k, xu_cc, rows_xu, xf_s, xf_c, rows_xf, xul_c, rows_xul, xul_L, lgc]
theorem dus_31 (τ : xS) (a b : Nat → Int32) (x : Int32) : dus τ a b x 31 19 = x := by unfold dus; simp (disch := omega) only [forall_eq, true_and, and_true, and_self, not_true_eq_false, not_false_eq_true, false_imp_iff, true_imp_iff, imp_self, implies_true, ne_eq, reduceIte, cl, cl0, cl1, cl2, vpn, vp0, le8, le16, le40, le640, le1400, le6400, lt8, lt16, le15, le2, nI_leI, nI_ltI, nI_eq, nI_1, nI_add, n_le0, n_lt0, n_0le, n_eq0, n_eq1, n_eq2, n_m1, n_m1r, Nat.reduceEqDiff, Nat.reduceAdd, Int32.add_zero, nI_pred, div16, mul15, mul40, mul16, mul640, mulr16, xu_s, xu_c, xu_k, xu_cc, rows_xu, xf_s, xf_c, rows_xf, xul_c, rows_xul, xul_L, lgc]
theorem dus_d (τ : xS) (a b : Nat → Int32) (x : Int32) {d : Nat} (h : d ≠ 45 ∧ d ≠ 56 ∧ d ≠ 31) : dus τ a b x d = τ d := by
  unfold dus
  rw [xu_c _ _ _ _ h.2.2, xf_c _ _ _ h.2.1, xf_c _ _ _ h.1]
theorem dus_w45 (τ : xS) (a b : Nat → Int32) (x : Int32) (k : Nat) (v : Int32) : xu (dus τ a b x) 45 k v = dus τ (upd a k v) b x := by
  funext d j
  by_cases e : d = 45
  · subst e; rw [xu_cc, dus_45, dus_45]
  · rw [xu_c _ _ _ _ e]
    by_cases e' : d = 56
    · subst e'; rw [dus_56, dus_56]
    · by_cases e'' : d = 31
      · subst e''; unfold dus; rw [xu_cc, xu_cc]; congr 1
      · rw [dus_d _ _ _ _ ⟨e, e', e''⟩, dus_d _ _ _ _ ⟨e, e', e''⟩]
theorem dus_w56 (τ : xS) (a b : Nat → Int32) (x : Int32) (k : Nat) (v : Int32) : xu (dus τ a b x) 56 k v = dus τ a (upd b k v) x := by
  funext d j
  by_cases e : d = 56
  · subst e; rw [xu_cc, dus_56, dus_56]
  · rw [xu_c _ _ _ _ e]
    by_cases e' : d = 45
    · subst e'; rw [dus_45, dus_45]
    · by_cases e'' : d = 31
      · subst e''; unfold dus; rw [xu_cc, xu_cc]; congr 1
      · rw [dus_d _ _ _ _ ⟨e', e, e''⟩, dus_d _ _ _ _ ⟨e', e, e''⟩]
theorem dus_w31 (τ : xS) (a b : Nat → Int32) (x y : Int32) : xu (dus τ a b x) 31 19 y = dus τ a b y := by
  funext d j
  by_cases e : d = 31
  · subst e; unfold dus; rw [xu_cc, xu_cc, xu_cc, upd_upd]
  · rw [xu_c _ _ _ _ e]; unfold dus; rw [xu_c _ _ _ _ e, xu_c _ _ _ _ e]
theorem dus_0 (τ : xS) : dus τ (τ 45) (τ 56) (τ 31 19) = τ := by
  unfold dus
  rw [xf_0, xf_0]
  funext d j
  by_cases e : d = 31
  · subst e
    rw [xu_cc]
    by_cases e' : j = 19
    · rw [e', upd_s]
    · rw [upd_n _ _ e']
  · rw [xu_c _ _ _ _ e]
theorem e_mDue {τ : xS} {mn g wt dd : Nat → Nat} {r n N : Nat} (hr : r < 8) (hT : Rt (τ 40) (τ 42) (τ 43) (τ 46) (τ 47) mn g) (hw : ∀ o, iA (τ 40) o → τ 45 o = nI (wt o) ∧ wt o < 100000) (hn : τ 31 19 = nI n) (h6 : n + N ≤ 640)
    (hd : ∀ j, j < N → iA (τ 40) (dd j) ∧ r ≤ g (dd j) ∧ τ 48 (dd j) = 0 ∧ 0 < wt (dd j)) (hm : ∀ j k, j < k → k < N → wt (dd j) < wt (dd k)) (ha : ∀ o, (iA (τ 40) o ∧ r ≤ g o ∧ τ 48 o = 0 ∧ 0 < wt o) → ∃ j, j < N ∧ dd j = o) (Q : Int32 → xS → Prop)
    (h : p_Mod_findLive (nI r) (dus τ (cw (fun _ => True) dd (fun _ => 0) (τ 45) N) (cw (fun _ => True) (fun j => n + j) (fun j => nI (dd j)) (τ 56) N) (nI (n + N))) (fun σ6 => (∃ n, p_Mod_collectFrom_L64 Q n (nI r) 0 σ6))) :
    p_Mod_nextDue (nI r) τ (fun r4 σ3 => (∃ n, p_Mod_collectFrom_L16 Q n (nI r) r4 σ3)) := by
  obtain ⟨st, est⟩ : ∃ st : Nat → xS, st = fun j => dus τ (cw (fun _ => True) dd (fun _ => 0) (τ 45) j) (cw (fun _ => True) (fun j => n + j) (fun j => nI (dd j)) (τ 56) j) (nI (n + j)) := ⟨_, rfl⟩
  have inj : ∀ j k, j < N → k < N → dd j = dd k → j = k := fun j k hj hk e => by
    rcases Nat.lt_trichotomy j k with x | x | x
    · have := hm j k x hk; rw [e] at this; omega
    · exact x
    · have := hm k j x hj; rw [e] at this; omega
  have due : ∀ j, j ≤ N → ∀ (P : Int32 → xS → Prop), (j < N → P (nI (dd j)) (st j)) → (j = N → P (-1) (st j)) → p_Mod_nextDue (nI r) (st j) P := fun j hj P p1 p2 => by
    have hw' : ∀ o, iA (st j 40) o → st j 45 o = nI (@ite _ (∃ k, k < j ∧ dd k = o) (Classical.propDecidable _) 0 (wt o)) ∧ (@ite _ (∃ k, k < j ∧ dd k = o) (Classical.propDecidable _) 0 (wt o)) < 100000 := fun o ho => by
      rw [est] at ho ⊢
      dsimp only at ho ⊢
      rw [dus_d _ _ _ _ (by decide)] at ho
      rw [dus_45]
      by_cases hx : ∃ k, k < j ∧ dd k = o
      · rw [if_pos hx]
        obtain ⟨k, k1, k2⟩ := hx
        rw [cw_c k1 trivial k2]
        exact ⟨rfl, by decide⟩
      · rw [if_neg hx, cw_no j (fun k hk _ e => hx ⟨k, hk, e⟩)]
        exact hw o ho
    have c40 : st j 40 = τ 40 := by rw [est]; exact dus_d _ _ _ _ (by decide)
    have c42 : st j 42 = τ 42 := by rw [est]; exact dus_d _ _ _ _ (by decide)
    have c43 : st j 43 = τ 43 := by rw [est]; exact dus_d _ _ _ _ (by decide)
    have c46 : st j 46 = τ 46 := by rw [est]; exact dus_d _ _ _ _ (by decide)
    have c47 : st j 47 = τ 47 := by rw [est]; exact dus_d _ _ _ _ (by decide)
    have c48 : st j 48 = τ 48 := by rw [est]; exact dus_d _ _ _ _ (by decide)
    refine e_nextDue hr (by rw [c40, c42, c43, c46, c47]; exact hT) hw' P (fun u hu hmin => ?_) (fun hno => ?_)
    · rw [c40, c48] at hu
      obtain ⟨u1, u2, u3, u4⟩ := hu
      have ux : ¬ ∃ k, k < j ∧ dd k = u := fun hx => by rw [if_pos hx] at u4; omega
      rw [if_neg ux] at u4
      obtain ⟨k, k1, k2⟩ := ha u ⟨u1, u2, u3, u4⟩
      have kj : j ≤ k := by
        by_cases x : j ≤ k
        · exact x
        · exact absurd ⟨k, by omega, k2⟩ ux
      have hjN : j < N := by omega
      obtain ⟨d1, d2, d3, d4⟩ := hd j hjN
      have dx : ¬ ∃ k, k < j ∧ dd k = dd j := fun ⟨i, i1, i2⟩ => by have := inj i j (by omega) hjN i2; omega
      have := hmin (dd j) (by rw [c40, c48, if_neg dx]; exact ⟨d1, d2, d3, d4⟩)
      rw [if_neg ux, if_neg dx, ← k2] at this
      have ekj : k = j := by
        by_cases x : k = j
        · exact x
        · have := hm j k (by omega) k1; omega
      rw [← k2, ekj]
      exact p1 hjN
    · refine p2 ?_
      by_cases x : j = N
      · exact x
      · have hjN : j < N := by omega
        obtain ⟨d1, d2, d3, d4⟩ := hd j hjN
        have dx : ¬ ∃ k, k < j ∧ dd k = dd j := fun ⟨i, i1, i2⟩ => by have := inj i j (by omega) hjN i2; omega
        exact absurd (by rw [c40, c48, if_neg dx]; exact ⟨d1, d2, d3, d4⟩) (hno (dd j))
  have main : ∃ f, p_Mod_collectFrom_L16 Q f (nI r) (if 0 < N then nI (dd 0) else -1) (st 0) := by
    refine lpF (fun f j => p_Mod_collectFrom_L16 Q f (nI r) (if j < N then nI (dd j) else -1) (st j)) N (fun f j hj hk => ?_) (fun f => ?_)
    · rw [if_pos hj]
      show b_Mod_collectFrom_L16 (p_Mod_collectFrom_L16 Q f) Q (nI r) (nI (dd j)) _
      unfold b_Mod_collectFrom_L16
      obtain ⟨d1, d2, d3, d4⟩ := hd j hj
      have d6 := d1.1
      have estj : st j = dus τ (cw (fun _ => True) dd (fun _ => 0) (τ 45) j) (cw (fun _ => True) (fun j => n + j) (fun j => nI (dd j)) (τ 56) j) (nI (n + j)) := by rw [est]
      have y1 := cw_y (B := fun _ => True) dd (fun _ => 0) (τ 45) (k := j) trivial
      have y2 := cw_y (B := fun _ => True) (fun j => n + j) (fun j => nI (dd j)) (τ 56) (k := j) trivial
      have estj1 : st (j + 1) = dus τ (upd (cw (fun _ => True) dd (fun _ => 0) (τ 45) j) (dd j) 0) (upd (cw (fun _ => True) (fun j => n + j) (fun j => nI (dd j)) (τ 56) j) (n + j) (nI (dd j))) (nI (n + j + 1)) := by rw [est]; dsimp only; rw [← y1, ← y2]; rfl
      rw [estj]
      simp (disch := omega) only [forall_eq, true_and, and_true, and_self, not_true_eq_false, not_false_eq_true, false_imp_iff, true_imp_iff, imp_self, implies_true, ne_eq, reduceIte, cl, cl0, cl1, cl2, vpn, vp0, le8, le16, le40, le640, le1400, le6400, lt8, lt16, le15, le2, nI_leI, nI_ltI, nI_eq, nI_1, nI_add, n_le0, n_lt0, n_0le, n_eq0, n_eq1, n_eq2, n_m1, n_m1r, Nat.reduceEqDiff, Nat.reduceAdd, Int32.add_zero, nI_pred, div16, mul15, mul40, mul16, mul640, mulr16, xu_s, xu_c, xu_k, xu_cc, rows_xu, xf_s, xf_c, rows_xf, xul_c, rows_xul, xul_L, lgc, dus_w45, dus_31, dus_w56, dus_w31]
      have hh := due (j + 1) (by omega) (fun r45 σ44 => p_Mod_collectFrom_L16 Q f (nI r) r45 σ44) (fun x => by rw [if_pos x] at hk; exact hk) (fun x => by rw [if_neg (by omega)] at hk; exact hk)
      rw [estj1] at hh
      exact hh
    · rw [if_neg (Nat.lt_irrefl N)]
      show b_Mod_collectFrom_L16 (p_Mod_collectFrom_L16 Q f) Q (nI r) (-1) _
      unfold b_Mod_collectFrom_L16
      rw [est]
      simp (disch := omega) only [forall_eq, true_and, and_true, and_self, not_true_eq_false, not_false_eq_true, false_imp_iff, true_imp_iff, imp_self, implies_true, ne_eq, reduceIte, cl, cl0, cl1, cl2, vpn, vp0, le8, le16, le40, le640, le1400, le6400, lt8, lt16, le15, le2, nI_leI, nI_ltI, nI_eq, nI_1, nI_add, n_le0, n_lt0, n_0le, n_eq0, n_eq1, n_eq2, n_m1, n_m1r, Nat.reduceEqDiff, Nat.reduceAdd, Int32.add_zero, nI_pred, div16, mul15, mul40, mul16, mul640, mulr16, xu_s, xu_c, xu_k, xu_cc, rows_xu, xf_s, xf_c, rows_xf, xul_c, rows_xul, xul_L, lgc]
      exact h
  have e0 : st 0 = τ := by
    rw [est]
    dsimp only
    rw [cw_0, cw_0, Nat.add_zero, ← hn, dus_0]
  have := due 0 (Nat.zero_le _) (fun r4 σ3 => (∃ n, p_Mod_collectFrom_L16 Q n (nI r) r4 σ3)) (fun x => by rw [if_pos x] at main; exact main) (fun x => by rw [if_neg (by omega)] at main; exact main)
  rw [e0] at this
  exact this
