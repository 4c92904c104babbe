def vBit (τ : xS) (k : Nat) : Bool := (xL (τ 59) (k / 64)).toBitVec.getLsbD (k % 64)
def prd (B : Nat → Prop) (mn : Nat → Nat) (hd : Nat → Int32) (fs fw : Nat → Nat → Int32) (fv : Nat → Nat → Nat) (V : Nat → Nat → Prop) (o q : Nat) : Prop := hd o = hd q ∧ ∀ i, i < mn o → fs o i = fs q i ∧ (fs o i = 2 → V (fv o i) (fv q i)) ∧ (¬ fs o i = 2 → fw o i = fw q i)
def RV (σ τ : xS) (B : Nat → Prop) (mn : Nat → Nat) (hd : Nat → Int32) (fs fw : Nat → Nat → Int32) (fv : Nat → Nat → Nat) (ua ub : Nat) (ex : Nat → Nat → Prop) (m : Nat) : Prop :=
  (∀ d, d ≠ 59 → d ≠ 60 → d ≠ 31 → τ d = σ d) ∧ (∀ k, k ≠ 31 → τ 31 k = σ 31 k) ∧ τ 31 31 = nI m ∧ (∀ j, j < m → ∃ o q, B o ∧ B q ∧ τ 60 j = nI (640 * o + q) ∧ vBit τ (640 * o + q) = true) ∧ m + cnt (fun k => vBit τ k = false) 409600 ≤ 409600 ∧
  (∀ o q, B o → B q → vBit τ (640 * o + q) = true → ∀ Rel, bis B mn hd fs fw fv Rel → Rel ua ub → Rel o q) ∧
  (∀ o q, B o → B q → vBit τ (640 * o + q) = true → (∃ j, j < m ∧ τ 60 j = nI (640 * o + q)) ∨ ex o q ∨ prd B mn hd fs fw fv (fun x y => vBit τ (640 * x + y) = true) o q)
theorem d640 {o q : Nat} (hq : q < 640) : (640 * o + q) / 640 = o ∧ (640 * o + q) % 640 = q := by omega
theorem div64 {i : Nat} (h : i < 2147483648) : nI i / 64 = nI (i / 64) := pk_div (d := 64) h (by decide) (by decide)
theorem mulr64 (i : Nat) : nI i * 64 = nI (i * 64) := pk_mul i 64
theorem div640 {i : Nat} (h : i < 2147483648) : nI i / 640 = nI (i / 640) := pk_div (d := 640) h (by decide) (by decide)
theorem mulr640 (i : Nat) : nI i * 640 = nI (i * 640) := pk_mul i 640
theorem le409 {i N : Nat} (h : i < N) (hN : N = 409600) : vp_in (nI i) 409600 ↔ True := vpn (by omega) (by omega)
theorem vb_set {τ : xS} {K j : Nat} (v : Int64) (hv : v = (xL (τ 59) (K / 64)) ||| (1 <<< ((nI (K % 64)).toInt64 &&& 63))) : vBit (xul τ 59 (K / 64) v) j = (vBit τ j || decide (j = K)) := by
  unfold vBit xul
  rw [xf_s, xL_up]
  unfold vp_updL
  by_cases e : j / 64 = K / 64
  · rw [if_pos e, hv, bt_set _ (by omega) _ (by omega), e]
    congr 1
    rw [Bool.eq_iff_iff]
    simp
    omega
  · rw [if_neg e]
    have : decide (j = K) = false := by
      rw [decide_eq_false_iff_not]
      exact fun x => e (by rw [x])
    rw [this, Bool.or_false]
theorem vb_x (τ : xS) (a b : Nat) (v : Int32) (ha : a ≠ 59) (j : Nat) : vBit (xu τ a b v) j = vBit τ j := by unfold vBit; rw [xu_c _ _ _ _ (fun e => ha e.symm)]
theorem e_mMay {σ τ : xS} {B : Nat → Prop} {mn : Nat → Nat} {hd : Nat → Int32} {fs fw : Nat → Nat → Int32} {fv : Nat → Nat → Nat} {ua ub : Nat} {ex : Nat → Nat → Prop} {m : Nat} (hB : ∀ o, B o → o < 640) (hR : RV σ τ B mn hd fs fw fv ua ub ex m) {s v t w : Int32} {x y : Nat} (hx : s = 2 → s = t → B x ∧ B y ∧ v = nI x ∧ w = nI y ∧ ∀ Rel, bis B mn hd fs fw fv Rel → Rel ua ub → Rel x y) (Q : Int32 → xS → Prop)
    (hy : ∀ τ' m', RV σ τ' B mn hd fs fw fv ua ub ex m' → (∀ j, vBit τ j = true → vBit τ' j = true) → m' + cnt (fun k => vBit τ' k = false) 409600 = m + cnt (fun k => vBit τ k = false) 409600 → s = t → (s = 2 → vBit τ' (640 * x + y) = true) → (¬ s = 2 → v = w) → Q 1 τ') (hn : ¬ (s = t ∧ (¬ s = 2 → v = w)) → Q 0 τ) : p_Mod_mayBe s v t w τ Q := by
  unfold p_Mod_mayBe p_Mod_mayBe_J18
  by_cases es : s = t
  · by_cases e2 : s = 2
    · obtain ⟨bx, by', vx, wy, hRel⟩ := hx e2 es
      have x6 := hB x bx
      have y6 := hB y by'
      obtain ⟨R1, R2, R3, R4', R5, R6, R7⟩ := id hR
      obtain ⟨K, eK⟩ : ∃ K, 640 * x + y = K := ⟨_, rfl⟩
      have hK : K < 409600 := by omega
      have eM : K - K / 64 * 64 = K % 64 := by omega
      have eS : nI K - nI (K / 64 * 64) = nI (K % 64) := by rw [sub_nI (by omega), eM]
      have e64 : K / 64 < 6400 := by omega
      rw [← es, e2, vx, wy]
      simp (disch := omega) only [forall_eq, true_and, and_true, and_self, not_true_eq_false, not_false_eq_true, false_imp_iff, true_imp_iff, imp_self, implies_true, ne_eq, reduceIte, cl, cl0, cl1, cl2, vpn, vp0, le8, le16, le40, le640, le1400, le6400, lt8, lt16, le15, le2, nI_leI, nI_ltI, nI_eq, nI_1, nI_add, n_le0, n_lt0, n_0le, n_eq0, n_eq1, n_eq2, n_m1, n_m1r, Nat.reduceEqDiff, Nat.reduceAdd, Int32.add_zero, nI_pred, div16, mul15, mul40, mul16, mul640, mulr16, xu_s, xu_c, xu_k, xu_cc, rows_xu, xf_s, xf_c, rows_xf, xul_c, rows_xul, xul_L, lgc, eK, div64, mulr64, eS]
      have hbit := bt_get (xL (τ 59) (K / 64)) (j := K % 64) (by omega)
      constructor
      · intro hne
        have hv : vBit τ K = true := by
          unfold vBit
          rw [← Bool.not_eq_false]
          exact fun z => hne (hbit.mpr z)
        exact hy τ m hR (fun _ h => h) rfl es (fun _ => by rw [eK]; exact hv) (fun z => absurd e2 z)
      · intro he
        have hv : vBit τ K = false := hbit.mp he
        have vset : ∀ j, vBit (xu (xu (xul τ 59 (K / 64) (xL (τ 59) (K / 64) ||| 1 <<< ((nI (K % 64)).toInt64 &&& 63))) 60 m (nI K)) 31 31 (nI (m + 1))) j = (vBit τ j || decide (j = K)) := fun j => by
          rw [vb_x _ _ _ _ (by decide), vb_x _ _ _ _ (by decide), vb_set _ rfl]
        have hc : cnt (fun k => vBit (xu (xu (xul τ 59 (K / 64) (xL (τ 59) (K / 64) ||| 1 <<< ((nI (K % 64)).toInt64 &&& 63))) 60 m (nI K)) 31 31 (nI (m + 1))) k = false) 409600 + 1 = cnt (fun k => vBit τ k = false) 409600 := cnt_rem (k := K) (fun j _ => by
          rw [vset j]
          cases hj : vBit τ j with
          | true => simp
          | false => simp) hK hv
        have hm : m < 409600 := by omega
        simp (disch := omega) only [forall_eq, true_and, and_true, and_self, not_true_eq_false, not_false_eq_true, false_imp_iff, true_imp_iff, imp_self, implies_true, ne_eq, reduceIte, cl, cl0, cl1, cl2, vpn, vp0, le8, le16, le40, le640, le1400, le6400, lt8, lt16, le15, le2, nI_leI, nI_ltI, nI_eq, nI_1, nI_add, n_le0, n_lt0, n_0le, n_eq0, n_eq1, n_eq2, n_m1, n_m1r, Nat.reduceEqDiff, Nat.reduceAdd, Int32.add_zero, nI_pred, div16, mul15, mul40, mul16, mul640, mulr16, xu_s, xu_c, xu_k, xu_cc, rows_xu, xf_s, xf_c, rows_xf, xul_c, rows_xul, xul_L, lgc, R3]
        refine hy _ (m + 1) ⟨fun d d1 d2 d3 => ?_, fun k hk => ?_, ?_, fun j hj => ?_, by omega, fun o q ho hq hb Rel hbis hr => ?_, fun o q ho hq hb => ?_⟩ (fun j hj => by rw [vset j, hj]; rfl) (by omega) es (fun _ => by rw [vset, eK]; simp) (fun z => absurd e2 z)
        · simp (disch := omega) only [forall_eq, true_and, and_true, and_self, not_true_eq_false, not_false_eq_true, false_imp_iff, true_imp_iff, imp_self, implies_true, ne_eq, reduceIte, cl, cl0, cl1, cl2, vpn, vp0, le8, le16, le40, le640, le1400, le6400, lt8, lt16, le15, le2, nI_leI, nI_ltI, nI_eq, nI_1, nI_add, n_le0, n_lt0, n_0le, n_eq0, n_eq1, n_eq2, n_m1, n_m1r, Nat.reduceEqDiff, Nat.reduceAdd, Int32.add_zero, nI_pred, div16, mul15, mul40, mul16, mul640, mulr16, xu_s, xu_c, xu_k, xu_cc, rows_xu, xf_s, xf_c, rows_xf, xul_c, rows_xul, xul_L, lgc]; exact R1 d d1 d2 d3
        · simp (disch := omega) only [forall_eq, true_and, and_true, and_self, not_true_eq_false, not_false_eq_true, false_imp_iff, true_imp_iff, imp_self, implies_true, ne_eq, reduceIte, cl, cl0, cl1, cl2, vpn, vp0, le8, le16, le40, le640, le1400, le6400, lt8, lt16, le15, le2, nI_leI, nI_ltI, nI_eq, nI_1, nI_add, n_le0, n_lt0, n_0le, n_eq0, n_eq1, n_eq2, n_m1, n_m1r, Nat.reduceEqDiff, Nat.reduceAdd, Int32.add_zero, nI_pred, div16, mul15, mul40, mul16, mul640, mulr16, xu_s, xu_c, xu_k, xu_cc, rows_xu, xf_s, xf_c, rows_xf, xul_c, rows_xul, xul_L, lgc]; exact R2 k hk
        · simp (disch := omega) only [forall_eq, true_and, and_true, and_self, not_true_eq_false, not_false_eq_true, false_imp_iff, true_imp_iff, imp_self, implies_true, ne_eq, reduceIte, cl, cl0, cl1, cl2, vpn, vp0, le8, le16, le40, le640, le1400, le6400, lt8, lt16, le15, le2, nI_leI, nI_ltI, nI_eq, nI_1, nI_add, n_le0, n_lt0, n_0le, n_eq0, n_eq1, n_eq2, n_m1, n_m1r, Nat.reduceEqDiff, Nat.reduceAdd, Int32.add_zero, nI_pred, div16, mul15, mul40, mul16, mul640, mulr16, xu_s, xu_c, xu_k, xu_cc, rows_xu, xf_s, xf_c, rows_xf, xul_c, rows_xul, xul_L, lgc]
        · by_cases ej : j = m
          · refine ⟨x, y, bx, by', ?_, by rw [vset, eK]; simp⟩
            simp (disch := omega) only [forall_eq, true_and, and_true, and_self, not_true_eq_false, not_false_eq_true, false_imp_iff, true_imp_iff, imp_self, implies_true, ne_eq, reduceIte, cl, cl0, cl1, cl2, vpn, vp0, le8, le16, le40, le640, le1400, le6400, lt8, lt16, le15, le2, nI_leI, nI_ltI, nI_eq, nI_1, nI_add, n_le0, n_lt0, n_0le, n_eq0, n_eq1, n_eq2, n_m1, n_m1r, Nat.reduceEqDiff, Nat.reduceAdd, Int32.add_zero, nI_pred, div16, mul15, mul40, mul16, mul640, mulr16, xu_s, xu_c, xu_k, xu_cc, rows_xu, xf_s, xf_c, rows_xf, xul_c, rows_xul, xul_L, lgc]
            rw [ej, upd_s, eK]
          · obtain ⟨o, q, o1, o2, o3, o4⟩ := R4' j (by omega)
            refine ⟨o, q, o1, o2, ?_, by rw [vset, o4]; rfl⟩
            simp (disch := omega) only [forall_eq, true_and, and_true, and_self, not_true_eq_false, not_false_eq_true, false_imp_iff, true_imp_iff, imp_self, implies_true, ne_eq, reduceIte, cl, cl0, cl1, cl2, vpn, vp0, le8, le16, le40, le640, le1400, le6400, lt8, lt16, le15, le2, nI_leI, nI_ltI, nI_eq, nI_1, nI_add, n_le0, n_lt0, n_0le, n_eq0, n_eq1, n_eq2, n_m1, n_m1r, Nat.reduceEqDiff, Nat.reduceAdd, Int32.add_zero, nI_pred, div16, mul15, mul40, mul16, mul640, mulr16, xu_s, xu_c, xu_k, xu_cc, rows_xu, xf_s, xf_c, rows_xf, xul_c, rows_xul, xul_L, lgc]
            exact o3
        · rw [vset] at hb
          by_cases e : 640 * o + q = K
          · have q6 := hB q hq
            have eo : o = x ∧ q = y := by omega
            rw [eo.1, eo.2]; exact hRel Rel hbis hr
          · have : vBit τ (640 * o + q) = true := by
              rw [decide_eq_false e, Bool.or_false] at hb
              exact hb
            exact R6 o q ho hq this Rel hbis hr
        · rw [vset] at hb
          by_cases e : 640 * o + q = K
          · left
            refine ⟨m, by omega, ?_⟩
            simp (disch := omega) only [forall_eq, true_and, and_true, and_self, not_true_eq_false, not_false_eq_true, false_imp_iff, true_imp_iff, imp_self, implies_true, ne_eq, reduceIte, cl, cl0, cl1, cl2, vpn, vp0, le8, le16, le40, le640, le1400, le6400, lt8, lt16, le15, le2, nI_leI, nI_ltI, nI_eq, nI_1, nI_add, n_le0, n_lt0, n_0le, n_eq0, n_eq1, n_eq2, n_m1, n_m1r, Nat.reduceEqDiff, Nat.reduceAdd, Int32.add_zero, nI_pred, div16, mul15, mul40, mul16, mul640, mulr16, xu_s, xu_c, xu_k, xu_cc, rows_xu, xf_s, xf_c, rows_xf, xul_c, rows_xul, xul_L, lgc]
            exact e.symm
          · have hb' : vBit τ (640 * o + q) = true := by
              rw [decide_eq_false e, Bool.or_false] at hb
              exact hb
            rcases R7 o q ho hq hb' with ⟨j, j1, j2⟩ | h | h
            · left
              refine ⟨j, by omega, ?_⟩
              simp (disch := omega) only [forall_eq, true_and, and_true, and_self, not_true_eq_false, not_false_eq_true, false_imp_iff, true_imp_iff, imp_self, implies_true, ne_eq, reduceIte, cl, cl0, cl1, cl2, vpn, vp0, le8, le16, le40, le640, le1400, le6400, lt8, lt16, le15, le2, nI_leI, nI_ltI, nI_eq, nI_1, nI_add, n_le0, n_lt0, n_0le, n_eq0, n_eq1, n_eq2, n_m1, n_m1r, Nat.reduceEqDiff, Nat.reduceAdd, Int32.add_zero, nI_pred, div16, mul15, mul40, mul16, mul640, mulr16, xu_s, xu_c, xu_k, xu_cc, rows_xu, xf_s, xf_c, rows_xf, xul_c, rows_xul, xul_L, lgc]
              exact j2
            · exact Or.inr (Or.inl h)
            · refine Or.inr (Or.inr ⟨h.1, fun i hi => ⟨(h.2 i hi).1, fun z => ?_, (h.2 i hi).2.2⟩⟩)
              have := (h.2 i hi).2.1 z
              dsimp only at this ⊢
              rw [vset, this]; rfl
    · by_cases ev : v = w
      · have hh := hy τ m hR (fun _ h => h) rfl es (fun z => absurd z e2) (fun _ => ev)
        have e2' : ¬ t = 2 := by rw [← es]; exact e2
        simp (disch := omega) only [forall_eq, true_and, and_true, and_self, not_true_eq_false, not_false_eq_true, false_imp_iff, true_imp_iff, imp_self, implies_true, ne_eq, reduceIte, cl, cl0, cl1, cl2, vpn, vp0, le8, le16, le40, le640, le1400, le6400, lt8, lt16, le15, le2, nI_leI, nI_ltI, nI_eq, nI_1, nI_add, n_le0, n_lt0, n_0le, n_eq0, n_eq1, n_eq2, n_m1, n_m1r, Nat.reduceEqDiff, Nat.reduceAdd, Int32.add_zero, nI_pred, div16, mul15, mul40, mul16, mul640, mulr16, xu_s, xu_c, xu_k, xu_cc, rows_xu, xf_s, xf_c, rows_xf, xul_c, rows_xul, xul_L, lgc, es, e2', ev]
        exact hh
      · have hh := hn (fun z => ev (z.2 e2))
        have e2' : ¬ t = 2 := by rw [← es]; exact e2
        simp (disch := omega) only [forall_eq, true_and, and_true, and_self, not_true_eq_false, not_false_eq_true, false_imp_iff, true_imp_iff, imp_self, implies_true, ne_eq, reduceIte, cl, cl0, cl1, cl2, vpn, vp0, le8, le16, le40, le640, le1400, le6400, lt8, lt16, le15, le2, nI_leI, nI_ltI, nI_eq, nI_1, nI_add, n_le0, n_lt0, n_0le, n_eq0, n_eq1, n_eq2, n_m1, n_m1r, Nat.reduceEqDiff, Nat.reduceAdd, Int32.add_zero, nI_pred, div16, mul15, mul40, mul16, mul640, mulr16, xu_s, xu_c, xu_k, xu_cc, rows_xu, xf_s, xf_c, rows_xf, xul_c, rows_xul, xul_L, lgc, es, e2', ev]
        exact hh
  · have hh := hn (fun z => es z.1)
    simp (disch := omega) only [forall_eq, true_and, and_true, and_self, not_true_eq_false, not_false_eq_true, false_imp_iff, true_imp_iff, imp_self, implies_true, ne_eq, reduceIte, cl, cl0, cl1, cl2, vpn, vp0, le8, le16, le40, le640, le1400, le6400, lt8, lt16, le15, le2, nI_leI, nI_ltI, nI_eq, nI_1, nI_add, n_le0, n_lt0, n_0le, n_eq0, n_eq1, n_eq2, n_m1, n_m1r, Nat.reduceEqDiff, Nat.reduceAdd, Int32.add_zero, nI_pred, div16, mul15, mul40, mul16, mul640, mulr16, xu_s, xu_c, xu_k, xu_cc, rows_xu, xf_s, xf_c, rows_xf, xul_c, rows_xul, xul_L, lgc, es]
    exact hh
