def gZ (K l S V : Nat → Int32) (mn g : Nat → Nat) (r n : Nat) : Prop := iA K (n / 15) ∧ r ≤ g (n / 15) ∧ ¬ l (n / 15) = 0 ∧ K (n / 15) = 2 ∧ n % 15 < mn (n / 15) ∧ S (15 * (n / 15)) = 2 ∧ l ((V (15 * (n / 15))).toNatClampNeg) = 0
theorem e_mKeyed {σ : xS} {mn g : Nat → Nat} {r : Nat} (hr : r < 8) (hT : Rt (σ 40) (σ 42) (σ 43) (σ 46) (σ 47) mn g) (hm : ∀ o, iA (σ 40) o → σ 40 o = 2 → 0 < mn o) (Q : Int32 → xS → Prop) (h : p_Mod_forget (nI r) (va_up (va_up σ 46 (zc (gZ (σ 40) (σ 48) (σ 46) (σ 47) mn g r) (σ 46))) 47 (zc (gZ (σ 40) (σ 48) (σ 46) (σ 47) mn g r) (σ 47))) (fun σ8 => (∃ n, p_Mod_collectFrom_L176 Q n (nI r) 0 0 σ8))) : ∃ n, p_Mod_collectFrom_L64 Q n (nI r) 0 σ := by
  obtain ⟨Z, eZ⟩ : ∃ Z, gZ (σ 40) (σ 48) (σ 46) (σ 47) mn g r = Z := ⟨_, rfl⟩
  have hZ : ∀ n, Z n ↔ gZ (σ 40) (σ 48) (σ 46) (σ 47) mn g r n := fun n => by rw [eZ]
  rw [eZ] at h
  have key := lpF (fun f i => p_Mod_collectFrom_L64 Q f (nI r) (nI i) (va_up (va_up σ 46 (zc (fun n => n < 15 * i ∧ Z n) (σ 46))) 47 (zc (fun n => n < 15 * i ∧ Z n) (σ 47)))) 640 (by
    intro f o ho hk
    show b_Mod_collectFrom_L64 (p_Mod_collectFrom_L64 Q f) Q (nI r) (nI o) _
    unfold b_Mod_collectFrom_L64
    have l1' : ¬ 640 ≤ o := by omega
    have r1 : zc (fun n => n < 15 * o ∧ Z n) (σ 46) (15 * o) = σ 46 (15 * o) := zc_n (fun x => by omega)
    have r2 : zc (fun n => n < 15 * o ∧ Z n) (σ 47) (15 * o) = σ 47 (15 * o) := zc_n (fun x => by omega)
    have skip : (∀ i, i < 15 → ¬ Z (15 * o + i)) → ∃ n, p_Mod_collectFrom_L133 (p_Mod_collectFrom_L64 Q f) Q n (nI r) (nI o) 0 0 (va_up (va_up σ 46 (zc (fun n => n < 15 * o ∧ Z n) (σ 46))) 47 (zc (fun n => n < 15 * o ∧ Z n) (σ 47))) := fun hs => by
      refine ⟨1, ?_⟩
      show b_Mod_collectFrom_L133 (p_Mod_collectFrom_L64 Q f) (p_Mod_collectFrom_L133 (p_Mod_collectFrom_L64 Q f) Q 0) Q (nI r) (nI o) 0 0 _
      unfold b_Mod_collectFrom_L133
      simp (disch := omega) only [forall_eq, true_and, and_true, and_self, not_true_eq_false, not_false_eq_true, false_imp_iff, true_imp_iff, imp_self, implies_true, ne_eq, reduceIte, cl, cl0, cl1, cl2, vpn, vp0, le8, le16, le40, le640, le1400, le6400, lt8, lt16, le15, le2, nI_leI, nI_ltI, nI_eq, nI_1, nI_add, n_le0, n_lt0, n_0le, n_eq0, n_eq1, n_eq2, n_m1, n_m1r, Nat.reduceEqDiff, Nat.reduceAdd, Int32.add_zero, nI_pred, div16, mul15, mul40, mul16, mul640, mulr16, xu_s, xu_c, xu_k, xu_cc, rows_xu, xf_s, xf_c, rows_xf, xul_c, rows_xul, xul_L, lgc]
      have e : ∀ n, (n < 15 * o ∧ Z n) ↔ (n < 15 * (o + 1) ∧ Z n) := fun n => ⟨fun x => ⟨by omega, x.2⟩, fun x => ⟨by
        have : ¬ (15 * o ≤ n) := fun y => by
          have := hs (n - 15 * o) (by omega)
          rw [show 15 * o + (n - 15 * o) = n by omega] at this
          exact this x.2
        omega, x.2⟩⟩
      rw [zc_iff e, zc_iff e]; exact hk
    have nz : ∀ i, i < 15 → Z (15 * o + i) → iA (σ 40) o ∧ r ≤ g o ∧ ¬ σ 48 o = 0 ∧ σ 40 o = 2 ∧ σ 46 (15 * o) = 2 ∧ σ 48 ((σ 47 (15 * o)).toNatClampNeg) = 0 := fun i hi hz => by
      obtain ⟨d1, d2⟩ := d15 (o := o) hi
      rw [hZ] at hz
      unfold gZ at hz
      rw [d1] at hz
      exact ⟨hz.1, hz.2.1, hz.2.2.1, hz.2.2.2.1, hz.2.2.2.2.2.1, hz.2.2.2.2.2.2⟩
    simp (disch := omega) only [forall_eq, true_and, and_true, and_self, not_true_eq_false, not_false_eq_true, false_imp_iff, true_imp_iff, imp_self, implies_true, ne_eq, reduceIte, cl, cl0, cl1, cl2, vpn, vp0, le8, le16, le40, le640, le1400, le6400, lt8, lt16, le15, le2, nI_leI, nI_ltI, nI_eq, nI_1, nI_add, n_le0, n_lt0, n_0le, n_eq0, n_eq1, n_eq2, n_m1, n_m1r, Nat.reduceEqDiff, Nat.reduceAdd, Int32.add_zero, nI_pred, div16, mul15, mul40, mul16, mul640, mulr16, xu_s, xu_c, xu_k, xu_cc, rows_xu, xf_s, xf_c, rows_xf, xul_c, rows_xul, xul_L, lgc, l1']
    refine e_young hT (by simp (disch := omega) only [forall_eq, true_and, and_true, and_self, not_true_eq_false, not_false_eq_true, false_imp_iff, true_imp_iff, imp_self, implies_true, ne_eq, reduceIte, cl, cl0, cl1, cl2, vpn, vp0, le8, le16, le40, le640, le1400, le6400, lt8, lt16, le15, le2, nI_leI, nI_ltI, nI_eq, nI_1, nI_add, n_le0, n_lt0, n_0le, n_eq0, n_eq1, n_eq2, n_m1, n_m1r, Nat.reduceEqDiff, Nat.reduceAdd, Int32.add_zero, nI_pred, div16, mul15, mul40, mul16, mul640, mulr16, xu_s, xu_c, xu_k, xu_cc, rows_xu, xf_s, xf_c, rows_xf, xul_c, rows_xul, xul_L, lgc]) (by simp (disch := omega) only [forall_eq, true_and, and_true, and_self, not_true_eq_false, not_false_eq_true, false_imp_iff, true_imp_iff, imp_self, implies_true, ne_eq, reduceIte, cl, cl0, cl1, cl2, vpn, vp0, le8, le16, le40, le640, le1400, le6400, lt8, lt16, le15, le2, nI_leI, nI_ltI, nI_eq, nI_1, nI_add, n_le0, n_lt0, n_0le, n_eq0, n_eq1, n_eq2, n_m1, n_m1r, Nat.reduceEqDiff, Nat.reduceAdd, Int32.add_zero, nI_pred, div16, mul15, mul40, mul16, mul640, mulr16, xu_s, xu_c, xu_k, xu_cc, rows_xu, xf_s, xf_c, rows_xf, xul_c, rows_xul, xul_L, lgc]) ho hr _ (fun y1 y2 => ?_) (fun y => ?_)
    · by_cases hl : σ 48 o = 0
      · simp (disch := omega) only [forall_eq, true_and, and_true, and_self, not_true_eq_false, not_false_eq_true, false_imp_iff, true_imp_iff, imp_self, implies_true, ne_eq, reduceIte, cl, cl0, cl1, cl2, vpn, vp0, le8, le16, le40, le640, le1400, le6400, lt8, lt16, le15, le2, nI_leI, nI_ltI, nI_eq, nI_1, nI_add, n_le0, n_lt0, n_0le, n_eq0, n_eq1, n_eq2, n_m1, n_m1r, Nat.reduceEqDiff, Nat.reduceAdd, Int32.add_zero, nI_pred, div16, mul15, mul40, mul16, mul640, mulr16, xu_s, xu_c, xu_k, xu_cc, rows_xu, xf_s, xf_c, rows_xf, xul_c, rows_xul, xul_L, lgc, n10, hl]
        exact skip (fun i hi hz => (nz i hi hz).2.2.1 hl)
      · by_cases h2 : σ 40 o = 2
        · obtain ⟨t1, t2, t3, t4, t5⟩ := hT o y1
          have hm0 := hm o y1 h2
          unfold p_Mod_isLive
          by_cases e2 : σ 46 (15 * o) = 2
          · obtain ⟨u, u1, u2⟩ := t5 0 hm0 e2
            rw [Nat.add_zero] at u2
            by_cases hlu : σ 48 u = 0
            · simp (disch := omega) only [forall_eq, true_and, and_true, and_self, not_true_eq_false, not_false_eq_true, false_imp_iff, true_imp_iff, imp_self, implies_true, ne_eq, reduceIte, cl, cl0, cl1, cl2, vpn, vp0, le8, le16, le40, le640, le1400, le6400, lt8, lt16, le15, le2, nI_leI, nI_ltI, nI_eq, nI_1, nI_add, n_le0, n_lt0, n_0le, n_eq0, n_eq1, n_eq2, n_m1, n_m1r, Nat.reduceEqDiff, Nat.reduceAdd, Int32.add_zero, nI_pred, div16, mul15, mul40, mul16, mul640, mulr16, xu_s, xu_c, xu_k, xu_cc, rows_xu, xf_s, xf_c, rows_xf, xul_c, rows_xul, xul_L, lgc, n10, hl, h2, r1, r2, e2, u2, hlu]
              have hz : ∀ i, i < mn o → Z (15 * o + i) := fun i hi => by
                obtain ⟨d1, d2⟩ := d15 (o := o) (show i < 15 by omega)
                rw [hZ]
                unfold gZ
                rw [d1, d2]
                exact ⟨y1, y2, hl, h2, hi, e2, by rw [u2, cl (by omega)]; exact hlu⟩
              refine lpF (fun f' i => p_Mod_collectFrom_L133 (p_Mod_collectFrom_L64 Q f) Q f' (nI r) (nI o) 1 (nI i) (va_up (va_up σ 46 (zc (fun n => n < 15 * o + i ∧ Z n) (σ 46))) 47 (zc (fun n => n < 15 * o + i ∧ Z n) (σ 47)))) (mn o) ?_ ?_
              · intro f' i hi hk'
                show b_Mod_collectFrom_L133 (p_Mod_collectFrom_L64 Q f) (p_Mod_collectFrom_L133 (p_Mod_collectFrom_L64 Q f) Q f') Q (nI r) (nI o) 1 (nI i) _
                unfold b_Mod_collectFrom_L133 p_Mod_empty
                have l2' : ¬ mn o ≤ i := by omega
                have e : ∀ n, (n < 15 * o + (i + 1) ∧ Z n) ↔ (n < 15 * o + i ∧ Z n) ∨ n = 15 * o + i := fun n => ⟨fun x => by
                  by_cases y : n = 15 * o + i
                  · exact Or.inr y
                  · exact Or.inl ⟨by omega, x.2⟩, fun x => x.elim (fun y => ⟨by omega, y.2⟩) (fun y => ⟨by omega, y ▸ hz i hi⟩)⟩
                rw [← zc_u e, ← zc_u e] at hk'
                simp (disch := omega) only [forall_eq, true_and, and_true, and_self, not_true_eq_false, not_false_eq_true, false_imp_iff, true_imp_iff, imp_self, implies_true, ne_eq, reduceIte, cl, cl0, cl1, cl2, vpn, vp0, le8, le16, le40, le640, le1400, le6400, lt8, lt16, le15, le2, nI_leI, nI_ltI, nI_eq, nI_1, nI_add, n_le0, n_lt0, n_0le, n_eq0, n_eq1, n_eq2, n_m1, n_m1r, Nat.reduceEqDiff, Nat.reduceAdd, Int32.add_zero, nI_pred, div16, mul15, mul40, mul16, mul640, mulr16, xu_s, xu_c, xu_k, xu_cc, rows_xu, xf_s, xf_c, rows_xf, xul_c, rows_xul, xul_L, lgc, n10, t1, l2', up2_s, xu_xf]
                exact hk'
              · intro f'
                show b_Mod_collectFrom_L133 (p_Mod_collectFrom_L64 Q f) (p_Mod_collectFrom_L133 (p_Mod_collectFrom_L64 Q f) Q f') Q (nI r) (nI o) 1 (nI (mn o)) _
                unfold b_Mod_collectFrom_L133
                simp (disch := omega) only [forall_eq, true_and, and_true, and_self, not_true_eq_false, not_false_eq_true, false_imp_iff, true_imp_iff, imp_self, implies_true, ne_eq, reduceIte, cl, cl0, cl1, cl2, vpn, vp0, le8, le16, le40, le640, le1400, le6400, lt8, lt16, le15, le2, nI_leI, nI_ltI, nI_eq, nI_1, nI_add, n_le0, n_lt0, n_0le, n_eq0, n_eq1, n_eq2, n_m1, n_m1r, Nat.reduceEqDiff, Nat.reduceAdd, Int32.add_zero, nI_pred, div16, mul15, mul40, mul16, mul640, mulr16, xu_s, xu_c, xu_k, xu_cc, rows_xu, xf_s, xf_c, rows_xf, xul_c, rows_xul, xul_L, lgc, n10, t1, Nat.le_refl]
                have e : ∀ n, (n < 15 * o + mn o ∧ Z n) ↔ (n < 15 * (o + 1) ∧ Z n) := fun n => ⟨fun x => ⟨by omega, x.2⟩, fun x => ⟨by
                  by_cases y : 15 * o ≤ n
                  · have z := x.2
                    rw [hZ] at z
                    unfold gZ at z
                    have : n / 15 = o := by omega
                    rw [this] at z
                    omega
                  · omega, x.2⟩⟩
                rw [zc_iff e, zc_iff e]; exact hk
            · simp (disch := omega) only [forall_eq, true_and, and_true, and_self, not_true_eq_false, not_false_eq_true, false_imp_iff, true_imp_iff, imp_self, implies_true, ne_eq, reduceIte, cl, cl0, cl1, cl2, vpn, vp0, le8, le16, le40, le640, le1400, le6400, lt8, lt16, le15, le2, nI_leI, nI_ltI, nI_eq, nI_1, nI_add, n_le0, n_lt0, n_0le, n_eq0, n_eq1, n_eq2, n_m1, n_m1r, Nat.reduceEqDiff, Nat.reduceAdd, Int32.add_zero, nI_pred, div16, mul15, mul40, mul16, mul640, mulr16, xu_s, xu_c, xu_k, xu_cc, rows_xu, xf_s, xf_c, rows_xf, xul_c, rows_xul, xul_L, lgc, n10, hl, h2, r1, r2, e2, u2, hlu]
              refine skip (fun i hi hz => hlu ?_)
              have := (nz i hi hz).2.2.2.2.2
              rw [u2, cl (by omega)] at this
              exact this
          · simp (disch := omega) only [forall_eq, true_and, and_true, and_self, not_true_eq_false, not_false_eq_true, false_imp_iff, true_imp_iff, imp_self, implies_true, ne_eq, reduceIte, cl, cl0, cl1, cl2, vpn, vp0, le8, le16, le40, le640, le1400, le6400, lt8, lt16, le15, le2, nI_leI, nI_ltI, nI_eq, nI_1, nI_add, n_le0, n_lt0, n_0le, n_eq0, n_eq1, n_eq2, n_m1, n_m1r, Nat.reduceEqDiff, Nat.reduceAdd, Int32.add_zero, nI_pred, div16, mul15, mul40, mul16, mul640, mulr16, xu_s, xu_c, xu_k, xu_cc, rows_xu, xf_s, xf_c, rows_xf, xul_c, rows_xul, xul_L, lgc, n10, hl, h2, r1, e2]
            exact skip (fun i hi hz => e2 (nz i hi hz).2.2.2.2.1)
        · simp (disch := omega) only [forall_eq, true_and, and_true, and_self, not_true_eq_false, not_false_eq_true, false_imp_iff, true_imp_iff, imp_self, implies_true, ne_eq, reduceIte, cl, cl0, cl1, cl2, vpn, vp0, le8, le16, le40, le640, le1400, le6400, lt8, lt16, le15, le2, nI_leI, nI_ltI, nI_eq, nI_1, nI_add, n_le0, n_lt0, n_0le, n_eq0, n_eq1, n_eq2, n_m1, n_m1r, Nat.reduceEqDiff, Nat.reduceAdd, Int32.add_zero, nI_pred, div16, mul15, mul40, mul16, mul640, mulr16, xu_s, xu_c, xu_k, xu_cc, rows_xu, xf_s, xf_c, rows_xf, xul_c, rows_xul, xul_L, lgc, n10, hl, h2]
          exact skip (fun i hi hz => h2 (nz i hi hz).2.2.2.1)
    · simp (disch := omega) only [forall_eq, true_and, and_true, and_self, not_true_eq_false, not_false_eq_true, false_imp_iff, true_imp_iff, imp_self, implies_true, ne_eq, reduceIte, cl, cl0, cl1, cl2, vpn, vp0, le8, le16, le40, le640, le1400, le6400, lt8, lt16, le15, le2, nI_leI, nI_ltI, nI_eq, nI_1, nI_add, n_le0, n_lt0, n_0le, n_eq0, n_eq1, n_eq2, n_m1, n_m1r, Nat.reduceEqDiff, Nat.reduceAdd, Int32.add_zero, nI_pred, div16, mul15, mul40, mul16, mul640, mulr16, xu_s, xu_c, xu_k, xu_cc, rows_xu, xf_s, xf_c, rows_xf, xul_c, rows_xul, xul_L, lgc]
      exact skip (fun i hi hz => y ⟨(nz i hi hz).1, (nz i hi hz).2.1⟩)) (by
    intro f
    show b_Mod_collectFrom_L64 (p_Mod_collectFrom_L64 Q f) Q (nI r) (nI 640) _
    unfold b_Mod_collectFrom_L64
    simp (disch := omega) only [forall_eq, true_and, and_true, and_self, not_true_eq_false, not_false_eq_true, false_imp_iff, true_imp_iff, imp_self, implies_true, ne_eq, reduceIte, cl, cl0, cl1, cl2, vpn, vp0, le8, le16, le40, le640, le1400, le6400, lt8, lt16, le15, le2, nI_leI, nI_ltI, nI_eq, nI_1, nI_add, n_le0, n_lt0, n_0le, n_eq0, n_eq1, n_eq2, n_m1, n_m1r, Nat.reduceEqDiff, Nat.reduceAdd, Int32.add_zero, nI_pred, div16, mul15, mul40, mul16, mul640, mulr16, xu_s, xu_c, xu_k, xu_cc, rows_xu, xf_s, xf_c, rows_xf, xul_c, rows_xul, xul_L, lgc, Nat.le_refl]
    have e : ∀ n, (n < 15 * 640 ∧ Z n) ↔ Z n := fun n => ⟨fun x => x.2, fun x => ⟨by
      have := x
      rw [hZ] at this
      have := this.1.1
      omega, x⟩⟩
    rw [zc_iff e, zc_iff e]; exact h)
  have e0 : ∀ f : Nat → Int32, zc (fun n => n < 15 * 0 ∧ Z n) f = f := fun f => by funext n; exact zc_n (fun x => by omega)
  rw [e0, e0, up2_0] at key
  exact key
def FdR (K M S V : Nat → Int32) (mn kd : Nat → Nat) (fs : Nat → Nat → Int32) (fv : Nat → Nat → Nat) : Prop := ∀ o, iA K o → M o = nI (mn o) ∧ mn o < 16 ∧ K o = nI (kd o) ∧ kd o < 3 ∧ (kd o = 2 → 0 < mn o) ∧ ∀ i, i < mn o → S (15 * o + i) = fs o i ∧ (fs o i = 2 → V (15 * o + i) = nI (fv o i) ∧ iA K (fv o i))
def sb (K l : Nat → Int32) (LL : Nat → Prop) : Prop := ∀ o, o < 640 → l o = 0 ∨ l o = 1 ∧ iA K o ∧ LL o
def cls1 (kd mn : Nat → Nat) (fs : Nat → Nat → Int32) (fv : Nat → Nat → Nat) (l : Nat → Int32) (o m : Nat) : Prop := l o = 1 → ∀ i, i < m → fs o i = 2 → hol kd fs fv (fun q => l q = 1) o i → l (fv o i) = 1
theorem e_find1 {σ : xS} {mn kd : Nat → Nat} {fs : Nat → Nat → Int32} {fv : Nat → Nat → Nat} {Sd : Nat → Prop} (hF : FdR (σ 40) (σ 42) (σ 46) (σ 47) mn kd fs fv) (K112 : Int32 → xS → Prop) (K120 : Int32 → Int32 → xS → Prop) (Q : xS → Prop) {l : Nat → Int32} {o : Nat} (ho : o < 640) (hl : sb (σ 40) l (Lv (iA (σ 40)) Sd kd mn fs fv)) (x : Int32)
    (h : ∀ (l' : Nat → Int32) (y : Int32), sb (σ 40) l' (Lv (iA (σ 40)) Sd kd mn fs fv) → (∀ q, l q = 1 → l' q = 1) → ((y = x ∧ l' = l ∧ (iA (σ 40) o → cls1 kd mn fs fv l o (mn o))) ∨ (y = 1 ∧ cnt (fun p => l' p = 0) 640 + 1 ≤ cnt (fun p => l p = 0) 640)) → K120 y (nI (o + 1)) (va_up σ 48 l')) :
    ∃ n, p_Mod_findLive_L130 K112 K120 Q n x (nI o) 0 (va_up σ 48 l) := by
  by_cases hlo : iA (σ 40) o ∧ l o = 1
  · obtain ⟨hA, hlo⟩ := hlo
    obtain ⟨t1, t2, t3, t4, t5, t6⟩ := hF o hA
    refine lpS (S := Int32 × (Nat → Int32)) (fun g i s => p_Mod_findLive_L130 K112 K120 Q g s.1 (nI o) (nI i) (va_up σ 48 s.2)) (fun i s => sb (σ 40) s.2 (Lv (iA (σ 40)) Sd kd mn fs fv) ∧ (∀ q, l q = 1 → s.2 q = 1) ∧ ((s.1 = x ∧ s.2 = l ∧ cls1 kd mn fs fv l o i) ∨ (s.1 = 1 ∧ cnt (fun p => s.2 p = 0) 640 + 1 ≤ cnt (fun p => l p = 0) 640))) (mn o) ?_ ?_ (s := (x, l)) ⟨hl, fun _ h => h, Or.inl ⟨rfl, rfl, fun _ i hi => by omega⟩⟩
    · rintro g i ⟨y, l1⟩ hi ⟨i1, i2, i3⟩ hk
      dsimp only at i1 i2 i3 hk ⊢
      show b_Mod_findLive_L130 K112 K120 (p_Mod_findLive_L130 K112 K120 Q g) Q y (nI o) (nI i) _
      unfold b_Mod_findLive_L130
      have l1o := i2 o hlo
      have l2' : ¬ mn o ≤ i := by omega
      obtain ⟨s1, s2⟩ := t6 i hi
      have hLo : Lv (iA (σ 40)) Sd kd mn fs fv o := by
        rcases i1 o ho with e | e
        · rw [e] at l1o; exact absurd l1o n01
        · exact e.2.2
      have go : (fs o i = 2 → hol kd fs fv (fun q => l1 q = 1) o i → l1 (fv o i) = 1) → p_Mod_findLive_L130 K112 K120 Q g y (nI o) (nI (i + 1)) (va_up σ 48 l1) := fun hc => by
        refine hk (y, l1) ⟨i1, i2, i3.imp (fun z => ⟨z.1, z.2.1, fun zl j hj h2 hh => ?_⟩) id⟩
        by_cases ej : j = i
        · rw [ej] at h2 hh ⊢
          rw [← z.2.1] at hh ⊢
          exact hc h2 hh
        · exact z.2.2 zl j (by omega) h2 hh
      by_cases e2 : fs o i = 2
      · obtain ⟨v1, v2⟩ := s2 e2
        have v6 := v2.1
        rcases i1 (fv o i) v6 with e0 | ⟨e1, _⟩
        · -- not marked yet
          have mark : hol kd fs fv (fun q => l1 q = 1) o i → p_Mod_findLive_L130 K112 K120 Q g 1 (nI o) (nI (i + 1)) (va_up σ 48 (upd l1 (fv o i) 1)) := fun hh => by
            have hc : cnt (fun p => upd l1 (fv o i) 1 p = 0) 640 + 1 ≤ cnt (fun p => l1 p = 0) 640 := cnt_lt (k := fv o i) (fun j _ hj => by
              by_cases ej : j = fv o i
              · rw [ej]; exact e0
              · rw [upd_n _ _ ej] at hj; exact hj) v6 e0 (by rw [upd_s]; exact n10)
            refine hk (1, upd l1 (fv o i) 1) ⟨fun q hq => ?_, fun q hq => ?_, Or.inr ⟨rfl, ?_⟩⟩
            · by_cases eq : q = fv o i
              · right
                rw [eq]
                dsimp only
                rw [upd_s]
                refine ⟨rfl, v2, Lv_clo o i hA hLo hi e2 ?_⟩
                rcases hh with a | ⟨a, b, c⟩
                · exact Or.inl a
                · refine Or.inr ⟨a, b, fun e0' => ?_⟩
                  rcases i1 (fv o 0) ((t6 0 (by omega)).2 e0').2.1 with z | z
                  · have this : l1 (fv o 0) = 1 := c e0'; rw [z] at this; exact absurd this n01
                  · exact z.2.2
              · dsimp only; rw [upd_n _ _ eq]; exact i1 q hq
            · by_cases eq : q = fv o i
              · dsimp only; rw [eq, upd_s]
              · dsimp only; rw [upd_n _ _ eq]; exact i2 q hq
            · dsimp only
              rcases i3 with z | z
              · rw [z.2.1] at hc; rw [z.2.1]; exact hc
              · omega
          unfold p_Mod_holds p_Mod_isLive
          rcases (show kd o = 0 ∨ kd o = 1 ∨ kd o = 2 by omega) with k0 | k1 | k2
          · rw [k0] at t3
            have t3' : σ 40 o = 0 := t3
            have ne : ¬ (0 : Int32) = -1 := by decide
            simp (disch := omega) only [forall_eq, true_and, and_true, and_self, not_true_eq_false, not_false_eq_true, false_imp_iff, true_imp_iff, imp_self, implies_true, ne_eq, reduceIte, cl, cl0, cl1, cl2, vpn, vp0, le8, le16, le40, le640, le1400, le6400, lt8, lt16, le15, le2, nI_leI, nI_ltI, nI_eq, nI_1, nI_add, n_le0, n_lt0, n_0le, n_eq0, n_eq1, n_eq2, n_m1, n_m1r, Nat.reduceEqDiff, Nat.reduceAdd, Int32.add_zero, nI_pred, div16, mul15, mul40, mul16, mul640, mulr16, xu_s, xu_c, xu_k, xu_cc, rows_xu, xf_s, xf_c, rows_xf, xul_c, rows_xul, xul_L, lgc, t3', ne, l1o, n10, t1, l2', s1, e2, v1, e0, nar1, xu_xf]
            exact mark (Or.inl k0)
          · rw [k1] at t3
            have t3' : σ 40 o = 1 := t3
            have ne : ¬ (1 : Int32) = -1 := by decide
            simp (disch := omega) only [forall_eq, true_and, and_true, and_self, not_true_eq_false, not_false_eq_true, false_imp_iff, true_imp_iff, imp_self, implies_true, ne_eq, reduceIte, cl, cl0, cl1, cl2, vpn, vp0, le8, le16, le40, le640, le1400, le6400, lt8, lt16, le15, le2, nI_leI, nI_ltI, nI_eq, nI_1, nI_add, n_le0, n_lt0, n_0le, n_eq0, n_eq1, n_eq2, n_m1, n_m1r, Nat.reduceEqDiff, Nat.reduceAdd, Int32.add_zero, nI_pred, div16, mul15, mul40, mul16, mul640, mulr16, xu_s, xu_c, xu_k, xu_cc, rows_xu, xf_s, xf_c, rows_xf, xul_c, rows_xul, xul_L, lgc, t3', ne, l1o, n10, n12, t1, l2', s1, e2, v1, e0]
            exact go (fun _ hh => by rcases hh with a | a <;> omega)
          · rw [k2] at t3
            have t3' : σ 40 o = 2 := t3
            have ne : ¬ (2 : Int32) = -1 := by decide
            rcases Nat.eq_zero_or_pos i with i0 | i0
            · subst i0
              have v6' : fv o 0 < 640 := v6
              simp (disch := omega) only [forall_eq, true_and, and_true, and_self, not_true_eq_false, not_false_eq_true, false_imp_iff, true_imp_iff, imp_self, implies_true, ne_eq, reduceIte, cl, cl0, cl1, cl2, vpn, vp0, le8, le16, le40, le640, le1400, le6400, lt8, lt16, le15, le2, nI_leI, nI_ltI, nI_eq, nI_1, nI_add, n_le0, n_lt0, n_0le, n_eq0, n_eq1, n_eq2, n_m1, n_m1r, Nat.reduceEqDiff, Nat.reduceAdd, Int32.add_zero, nI_pred, div16, mul15, mul40, mul16, mul640, mulr16, xu_s, xu_c, xu_k, xu_cc, rows_xu, xf_s, xf_c, rows_xf, xul_c, rows_xul, xul_L, lgc, t3', ne, l1o, n10, n20, t1, l2', s1, e2, v1, e0]
              exact go (fun _ hh => by rcases hh with a | a <;> omega)
            · have inz : ¬ i = 0 := by omega
              obtain ⟨q1, q2⟩ := t6 0 (t5 k2)
              rw [Nat.add_zero] at q1 q2
              by_cases e00 : fs o 0 = 2
              · obtain ⟨w1, w2⟩ := q2 e00
                have w6 := w2.1
                rcases i1 (fv o 0) w6 with z0 | ⟨z1, _⟩
                · simp (disch := omega) only [forall_eq, true_and, and_true, and_self, not_true_eq_false, not_false_eq_true, false_imp_iff, true_imp_iff, imp_self, implies_true, ne_eq, reduceIte, cl, cl0, cl1, cl2, vpn, vp0, le8, le16, le40, le640, le1400, le6400, lt8, lt16, le15, le2, nI_leI, nI_ltI, nI_eq, nI_1, nI_add, n_le0, n_lt0, n_0le, n_eq0, n_eq1, n_eq2, n_m1, n_m1r, Nat.reduceEqDiff, Nat.reduceAdd, Int32.add_zero, nI_pred, div16, mul15, mul40, mul16, mul640, mulr16, xu_s, xu_c, xu_k, xu_cc, rows_xu, xf_s, xf_c, rows_xf, xul_c, rows_xul, xul_L, lgc, t3', ne, l1o, n10, n20, t1, l2', s1, e2, v1, e0, inz, q1, e00, w1, z0]
                  exact go (fun _ hh => by
                    rcases hh with a | ⟨a, b, c⟩
                    · omega
                    · have this : l1 (fv o 0) = 1 := c e00; rw [z0] at this; exact absurd this n01)
                · simp (disch := omega) only [forall_eq, true_and, and_true, and_self, not_true_eq_false, not_false_eq_true, false_imp_iff, true_imp_iff, imp_self, implies_true, ne_eq, reduceIte, cl, cl0, cl1, cl2, vpn, vp0, le8, le16, le40, le640, le1400, le6400, lt8, lt16, le15, le2, nI_leI, nI_ltI, nI_eq, nI_1, nI_add, n_le0, n_lt0, n_0le, n_eq0, n_eq1, n_eq2, n_m1, n_m1r, Nat.reduceEqDiff, Nat.reduceAdd, Int32.add_zero, nI_pred, div16, mul15, mul40, mul16, mul640, mulr16, xu_s, xu_c, xu_k, xu_cc, rows_xu, xf_s, xf_c, rows_xf, xul_c, rows_xul, xul_L, lgc, t3', ne, l1o, n10, n20, t1, l2', s1, e2, v1, e0, inz, q1, e00, w1, z1, nar1, xu_xf]
                  exact mark (Or.inr ⟨k2, i0, fun _ => z1⟩)
              · simp (disch := omega) only [forall_eq, true_and, and_true, and_self, not_true_eq_false, not_false_eq_true, false_imp_iff, true_imp_iff, imp_self, implies_true, ne_eq, reduceIte, cl, cl0, cl1, cl2, vpn, vp0, le8, le16, le40, le640, le1400, le6400, lt8, lt16, le15, le2, nI_leI, nI_ltI, nI_eq, nI_1, nI_add, n_le0, n_lt0, n_0le, n_eq0, n_eq1, n_eq2, n_m1, n_m1r, Nat.reduceEqDiff, Nat.reduceAdd, Int32.add_zero, nI_pred, div16, mul15, mul40, mul16, mul640, mulr16, xu_s, xu_c, xu_k, xu_cc, rows_xu, xf_s, xf_c, rows_xf, xul_c, rows_xul, xul_L, lgc, t3', ne, l1o, n10, n20, t1, l2', s1, e2, v1, e0, inz, q1, e00, nar1, xu_xf]
                exact mark (Or.inr ⟨k2, i0, fun z => absurd z e00⟩)
        · simp (disch := omega) only [forall_eq, true_and, and_true, and_self, not_true_eq_false, not_false_eq_true, false_imp_iff, true_imp_iff, imp_self, implies_true, ne_eq, reduceIte, cl, cl0, cl1, cl2, vpn, vp0, le8, le16, le40, le640, le1400, le6400, lt8, lt16, le15, le2, nI_leI, nI_ltI, nI_eq, nI_1, nI_add, n_le0, n_lt0, n_0le, n_eq0, n_eq1, n_eq2, n_m1, n_m1r, Nat.reduceEqDiff, Nat.reduceAdd, Int32.add_zero, nI_pred, div16, mul15, mul40, mul16, mul640, mulr16, xu_s, xu_c, xu_k, xu_cc, rows_xu, xf_s, xf_c, rows_xf, xul_c, rows_xul, xul_L, lgc, hA.2, l1o, n10, t1, l2', s1, e2, v1, e1]
          exact go (fun _ _ => e1)
      · simp (disch := omega) only [forall_eq, true_and, and_true, and_self, not_true_eq_false, not_false_eq_true, false_imp_iff, true_imp_iff, imp_self, implies_true, ne_eq, reduceIte, cl, cl0, cl1, cl2, vpn, vp0, le8, le16, le40, le640, le1400, le6400, lt8, lt16, le15, le2, nI_leI, nI_ltI, nI_eq, nI_1, nI_add, n_le0, n_lt0, n_0le, n_eq0, n_eq1, n_eq2, n_m1, n_m1r, Nat.reduceEqDiff, Nat.reduceAdd, Int32.add_zero, nI_pred, div16, mul15, mul40, mul16, mul640, mulr16, xu_s, xu_c, xu_k, xu_cc, rows_xu, xf_s, xf_c, rows_xf, xul_c, rows_xul, xul_L, lgc, hA.2, l1o, n10, t1, l2', s1, e2]
        exact go (fun z => absurd z e2)
    · rintro g ⟨y, l1⟩ ⟨i1, i2, i3⟩
      dsimp only at i1 i2 i3 ⊢
      show b_Mod_findLive_L130 K112 K120 (p_Mod_findLive_L130 K112 K120 Q g) Q y (nI o) (nI (mn o)) _
      unfold b_Mod_findLive_L130
      have l1o := i2 o hlo
      simp (disch := omega) only [forall_eq, true_and, and_true, and_self, not_true_eq_false, not_false_eq_true, false_imp_iff, true_imp_iff, imp_self, implies_true, ne_eq, reduceIte, cl, cl0, cl1, cl2, vpn, vp0, le8, le16, le40, le640, le1400, le6400, lt8, lt16, le15, le2, nI_leI, nI_ltI, nI_eq, nI_1, nI_add, n_le0, n_lt0, n_0le, n_eq0, n_eq1, n_eq2, n_m1, n_m1r, Nat.reduceEqDiff, Nat.reduceAdd, Int32.add_zero, nI_pred, div16, mul15, mul40, mul16, mul640, mulr16, xu_s, xu_c, xu_k, xu_cc, rows_xu, xf_s, xf_c, rows_xf, xul_c, rows_xul, xul_L, lgc, hA.2, l1o, n10, t1, Nat.le_refl]
      exact h l1 y i1 i2 (i3.imp (fun z => ⟨z.1, z.2.1, fun _ => z.2.2⟩) id)
  · refine ⟨1, ?_⟩
    show b_Mod_findLive_L130 K112 K120 (p_Mod_findLive_L130 K112 K120 Q 0) Q x (nI o) (nI 0) _
    unfold b_Mod_findLive_L130
    have hh := h l x hl (fun _ h => h) (Or.inl ⟨rfl, rfl, fun a b => absurd ⟨a, b⟩ hlo⟩)
    by_cases e : σ 40 o = -1
    · simp (disch := omega) only [forall_eq, true_and, and_true, and_self, not_true_eq_false, not_false_eq_true, false_imp_iff, true_imp_iff, imp_self, implies_true, ne_eq, reduceIte, cl, cl0, cl1, cl2, vpn, vp0, le8, le16, le40, le640, le1400, le6400, lt8, lt16, le15, le2, nI_leI, nI_ltI, nI_eq, nI_1, nI_add, n_le0, n_lt0, n_0le, n_eq0, n_eq1, n_eq2, n_m1, n_m1r, Nat.reduceEqDiff, Nat.reduceAdd, Int32.add_zero, nI_pred, div16, mul15, mul40, mul16, mul640, mulr16, xu_s, xu_c, xu_k, xu_cc, rows_xu, xf_s, xf_c, rows_xf, xul_c, rows_xul, xul_L, lgc, e]
      exact hh
    · rcases hl o ho with e0 | e1
      · simp (disch := omega) only [forall_eq, true_and, and_true, and_self, not_true_eq_false, not_false_eq_true, false_imp_iff, true_imp_iff, imp_self, implies_true, ne_eq, reduceIte, cl, cl0, cl1, cl2, vpn, vp0, le8, le16, le40, le640, le1400, le6400, lt8, lt16, le15, le2, nI_leI, nI_ltI, nI_eq, nI_1, nI_add, n_le0, n_lt0, n_0le, n_eq0, n_eq1, n_eq2, n_m1, n_m1r, Nat.reduceEqDiff, Nat.reduceAdd, Int32.add_zero, nI_pred, div16, mul15, mul40, mul16, mul640, mulr16, xu_s, xu_c, xu_k, xu_cc, rows_xu, xf_s, xf_c, rows_xf, xul_c, rows_xul, xul_L, lgc, e, e0]
        exact hh
      · exact absurd ⟨e1.2.1, e1.1⟩ hlo
