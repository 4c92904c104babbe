def AI (σ τ : xS) (B : Nat → Prop) (pl mn : Nat → Nat) (hd : Nat → Int32) (fs fw : Nat → Nat → Int32) (fv : Nat → Nat → Nat) (ua ub : Nat) (lf rt : Nat → Nat) (k : Nat) (rp dp : Nat → Nat) : Prop :=
  (∀ d, d ≠ 14 → d ≠ 15 → d ≠ 16 → d ≠ 4 → τ d = σ d) ∧ UF (τ 14) rp dp k ∧ τ 4 4 = nI k ∧ (∀ j, j < k → B (lf j) ∧ B (rt j) ∧ hd (lf j) = hd (rt j) ∧ τ 15 j = nI (pl (lf j)) ∧ τ 16 j = nI (pl (rt j)) ∧ rp (pl (lf j)) = rp (pl (rt j))) ∧
  (∀ S : Nat → Nat → Prop, (∀ o, B o → S o o) → (∀ o q, S o q → S q o) → (∀ o q u, S o q → S q u → S o u) → (∀ j, j < k → S (lf j) (rt j)) → ∀ o q, B o → B q → rp (pl o) = rp (pl q) → S o q) ∧
  (∀ Rel, bis B mn hd fs fw fv Rel → Rel ua ub → ∀ j, j < k → Rel (lf j) (rt j))
def AX (B : Nat → Prop) (pl lf rt : Nat → Nat) (k : Nat) (rp lf' rt' : Nat → Nat) (k' : Nat) (rp' : Nat → Nat) : Prop := k ≤ k' ∧ (∀ j, j < k → lf' j = lf j ∧ rt' j = rt j) ∧ (∀ o q, B o → B q → rp (pl o) = rp (pl q) → rp' (pl o) = rp' (pl q))
theorem AX_r (B : Nat → Prop) (pl lf rt : Nat → Nat) (k : Nat) (rp : Nat → Nat) : AX B pl lf rt k rp lf rt k rp := ⟨Nat.le_refl _, fun _ _ => ⟨rfl, rfl⟩, fun _ _ _ _ h => h⟩
theorem AX_t {B : Nat → Prop} {pl a1 b1 a2 b2 a3 b3 r1 r2 r3 : Nat → Nat} {k1 k2 k3 : Nat} (h : AX B pl a1 b1 k1 r1 a2 b2 k2 r2) (h' : AX B pl a2 b2 k2 r2 a3 b3 k3 r3) : AX B pl a1 b1 k1 r1 a3 b3 k3 r3 :=
  ⟨Nat.le_trans h.1 h'.1, fun j hj => ⟨by rw [(h'.2.1 j (Nat.lt_of_lt_of_le hj h.1)).1, (h.2.1 j hj).1], by rw [(h'.2.1 j (Nat.lt_of_lt_of_le hj h.1)).2, (h.2.1 j hj).2]⟩, fun o q ho hq e => h'.2.2 o q ho hq (h.2.2 o q ho hq e)⟩
theorem UF_k {ld : Nat → Int32} {rp dp : Nat → Nat} {k : Nat} (h : UF ld rp dp k) : k < 640 := by
  obtain ⟨a, b, c⟩ := UF_root h (p := 0) (by omega)
  have : 1 ≤ cnt (fun p => ld p = nI p) 640 := by
    refine Classical.byContradiction (fun x => ?_)
    have x0 : cnt (fun p => ld p = nI p) 640 = 0 := by omega
    exact cnt_0 x0 _ a c
  have := h.2
  omega
theorem e_take {σ : xS} {A : Nat → Prop} {pl mn kd : Nat → Nat} {hd : Nat → Int32} {fs fc : Nat → Nat → Int32} {fv : Nat → Nat → Nat} (hV : Vw (σ 28) (σ 29) A pl mn kd hd fs fc fv) {fw : Nat → Nat → Int32} {τ : xS} {ua ub : Nat} {lf rt rp dp : Nat → Nat} {k o q : Nat} (hA : AI σ τ A pl mn hd fs fw fv ua ub lf rt k rp dp) (ho : A o) (hq : A q) (hR : ∀ Rel, bis A mn hd fs fw fv Rel → Rel ua ub → Rel o q) (Q : Int32 → xS → Prop)
    (hy : ∀ τ' lf' rt' k' rp' dp', AI σ τ' A pl mn hd fs fw fv ua ub lf' rt' k' rp' dp' → AX A pl lf rt k rp lf' rt' k' rp' → rp' (pl o) = rp' (pl q) → Q 1 τ') (hn : ∀ τ', (∀ d, d ≠ 14 → d ≠ 15 → d ≠ 16 → d ≠ 4 → τ' d = σ d) → (∀ Rel, bis A mn hd fs fw fv Rel → ¬ Rel ua ub) → Q 0 τ') : p_Lik_takeForAlike (nI (pl o)) (nI (pl q)) τ Q := by
  obtain ⟨a1, a2, a3, a4, a5, a6⟩ := hA
  have po := (Vw_o hV ho).1
  have pq := (Vw_o hV hq).1
  have hk := UF_k a2
  unfold p_Lik_takeForAlike
  have key := e_last (σ := τ) (ld := τ 14) a2 hk po (fun r2 σ1 => p_Lik_lastLeader (nI (pl q)) σ1 (fun r4 σ3 => ((¬ r2 = r4 → p_Hea_headOf (nI (pl o)) σ3 (fun r7 σ6 => p_Hea_headOf (nI (pl q)) σ6 (fun r9 σ8 => ((r7 = r9 → (vp_in r2 640 ∧ (vp_in ((xu σ8 14 r2.toNatClampNeg r4) 4 4) 640 ∧ (vp_in ((xu (xu σ8 14 r2.toNatClampNeg r4) 15 ((xu σ8 14 r2.toNatClampNeg r4) 4 4).toNatClampNeg (nI (pl o))) 4 4) 640 ∧ Q 1 (xu (xu (xu (xu σ8 14 r2.toNatClampNeg r4) 15 ((xu σ8 14 r2.toNatClampNeg r4) 4 4).toNatClampNeg (nI (pl o))) 16 ((xu (xu σ8 14 r2.toNatClampNeg r4) 15 ((xu σ8 14 r2.toNatClampNeg r4) 4 4).toNatClampNeg (nI (pl o))) 4 4).toNatClampNeg (nI (pl q))) 4 4 (((xu (xu (xu σ8 14 r2.toNatClampNeg r4) 15 ((xu σ8 14 r2.toNatClampNeg r4) 4 4).toNatClampNeg (nI (pl o))) 16 ((xu (xu σ8 14 r2.toNatClampNeg r4) 15 ((xu σ8 14 r2.toNatClampNeg r4) 4 4).toNatClampNeg (nI (pl o))) 4 4).toNatClampNeg (nI (pl q))) 4 4) + 1)))))) ∧ (¬ r7 = r9 → Q 0 σ8))))) ∧ (r2 = r4 → Q 1 σ3)))) (fun l1 u1 => by
    refine e_last (σ := τ) (ld := l1) u1 hk pq _ (fun l2 u2 => ?_)
    obtain ⟨R1, R2, R3⟩ := UF_root u2 po
    obtain ⟨R1', R2', R3'⟩ := UF_root u2 pq
    have fr : ∀ d, d ≠ 14 → d ≠ 15 → d ≠ 16 → d ≠ 4 → va_up τ 14 l2 d = σ d := fun d d1 d2 d3 d4 => by rw [xf_c _ _ _ d1]; exact a1 d d1 d2 d3 d4
    by_cases er : rp (pl o) = rp (pl q)
    · have hh := hy (va_up τ 14 l2) lf rt k rp dp ⟨fr, by rw [xf_s]; exact u2, by simp (disch := omega) only [forall_eq, true_and, and_true, and_self, not_true_eq_false, not_false_eq_true, false_imp_iff, true_imp_iff, imp_self, implies_true, ne_eq, reduceIte, cl, cl0, cl1, cl2, vpn, vp0, le8, le16, le40, le640, le1400, le6400, lt8, lt16, le15, le2, nI_leI, nI_ltI, nI_eq, nI_1, nI_add, n_le0, n_lt0, n_0le, n_eq0, n_eq1, n_eq2, n_m1, n_m1r, Nat.reduceEqDiff, Nat.reduceAdd, Int32.add_zero, nI_pred, div16, mul15, mul40, mul16, mul640, mulr16, xu_s, xu_c, xu_k, xu_cc, rows_xu, xf_s, xf_c, rows_xf, xul_c, rows_xul, xul_L, lgc]; exact a3, by simp (disch := omega) only [forall_eq, true_and, and_true, and_self, not_true_eq_false, not_false_eq_true, false_imp_iff, true_imp_iff, imp_self, implies_true, ne_eq, reduceIte, cl, cl0, cl1, cl2, vpn, vp0, le8, le16, le40, le640, le1400, le6400, lt8, lt16, le15, le2, nI_leI, nI_ltI, nI_eq, nI_1, nI_add, n_le0, n_lt0, n_0le, n_eq0, n_eq1, n_eq2, n_m1, n_m1r, Nat.reduceEqDiff, Nat.reduceAdd, Int32.add_zero, nI_pred, div16, mul15, mul40, mul16, mul640, mulr16, xu_s, xu_c, xu_k, xu_cc, rows_xu, xf_s, xf_c, rows_xf, xul_c, rows_xul, xul_L, lgc]; exact a4, a5, a6⟩ (AX_r _ _ _ _ _ _) er
      simp (disch := omega) only [forall_eq, true_and, and_true, and_self, not_true_eq_false, not_false_eq_true, false_imp_iff, true_imp_iff, imp_self, implies_true, ne_eq, reduceIte, cl, cl0, cl1, cl2, vpn, vp0, le8, le16, le40, le640, le1400, le6400, lt8, lt16, le15, le2, nI_leI, nI_ltI, nI_eq, nI_1, nI_add, n_le0, n_lt0, n_0le, n_eq0, n_eq1, n_eq2, n_m1, n_m1r, Nat.reduceEqDiff, Nat.reduceAdd, Int32.add_zero, nI_pred, div16, mul15, mul40, mul16, mul640, mulr16, xu_s, xu_c, xu_k, xu_cc, rows_xu, xf_s, xf_c, rows_xf, xul_c, rows_xul, xul_L, lgc, er]
      exact hh
    · have e29 : τ 29 = σ 29 := a1 29 (by decide) (by decide) (by decide) (by decide)
      have ho29 : σ 29 (pl o) = hd o := (hV.1.1 o ho).2
      have hq29 : σ 29 (pl q) = hd q := (hV.1.1 q hq).2
      unfold p_Hea_headOf
      by_cases eh : hd o = hd q
      · -- one class more
        have hk2 : k + 2 ≤ 640 := by
          have hc1 := cnt_rem (P := fun p => l2 p = nI p ∧ p ≠ rp (pl o)) (Q := fun p => l2 p = nI p) (n := 640) (k := rp (pl o)) (fun _ _ => Iff.rfl) R1 R3
          have hc2 : 1 ≤ cnt (fun p => l2 p = nI p ∧ p ≠ rp (pl o)) 640 := by
            refine Classical.byContradiction (fun x => ?_)
            have x0 : cnt (fun p => l2 p = nI p ∧ p ≠ rp (pl o)) 640 = 0 := by omega
            exact cnt_0 x0 _ R1' ⟨R3', fun e => er e.symm⟩
          have := u2.2
          omega
        have kk : k < 640 := by omega
        simp (disch := omega) only [forall_eq, true_and, and_true, and_self, not_true_eq_false, not_false_eq_true, false_imp_iff, true_imp_iff, imp_self, implies_true, ne_eq, reduceIte, cl, cl0, cl1, cl2, vpn, vp0, le8, le16, le40, le640, le1400, le6400, lt8, lt16, le15, le2, nI_leI, nI_ltI, nI_eq, nI_1, nI_add, n_le0, n_lt0, n_0le, n_eq0, n_eq1, n_eq2, n_m1, n_m1r, Nat.reduceEqDiff, Nat.reduceAdd, Int32.add_zero, nI_pred, div16, mul15, mul40, mul16, mul640, mulr16, xu_s, xu_c, xu_k, xu_cc, rows_xu, xf_s, xf_c, rows_xf, xul_c, rows_xul, xul_L, lgc, er, e29, ho29, hq29, eh, a3]
        refine hy _ (va_up lf k o) (va_up rt k q) (k + 1) (fun p => if rp p = rp (pl o) then rp (pl q) else rp p) (fun p => if rp p = rp (pl o) then dp p + 1 else dp p) ⟨fun d d1 d2 d3 d4 => ?_, ⟨fun p hp => ?_, ?_⟩, ?_, fun j hj => ?_, fun S s1 s2 s3 s4 x y hx hy' hxy => ?_, fun Rel hb hr j hj => ?_⟩ ⟨by omega, fun j hj => ⟨vu_n _ _ (by omega), vu_n _ _ (by omega)⟩, fun x y _ _ e => by dsimp only; rw [e]⟩ ?_
        · simp (disch := omega) only [forall_eq, true_and, and_true, and_self, not_true_eq_false, not_false_eq_true, false_imp_iff, true_imp_iff, imp_self, implies_true, ne_eq, reduceIte, cl, cl0, cl1, cl2, vpn, vp0, le8, le16, le40, le640, le1400, le6400, lt8, lt16, le15, le2, nI_leI, nI_ltI, nI_eq, nI_1, nI_add, n_le0, n_lt0, n_0le, n_eq0, n_eq1, n_eq2, n_m1, n_m1r, Nat.reduceEqDiff, Nat.reduceAdd, Int32.add_zero, nI_pred, div16, mul15, mul40, mul16, mul640, mulr16, xu_s, xu_c, xu_k, xu_cc, rows_xu, xf_s, xf_c, rows_xf, xul_c, rows_xul, xul_L, lgc]; exact a1 d d1 d2 d3 d4
        · simp (disch := omega) only [forall_eq, true_and, and_true, and_self, not_true_eq_false, not_false_eq_true, false_imp_iff, true_imp_iff, imp_self, implies_true, ne_eq, reduceIte, cl, cl0, cl1, cl2, vpn, vp0, le8, le16, le40, le640, le1400, le6400, lt8, lt16, le15, le2, nI_leI, nI_ltI, nI_eq, nI_1, nI_add, n_le0, n_lt0, n_0le, n_eq0, n_eq1, n_eq2, n_m1, n_m1r, Nat.reduceEqDiff, Nat.reduceAdd, Int32.add_zero, nI_pred, div16, mul15, mul40, mul16, mul640, mulr16, xu_s, xu_c, xu_k, xu_cc, rows_xu, xf_s, xf_c, rows_xf, xul_c, rows_xul, xul_L, lgc]
          obtain ⟨p', p1, p2, p3, p4, p5, p6, p7, p8⟩ := u2.1 p hp
          by_cases ep : p = rp (pl o)
          · -- the left leader
            have e1 : rp p = rp (pl o) := by rw [ep, R2]
            have d0 : dp p = 0 := by
              rw [ep] at p2 p4 ⊢
              rw [R3] at p2
              exact (p4 ((nI_eq (by omega) (by omega)).mp p2).symm).2
            have dr0 : dp (rp (pl q)) = 0 := by
              obtain ⟨z, z1, z2, z3, z4, _⟩ := u2.1 (rp (pl q)) R1'
              rw [R3'] at z2
              exact (z4 ((nI_eq (by omega) (by omega)).mp z2).symm).2
            have e2 : ¬ rp (rp (pl q)) = rp (pl o) := by rw [R2']; exact fun e => er e.symm
            refine ⟨rp (pl q), R1', by rw [ep, upd_s], ?_, fun e => ?_, fun _ => ?_, ?_, ?_, ?_⟩
            · rw [if_neg e2, if_pos e1, R2']
            · exfalso; rw [ep] at e; exact er e.symm
            · rw [if_neg e2, if_pos e1, dr0, d0]; omega
            · rw [if_pos e1, d0]; omega
            · rw [if_pos e1]; exact R1'
            · rw [if_pos e1, upd_n _ _ (fun e => er e.symm)]; exact R3'
          · rw [upd_n _ _ ep]
            by_cases e1 : rp p = rp (pl o)
            · have e1' : rp p' = rp (pl o) := by rw [p3]; exact e1
              refine ⟨p', p1, p2, by rw [if_pos e1, if_pos e1'], fun e => ?_, fun e => ?_, ?_, ?_, ?_⟩
              · exfalso; exact ep (by rw [← (p4 e).1]; exact e1)
              · rw [if_pos e1, if_pos e1']; have := p5 e; omega
              · rw [if_pos e1]; omega
              · rw [if_pos e1]; exact R1'
              · rw [if_pos e1, upd_n _ _ (fun e => er e.symm)]; exact R3'
            · have e1' : ¬ rp p' = rp (pl o) := by rw [p3]; exact e1
              refine ⟨p', p1, p2, by rw [if_neg e1, if_neg e1']; exact p3, fun e => ?_, fun e => ?_, ?_, ?_, ?_⟩
              · rw [if_neg e1, if_neg e1]; exact p4 e
              · rw [if_neg e1, if_neg e1']; exact p5 e
              · rw [if_neg e1]; omega
              · rw [if_neg e1]; exact p7
              · rw [if_neg e1, upd_n _ _ e1]; exact p8
        · simp (disch := omega) only [forall_eq, true_and, and_true, and_self, not_true_eq_false, not_false_eq_true, false_imp_iff, true_imp_iff, imp_self, implies_true, ne_eq, reduceIte, cl, cl0, cl1, cl2, vpn, vp0, le8, le16, le40, le640, le1400, le6400, lt8, lt16, le15, le2, nI_leI, nI_ltI, nI_eq, nI_1, nI_add, n_le0, n_lt0, n_0le, n_eq0, n_eq1, n_eq2, n_m1, n_m1r, Nat.reduceEqDiff, Nat.reduceAdd, Int32.add_zero, nI_pred, div16, mul15, mul40, mul16, mul640, mulr16, xu_s, xu_c, xu_k, xu_cc, rows_xu, xf_s, xf_c, rows_xf, xul_c, rows_xul, xul_L, lgc]
          have hc := cnt_rem (P := fun p => upd l2 (rp (pl o)) (nI (rp (pl q))) p = nI p) (Q := fun p => l2 p = nI p) (n := 640) (k := rp (pl o)) (fun p hp => by
            by_cases ep : p = rp (pl o)
            · rw [ep, upd_s, nI_eq (by omega) (by omega)]
              exact ⟨fun e => absurd e.symm er, fun e => absurd rfl e.2⟩
            · rw [upd_n _ _ ep]; exact ⟨fun e => ⟨e, ep⟩, fun e => e.1⟩) R1 R3
          have := u2.2
          omega
        · simp (disch := omega) only [forall_eq, true_and, and_true, and_self, not_true_eq_false, not_false_eq_true, false_imp_iff, true_imp_iff, imp_self, implies_true, ne_eq, reduceIte, cl, cl0, cl1, cl2, vpn, vp0, le8, le16, le40, le640, le1400, le6400, lt8, lt16, le15, le2, nI_leI, nI_ltI, nI_eq, nI_1, nI_add, n_le0, n_lt0, n_0le, n_eq0, n_eq1, n_eq2, n_m1, n_m1r, Nat.reduceEqDiff, Nat.reduceAdd, Int32.add_zero, nI_pred, div16, mul15, mul40, mul16, mul640, mulr16, xu_s, xu_c, xu_k, xu_cc, rows_xu, xf_s, xf_c, rows_xf, xul_c, rows_xul, xul_L, lgc]
        · simp (disch := omega) only [forall_eq, true_and, and_true, and_self, not_true_eq_false, not_false_eq_true, false_imp_iff, true_imp_iff, imp_self, implies_true, ne_eq, reduceIte, cl, cl0, cl1, cl2, vpn, vp0, le8, le16, le40, le640, le1400, le6400, lt8, lt16, le15, le2, nI_leI, nI_ltI, nI_eq, nI_1, nI_add, n_le0, n_lt0, n_0le, n_eq0, n_eq1, n_eq2, n_m1, n_m1r, Nat.reduceEqDiff, Nat.reduceAdd, Int32.add_zero, nI_pred, div16, mul15, mul40, mul16, mul640, mulr16, xu_s, xu_c, xu_k, xu_cc, rows_xu, xf_s, xf_c, rows_xf, xul_c, rows_xul, xul_L, lgc]
          by_cases ej : j = k
          · rw [ej, vu_s, vu_s, upd_s, upd_s, if_pos rfl]
            refine ⟨ho, hq, eh, rfl, rfl, ?_⟩
            rw [if_neg (fun e => er e.symm)]
          · obtain ⟨y1, y2, y3, y4, y5, y6⟩ := a4 j (by omega)
            rw [vu_n _ _ ej, vu_n _ _ ej, upd_n _ _ ej, upd_n _ _ ej]
            exact ⟨y1, y2, y3, y4, y5, by rw [y6]⟩
        · dsimp only at hxy
          have old := a5 S s1 s2 s3 (fun j hj => by
            have := s4 j (by omega)
            rw [vu_n _ _ (by omega), vu_n _ _ (by omega)] at this
            exact this)
          have soq : S o q := by
            have := s4 k (by omega)
            rw [vu_s, vu_s] at this
            exact this
          by_cases ex : rp (pl x) = rp (pl o)
          · rw [if_pos ex] at hxy
            by_cases ey : rp (pl y) = rp (pl o)
            · exact old x y hx hy' (by rw [ex, ey])
            · rw [if_neg ey] at hxy
              exact s3 _ _ _ (old x o hx ho ex) (s3 _ _ _ soq (old q y hq hy' hxy))
          · rw [if_neg ex] at hxy
            by_cases ey : rp (pl y) = rp (pl o)
            · rw [if_pos ey] at hxy
              exact s3 _ _ _ (old x q hx hq hxy) (s3 _ _ _ (s2 _ _ soq) (old o y ho hy' ey.symm))
            · rw [if_neg ey] at hxy
              exact old x y hx hy' hxy
        · by_cases ej : j = k
          · rw [ej, vu_s, vu_s]; exact hR Rel hb hr
          · rw [vu_n _ _ ej, vu_n _ _ ej]; exact a6 Rel hb hr j (by omega)
        · rw [if_pos rfl]
          rw [if_neg (fun e => er e.symm)]
      · have hh := hn (va_up τ 14 l2) fr (fun Rel hb hr => eh (hb o q (hR Rel hb hr)).2.2.1)
        simp (disch := omega) only [forall_eq, true_and, and_true, and_self, not_true_eq_false, not_false_eq_true, false_imp_iff, true_imp_iff, imp_self, implies_true, ne_eq, reduceIte, cl, cl0, cl1, cl2, vpn, vp0, le8, le16, le40, le640, le1400, le6400, lt8, lt16, le15, le2, nI_leI, nI_ltI, nI_eq, nI_1, nI_add, n_le0, n_lt0, n_0le, n_eq0, n_eq1, n_eq2, n_m1, n_m1r, Nat.reduceEqDiff, Nat.reduceAdd, Int32.add_zero, nI_pred, div16, mul15, mul40, mul16, mul640, mulr16, xu_s, xu_c, xu_k, xu_cc, rows_xu, xf_s, xf_c, rows_xf, xul_c, rows_xul, xul_L, lgc, er, e29, ho29, hq29, eh]
        exact hh)
  rw [xf_0] at key
  exact key
