theorem r4_d (ρ : xS) (r : Nat) (dd : Nat → Nat) (N : Nat) {d : Nat} (h : d ≠ 46 ∧ d ≠ 47) : r4 ρ r dd N d = r2 ρ r dd N d := by
  unfold r4
  rw [clr_d _ _ h]
  unfold r3
  rw [clr_d _ _ h]
theorem r2_d (ρ : xS) (r : Nat) (dd : Nat → Nat) (N : Nat) {d : Nat} (h : d ≠ 45 ∧ d ≠ 56 ∧ d ≠ 31 ∧ d ≠ 46 ∧ d ≠ 47) : r2 ρ r dd N d = ρ d := by
  unfold r2
  rw [dus_d _ _ _ _ ⟨h.1, h.2.1, h.2.2.1⟩]
  unfold r1
  rw [clr_d _ _ h.2.2.2]
theorem r2_31 (ρ : xS) (r : Nat) (dd : Nat → Nat) (N : Nat) {k : Nat} (h : k ≠ 19) : r2 ρ r dd N 31 k = ρ 31 k := by
  unfold r2 dus
  rw [xu_k _ _ _ _ h, xf_c _ _ _ (by decide), xf_c _ _ _ (by decide)]
  unfold r1
  rw [clr_d _ _ (by decide)]
theorem colC {t : Nat} {σ ρ : xS} {r : Nat} {w : Nat → Nat} {wn : Nat} (ht : t < 100000) (hI : Inv2 t σ ρ) (hr : r < rN ρ) (hW : DW σ ρ w wn) (Q : Int32 → xS → Prop)
    (h : ∀ σ', Inv2 t σ' (r7 ρ r (ddW ρ r w wn) (nnW ρ r w wn)) → (∀ d, (d = 30 ∨ d = 31 ∨ 40 ≤ d) → σ' d = σ d) → Q (nI (g7 ρ r (ddW ρ r w wn) (nnW ρ r w wn))) σ') : p_Col_run (nI r) σ Q := by
  have hG := Inv2_Gd ht hI
  have hD := DW_DD (r := r) ht hI hW
  have hR8 : rN ρ ≤ 8 := hI.1.2.2.2.2.2.1.2.1
  refine colC1 ht hI (by omega) hW Q (fun σ1 hS => ?_)
  obtain ⟨dd, edd⟩ : ∃ dd, ddW ρ r w wn = dd := ⟨_, rfl⟩
  obtain ⟨N, eN⟩ : ∃ N, nnW ρ r w wn = N := ⟨_, rfl⟩
  unfold St at hS
  rw [edd, eN] at hD h hS
  obtain ⟨S1, S2, S3, ⟨S4, S5, S6⟩, ⟨S7, S8⟩, S9⟩ := hS
  obtain ⟨d1, d2, d3, d4, d5⟩ := id hW
  have hH := RH_of ht hI hD
  have hG2 := Gd_r2 hG hD
  have hG4 : Gd (r4 ρ r dd N) := Gd_clr (Gd_clr hG2 _) _
  obtain ⟨p1, p2, p3, p4, p5, p6⟩ := P7_at ht hI hD hr
  have hA : ∀ o, L2 ρ r dd N o → oB ρ o := fun o ho => L_A hG2 ho
  obtain ⟨⟨h1, h2, h3, h4, h5, h6, h7, h8, h9⟩, c1, c2, c3, c4, c5, c6, c7⟩ := id hI
  have n30 : ∀ d, d ≠ 26 ∧ d ≠ 27 ∧ d ≠ 11 ∧ d ≠ 28 ∧ d ≠ 29 ∧ d ≠ 24 ∧ d ≠ 8 ∧ d ≠ 25 ∧ d ≠ 9 ∧ d ≠ 10 → σ1 d = σ d := fun d x => S9 d x.1 x.2.1 x.2.2.1 x.2.2.2.1 x.2.2.2.2.1 x.2.2.2.2.2.1 x.2.2.2.2.2.2.1 x.2.2.2.2.2.2.2.1 x.2.2.2.2.2.2.2.2.1 x.2.2.2.2.2.2.2.2.2
  have hR : ρ 31 13 = nI (rN ρ) := h6.1
  refine e_regsC (A := L2 ρ r dd N) (B := oB ρ) (mn := oM ρ) (g := oG ρ) (ro := rr ρ) (m := mm ρ) (R := rN ρ) (pl := oP ρ) (hd := oH ρ) (fs := oS (r4 ρ r dd N)) (fc := oC (r4 ρ r dd N)) hH (by omega) hR8 (by rw [n30 7 (by decide), c3.1]; exact hR) (fun q hq => ?_) (fun o ho => ?_) S2 S1 (fun o ho => S3 _ (by have := (hG.1 o (hA o ho)).2.2.1.2; omega)) _ Q (fun τ hC => ?_)
  · obtain ⟨a, b, c⟩ := c3.2 q hq
    refine ⟨(h6.2.2 q hq).1.2, ?_, fun k hk => ?_⟩
    · rw [n30 22 (by decide), a]; exact (h6.2.2 q hq).1.1
    · have e := c k hk
      rw [rows_in σ (show q < 8 by omega)] at e
      rw [n30 (32 + q) (by omega), e]
      exact ⟨((h6.2.2 q hq).2.2.2.1 k hk).1, (p6 q k hq hk).1⟩
  · obtain ⟨⟨_, _, _, a4, _⟩, _, ⟨_, a6⟩, _, a7, _⟩ := hG.1 o ho
    exact ⟨ho.1, a6, a4, a7, fun i hi => (hG4.2.1 o i ho hi).1⟩
  obtain ⟨C1, C2, C3, C4, C5, C6, ⟨gd, C7, C7'⟩, C8, C9⟩ := hC
  change ∀ o, _ → τ 10 (oP ρ o) = nI (P7 ρ r dd N o) at C2
  have f8 : ∀ d, d ≠ 28 ∧ d ≠ 29 ∧ d ≠ 10 ∧ d ≠ 22 ∧ d ≠ 23 ∧ d ≠ 2 ∧ d ≠ 20 → τ d = σ1 d := fun d x => C8 d x.1 x.2.1 x.2.2.1 x.2.2.2.1 x.2.2.2.2.1 x.2.2.2.2.2.1 x.2.2.2.2.2.2
  have aset : ∀ o, (oB ρ o ∧ (L2 ρ r dd N o ∨ r + (rN ρ - r) ≤ oG ρ o)) ↔ L2 ρ r dd N o := fun o => ⟨fun x => x.2.elim id (fun y => by have := (hH.2.1 o x.1).1; omega), fun x => ⟨hA o x, Or.inl x⟩⟩
  have C1' : HeapR (τ 28) (τ 29) (L2 ρ r dd N) (P7 ρ r dd N) (oM ρ) (oH ρ) (oS (r4 ρ r dd N)) (oC (r4 ρ r dd N)) := HeapR_A C1 aset
  have egd : gd = g7 ρ r dd N := by
    have e : cnt (fun o => (oB ρ o ∧ (L2 ρ r dd N o ∨ r + (rN ρ - r) ≤ oG ρ o)) ∧ ¬ L2 ρ r dd N o) 640 = 0 := cnt_none (fun o _ x => x.2 ((aset o).mp x.1))
    rw [e, Nat.add_zero] at C7'
    unfold g7
    exact C7'
  have live : ∀ o i, L2 ρ r dd N o → i < oM ρ o → oS (r4 ρ r dd N) o i = 2 → L2 ρ r dd N (oV (r4 ρ r dd N) o i) ∧ oC (r4 ρ r dd N) o i = nI (oP ρ (oV (r4 ρ r dd N) o i)) := fun o i ho hi e2 => by
    have hl := r4_live hG hD ho hi e2
    refine ⟨hl, ?_⟩
    have e' : r4 ρ r dd N 46 (15 * o + i) = 2 := e2
    show tr (ρ 44) (r4 ρ r dd N 46 (15 * o + i)) (r4 ρ r dd N 47 (15 * o + i)) = _
    rw [e', tr_2]
    exact (hG.1 _ (hA _ hl)).2.2.1.1
  have lroot : ∀ k, k < 16 → ρ 54 k = 2 → L2 ρ r dd N (oR ρ k) ∧ σ 18 k = nI (oP ρ (oR ρ k)) := fun k hk e => by
    have b := (hG.2.2.1 k hk e).2
    refine ⟨Lv_sd (Or.inr (Or.inl ⟨k, hk, e, rfl⟩)), ?_⟩
    rw [(c2 k hk).2, e, tr_2]
    exact (hG.1 _ b).2.2.1.1
  have pl6 : ∀ o, L2 ρ r dd N o → oP ρ o < 640 := fun o ho => by have := (hG.1 o (hA o ho)).2.2.1.2; omega
  have p44 : ∀ o, oB ρ o → ρ 44 o = nI (oP ρ o) := fun o ho => (hG.1 o ho).2.2.1.1
  have lq : ∀ k, k < oN ρ + N → L2 ρ r dd N (oQ (r2 ρ r dd N) k) ∧ τ 24 k = nI (oP ρ (oQ (r2 ρ r dd N) k)) := fun k hk => by
    have hl : L2 ρ r dd N (oQ (r2 ρ r dd N) k) := Lv_sd (Or.inr (Or.inr ⟨k, by rw [oN_r2 hD]; exact hk, rfl⟩))
    refine ⟨hl, ?_⟩
    rw [f8 24 (by decide), ← p44 _ (hA _ hl)]
    by_cases x : k < oN ρ
    · rw [S5 k x, c4.2 k x]
      unfold oQ
      rw [(r2_Q (ρ := ρ) (r := r) (dd := dd) (N := N)).1 k x]
    · obtain ⟨j, rfl⟩ : ∃ j, k = oN ρ + j := ⟨k - oN ρ, by omega⟩
      rw [S6 j (by omega)]
      unfold oQ
      rw [(r2_Q (ρ := ρ) (r := r) (dd := dd) (N := N)).2 j (by omega), cl (by have := (hD.1 j (by omega)).1.1; omega)]
  have lw : ∀ k, k < cnt (fun k => L_ ρ r (w k)) wn → L_ ρ r (w (sel (fun k => L_ ρ r (w k)) wn k)) ∧ L2 ρ r dd N (w (sel (fun k => L_ ρ r (w k)) wn k)) ∧ τ 25 k = nI (oP ρ (w (sel (fun k => L_ ρ r (w k)) wn k))) := fun k hk => by
    have s := sel_in (K := fun k => L_ ρ r (w k)) wn k hk
    refine ⟨s.2, L12 hG hD s.2, ?_⟩
    rw [f8 25 (by decide), S8 k hk]
    exact p44 _ (d3 _ s.1).1
  have hwn := cnt_le (fun k => L_ ρ r (w k)) wn
  refine e_followAll (n := oN ρ + N) (wn := cnt (fun k => L_ ρ r (w k)) wn) (fun k hk e => ?_) (fun k hk e => ?_) (by rw [f8 8 (by decide)]; exact S4) hD.2.2.2 (fun k hk => ⟨_, pl6 _ (lq k hk).1, (lq k hk).2⟩) (by rw [f8 9 (by decide)]; exact S7) (by omega) (fun k hk => ⟨_, pl6 _ (lw k hk).2.1, (lw k hk).2.2⟩) _ ?_
  · rw [f8 17 (by decide), n30 17 (by decide), (c2 k hk).1] at e
    obtain ⟨a, b⟩ := lroot k hk e
    exact ⟨_, pl6 _ a, by rw [f8 18 (by decide), n30 18 (by decide)]; exact b⟩
  · obtain ⟨o, i, o1, o2, o3, o4, o5⟩ := HeapR_2 C1' hk e
    obtain ⟨a, b⟩ := live o i o1 o2 o4
    exact ⟨_, pl6 _ a, by rw [o5]; exact b⟩
  have e2 : τ 2 3 = σ 2 3 + nI gd := by rw [C7, n30 2 (by decide)]
  simp (disch := omega) only [forall_eq, true_and, and_true, and_self, not_true_eq_false, not_false_eq_true, false_imp_iff, true_imp_iff, imp_self, implies_true, ne_eq, reduceIte, cl, cl0, cl1, cl2, vpn, vp0, le8, le16, le40, le640, le1400, le6400, lt8, lt16, le15, le2, nI_leI, nI_ltI, nI_eq, nI_1, nI_add, n_le0, n_lt0, n_0le, n_eq0, n_eq1, n_eq2, n_m1, n_m1r, Nat.reduceEqDiff, Nat.reduceAdd, Int32.add_zero, nI_pred, div16, mul15, mul40, mul16, mul640, mulr16, xu_s, xu_c, xu_k, xu_cc, rows_xu, xf_s, xf_c, rows_xf, xul_c, rows_xul, xul_L, lgc, e2]
  have eret : σ 2 3 + nI gd - σ 2 3 = nI gd := by rw [Int32.add_comm, Int32.add_sub_cancel]
  rw [eret, egd]
  refine h _ ?_ (fun d hd => ?_)
  · have hOw : ∀ p, (fr7 ρ r dd N p → τ 20 p = -1) ∧ (¬ fr7 ρ r dd N p → τ 20 p = σ 20 p) := fun p => by
      have := C5 p
      rw [n30 20 (by decide)] at this
      exact this
    obtain ⟨t1, t2, t3, t4, t5, t6, t7, t8⟩ := r7_Ref ht hI hD hr hOw
    have z40 : r7 ρ r dd N 40 = K7 ρ r dd N := by unfold r7; simp (disch := omega) only [forall_eq, true_and, and_true, and_self, not_true_eq_false, not_false_eq_true, false_imp_iff, true_imp_iff, imp_self, implies_true, ne_eq, reduceIte, cl, cl0, cl1, cl2, vpn, vp0, le8, le16, le40, le640, le1400, le6400, lt8, lt16, le15, le2, nI_leI, nI_ltI, nI_eq, nI_1, nI_add, n_le0, n_lt0, n_0le, n_eq0, n_eq1, n_eq2, n_m1, n_m1r, Nat.reduceEqDiff, Nat.reduceAdd, Int32.add_zero, nI_pred, div16, mul15, mul40, mul16, mul640, mulr16, xu_s, xu_c, xu_k, xu_cc, rows_xu, xf_s, xf_c, rows_xf, xul_c, rows_xul, xul_L, lgc]
    have z44 : r7 ρ r dd N 44 = f44 ρ r dd N := by unfold r7; simp (disch := omega) only [forall_eq, true_and, and_true, and_self, not_true_eq_false, not_false_eq_true, false_imp_iff, true_imp_iff, imp_self, implies_true, ne_eq, reduceIte, cl, cl0, cl1, cl2, vpn, vp0, le8, le16, le40, le640, le1400, le6400, lt8, lt16, le15, le2, nI_leI, nI_ltI, nI_eq, nI_1, nI_add, n_le0, n_lt0, n_0le, n_eq0, n_eq1, n_eq2, n_m1, n_m1r, Nat.reduceEqDiff, Nat.reduceAdd, Int32.add_zero, nI_pred, div16, mul15, mul40, mul16, mul640, mulr16, xu_s, xu_c, xu_k, xu_cc, rows_xu, xf_s, xf_c, rows_xf, xul_c, rows_xul, xul_L, lgc]
    have z49 : r7 ρ r dd N 49 = f49 ρ r dd N := by unfold r7; simp (disch := omega) only [forall_eq, true_and, and_true, and_self, not_true_eq_false, not_false_eq_true, false_imp_iff, true_imp_iff, imp_self, implies_true, ne_eq, reduceIte, cl, cl0, cl1, cl2, vpn, vp0, le8, le16, le40, le640, le1400, le6400, lt8, lt16, le15, le2, nI_leI, nI_ltI, nI_eq, nI_1, nI_add, n_le0, n_lt0, n_0le, n_eq0, n_eq1, n_eq2, n_m1, n_m1r, Nat.reduceEqDiff, Nat.reduceAdd, Int32.add_zero, nI_pred, div16, mul15, mul40, mul16, mul640, mulr16, xu_s, xu_c, xu_k, xu_cc, rows_xu, xf_s, xf_c, rows_xf, xul_c, rows_xul, xul_L, lgc]
    have z50 : r7 ρ r dd N 50 = f50 ρ r dd N := by unfold r7; simp (disch := omega) only [forall_eq, true_and, and_true, and_self, not_true_eq_false, not_false_eq_true, false_imp_iff, true_imp_iff, imp_self, implies_true, ne_eq, reduceIte, cl, cl0, cl1, cl2, vpn, vp0, le8, le16, le40, le640, le1400, le6400, lt8, lt16, le15, le2, nI_leI, nI_ltI, nI_eq, nI_1, nI_add, n_le0, n_lt0, n_0le, n_eq0, n_eq1, n_eq2, n_m1, n_m1r, Nat.reduceEqDiff, Nat.reduceAdd, Int32.add_zero, nI_pred, div16, mul15, mul40, mul16, mul640, mulr16, xu_s, xu_c, xu_k, xu_cc, rows_xu, xf_s, xf_c, rows_xf, xul_c, rows_xul, xul_L, lgc]
    have z51 : r7 ρ r dd N 51 = f51 ρ r dd N := by unfold r7; simp (disch := omega) only [forall_eq, true_and, and_true, and_self, not_true_eq_false, not_false_eq_true, false_imp_iff, true_imp_iff, imp_self, implies_true, ne_eq, reduceIte, cl, cl0, cl1, cl2, vpn, vp0, le8, le16, le40, le640, le1400, le6400, lt8, lt16, le15, le2, nI_leI, nI_ltI, nI_eq, nI_1, nI_add, n_le0, n_lt0, n_0le, n_eq0, n_eq1, n_eq2, n_m1, n_m1r, Nat.reduceEqDiff, Nat.reduceAdd, Int32.add_zero, nI_pred, div16, mul15, mul40, mul16, mul640, mulr16, xu_s, xu_c, xu_k, xu_cc, rows_xu, xf_s, xf_c, rows_xf, xul_c, rows_xul, xul_L, lgc]
    have z53 : r7 ρ r dd N 53 = f53 ρ r dd N := by unfold r7; simp (disch := omega) only [forall_eq, true_and, and_true, and_self, not_true_eq_false, not_false_eq_true, false_imp_iff, true_imp_iff, imp_self, implies_true, ne_eq, reduceIte, cl, cl0, cl1, cl2, vpn, vp0, le8, le16, le40, le640, le1400, le6400, lt8, lt16, le15, le2, nI_leI, nI_ltI, nI_eq, nI_1, nI_add, n_le0, n_lt0, n_0le, n_eq0, n_eq1, n_eq2, n_m1, n_m1r, Nat.reduceEqDiff, Nat.reduceAdd, Int32.add_zero, nI_pred, div16, mul15, mul40, mul16, mul640, mulr16, xu_s, xu_c, xu_k, xu_cc, rows_xu, xf_s, xf_c, rows_xf, xul_c, rows_xul, xul_L, lgc]
    have z31 : r7 ρ r dd N 31 = f31 ρ r dd N := by unfold r7; simp (disch := omega) only [forall_eq, true_and, and_true, and_self, not_true_eq_false, not_false_eq_true, false_imp_iff, true_imp_iff, imp_self, implies_true, ne_eq, reduceIte, cl, cl0, cl1, cl2, vpn, vp0, le8, le16, le40, le640, le1400, le6400, lt8, lt16, le15, le2, nI_leI, nI_ltI, nI_eq, nI_1, nI_add, n_le0, n_lt0, n_0le, n_eq0, n_eq1, n_eq2, n_m1, n_m1r, Nat.reduceEqDiff, Nat.reduceAdd, Int32.add_zero, nI_pred, div16, mul15, mul40, mul16, mul640, mulr16, xu_s, xu_c, xu_k, xu_cc, rows_xu, xf_s, xf_c, rows_xf, xul_c, rows_xul, xul_L, lgc]
    have z : ∀ d, d ≠ 40 → d ≠ 44 → d ≠ 49 → d ≠ 50 → d ≠ 51 → d ≠ 53 → d ≠ 31 → r7 ρ r dd N d = r4 ρ r dd N d := fun d x1 x2 x3 x4 x5 x6 x7 => by
      unfold r7
      rw [xf_c _ _ _ x7, xf_c _ _ _ x6, xf_c _ _ _ x5, xf_c _ _ _ x4, xf_c _ _ _ x3, xf_c _ _ _ x2, xf_c _ _ _ x1]
    have z41 : r7 ρ r dd N 41 = ρ 41 := by rw [z 41 (by decide) (by decide) (by decide) (by decide) (by decide) (by decide) (by decide), r4_d _ _ _ _ (by decide), r2_d _ _ _ _ (by decide)]
    have z42 : r7 ρ r dd N 42 = ρ 42 := by rw [z 42 (by decide) (by decide) (by decide) (by decide) (by decide) (by decide) (by decide), r4_d _ _ _ _ (by decide), r2_d _ _ _ _ (by decide)]
    have z43 : r7 ρ r dd N 43 = ρ 43 := by rw [z 43 (by decide) (by decide) (by decide) (by decide) (by decide) (by decide) (by decide), r4_d _ _ _ _ (by decide), r2_d _ _ _ _ (by decide)]
    have z45 : r7 ρ r dd N 45 = r2 ρ r dd N 45 := by rw [z 45 (by decide) (by decide) (by decide) (by decide) (by decide) (by decide) (by decide), r4_d _ _ _ _ (by decide)]
    have z46 : r7 ρ r dd N 46 = r4 ρ r dd N 46 := z 46 (by decide) (by decide) (by decide) (by decide) (by decide) (by decide) (by decide)
    have z47 : r7 ρ r dd N 47 = r4 ρ r dd N 47 := z 47 (by decide) (by decide) (by decide) (by decide) (by decide) (by decide) (by decide)
    have z52 : r7 ρ r dd N 52 = ρ 52 := by rw [z 52 (by decide) (by decide) (by decide) (by decide) (by decide) (by decide) (by decide), r4_d _ _ _ _ (by decide), r2_d _ _ _ _ (by decide)]
    have z54 : r7 ρ r dd N 54 = ρ 54 := by rw [z 54 (by decide) (by decide) (by decide) (by decide) (by decide) (by decide) (by decide), r4_d _ _ _ _ (by decide), r2_d _ _ _ _ (by decide)]
    have z55 : r7 ρ r dd N 55 = ρ 55 := by rw [z 55 (by decide) (by decide) (by decide) (by decide) (by decide) (by decide) (by decide), r4_d _ _ _ _ (by decide), r2_d _ _ _ _ (by decide)]
    have z56 : r7 ρ r dd N 56 = r2 ρ r dd N 56 := by rw [z 56 (by decide) (by decide) (by decide) (by decide) (by decide) (by decide) (by decide), r4_d _ _ _ _ (by decide)]
    have y31 : ∀ k, k ≠ 23 → k ≠ 21 → k ≠ 22 → k ≠ 19 → f31 ρ r dd N k = ρ 31 k := fun k x1 x2 x3 x4 => by
      unfold f31
      rw [upd_n _ _ x3, upd_n _ _ x2, upd_n _ _ x1]
      rw [r4_d _ _ _ _ (by decide), r2_31 _ _ _ _ x4]
    have y13 := y31 13 (by decide) (by decide) (by decide) (by decide)
    have y10 := y31 10 (by decide) (by decide) (by decide) (by decide)
    have y24 := y31 24 (by decide) (by decide) (by decide) (by decide)
    have y25 := y31 25 (by decide) (by decide) (by decide) (by decide)
    have y19 : f31 ρ r dd N 19 = nI (oN ρ + N) := by
      unfold f31
      rw [upd_n _ _ (by decide), upd_n _ _ (by decide), upd_n _ _ (by decide)]
      rw [r4_d _ _ _ _ (by decide)]
      unfold r2; rw [dus_31]
    have y21 : f31 ρ r dd N 21 = ρ 31 21 + 1 := by unfold f31; rw [upd_n _ _ (by decide), upd_s]
    have y22 : f31 ρ r dd N 22 = ρ 31 22 + nI (g7 ρ r dd N) := by unfold f31; rw [upd_s]
    have y23 : f31 ρ r dd N 23 = ρ 31 23 + nI (mvQ (L2 ρ r dd N) (oM ρ) (rr ρ) (mm ρ) r (oP ρ) (rN ρ - r)) := by unfold f31; rw [upd_n _ _ (by decide), upd_n _ _ (by decide), upd_s]
    unfold Inv2
    rw [z40, z41, z42, z43, z44, z45, z46, z47, z49, z50, z51, z52, z53, z54, z55, z56, z31, y13, y10, y19, y21, y22, y23, y24, y25]
    simp (disch := omega) only [forall_eq, true_and, and_true, and_self, not_true_eq_false, not_false_eq_true, false_imp_iff, true_imp_iff, imp_self, implies_true, ne_eq, reduceIte, cl, cl0, cl1, cl2, vpn, vp0, le8, le16, le40, le640, le1400, le6400, lt8, lt16, le15, le2, nI_leI, nI_ltI, nI_eq, nI_1, nI_add, n_le0, n_lt0, n_0le, n_eq0, n_eq1, n_eq2, n_m1, n_m1r, Nat.reduceEqDiff, Nat.reduceAdd, Int32.add_zero, nI_pred, div16, mul15, mul40, mul16, mul640, mulr16, xu_s, xu_c, xu_k, xu_cc, rows_xu, xf_s, xf_c, rows_xf, xul_c, rows_xul, xul_L, lgc]
    have kA := fun o => (K7_iff hA o).1
    have kE := fun o => (K7_iff hA o).2
    have t44 : ∀ o, L2 ρ r dd N o → (f44 ρ r dd N o).toNatClampNeg = P7 ρ r dd N o := fun o ho => by rw [f44_y ho, cl (by have := (p1 o ho).2.1; omega)]
    refine ⟨⟨t1, t2, t3, t4, t5, t6, t7, t8, h9⟩, ?_, ?_, ?_, ?_, ?_, ?_, ?_⟩
    · have H := HeapR_fl (np := τ 10) (fc' := fun o i => tr (f44 ρ r dd N) (r4 ρ r dd N 46 (15 * o + i)) (r4 ρ r dd N 47 (15 * o + i))) C1' (fun o ho => (p1 o ho).2.1) (fun o i ho hi => ⟨fun e => ?_, fun e => ?_⟩)
      · refine HeapR_P (HeapR_A H (fun o => (kA o).symm)) (fun o ho => ?_)
        have hL := (kA o).mp ho
        exact ⟨t44 o hL, rfl, by show hdI (K7 ρ r dd N o) _ _ = _; rw [kE o hL]; rfl, fun i _ => ⟨rfl, rfl⟩⟩
      · obtain ⟨a, b⟩ := live o i ho hi e
        have e' : r4 ρ r dd N 46 (15 * o + i) = 2 := e
        rw [b, cl (by have := pl6 _ a; omega), C2 _ a, e', tr_2]
        exact f44_y a
      · have e' : ¬ r4 ρ r dd N 46 (15 * o + i) = 2 := e
        show _ = tr (ρ 44) (r4 ρ r dd N 46 (15 * o + i)) (r4 ρ r dd N 47 (15 * o + i))
        rw [tr_n e', tr_n e']
    · intro k hk
      rw [f8 17 (by decide), n30 17 (by decide), f8 18 (by decide), n30 18 (by decide)]
      refine ⟨(c2 k hk).1, ?_⟩
      by_cases e : ρ 54 k = 2
      · obtain ⟨a, b⟩ := lroot k hk e
        rw [flw_y hk (by rw [(c2 k hk).1]; exact e), b, cl (by have := pl6 _ a; omega), C2 _ a, e, tr_2]
        exact (f44_y a).symm
      · rw [flw_n (by rw [(c2 k hk).1]; exact e), tr_n e, (c2 k hk).2, tr_n e]
    · have ef7 : τ 7 = σ 7 := by rw [f8 7 (by decide), n30 7 (by decide)]
      rw [ef7]
      refine ⟨c3.1, fun q hq => ?_⟩
      have hq' : q < rN ρ := hq
      obtain ⟨a, b, c⟩ := c3.2 q hq
      have erow : rowsF τ = rowsF σ := by
        funext q k
        unfold rowsF
        by_cases x : q < 8
        · rw [if_pos x, if_pos x, f8 (32 + q) (by omega), n30 (32 + q) (by omega)]
        · rw [if_neg x, if_neg x]
      rw [erow]
      by_cases x : r ≤ q
      · obtain ⟨u1, u2⟩ := C3 q x (by omega)
        have h5' := p5 q x hq'
        have e51 : f51 ρ r dd N q = nI (s7 ρ r dd N q).1 := by unfold f51; rw [if_pos ⟨x, hq'⟩]
        have m4 : mm ρ q ≤ 40 := (h6.2.2 q hq).1.2
        refine ⟨by rw [e51]; exact u1, ?_, fun k hk => c k ?_⟩
        · rw [e51, cl (by omega)]
          have u2' : τ 23 q = nI (s7 ρ r dd N q).2.1 := u2
          by_cases y : (s7 ρ r dd N q).1 = 0
          · rw [if_pos y, u2', h5'.2.2.1 y]; rfl
          · rw [if_neg y, u2']
            unfold f53 atI
            rw [if_pos ⟨x, hq'⟩, if_neg y]
        · rw [e51, cl (by omega)] at hk
          exact Nat.lt_of_lt_of_le hk h5'.1
      · obtain ⟨u1, u2⟩ := C4 q (by omega)
        have e51 : f51 ρ r dd N q = ρ 51 q := by unfold f51; rw [if_neg (fun y => x y.1)]
        have e53 : f53 ρ r dd N q = ρ 53 q := by unfold f53; rw [if_neg (fun y => x y.1)]
        rw [e51, e53, u1, u2, n30 22 (by decide), n30 23 (by decide)]
        exact ⟨a, b, c⟩
    · have en : (nI (oN ρ + N)).toNatClampNeg = oN ρ + N := cl (by have := hD.2.2.2; omega)
      unfold cQue
      rw [en]
      refine ⟨by rw [f8 8 (by decide)]; exact S4, fun k hk => ?_⟩
      obtain ⟨a, b⟩ := lq k hk
      rw [flq_y hk, b, cl (by have := pl6 _ a; omega), C2 _ a]
      exact (f44_y a).symm
    · have e9 : τ 9 1 = nI (cnt (fun k => L_ ρ r (w k)) wn) := by rw [f8 9 (by decide)]; exact S7
      have en : (nI (cnt (fun k => L_ ρ r (w k)) wn)).toNatClampNeg = cnt (fun k => L_ ρ r (w k)) wn := cl (by omega)
      have e45 : ∀ o, (¬ ∃ j, j < N ∧ dd j = o) → r2 ρ r dd N 45 o = ρ 45 o := fun o hx => by
        unfold r2
        rw [dus_45, cw_no N (fun j hj _ e => hx ⟨j, hj, e⟩)]
      have ndd : ∀ o, L_ ρ r o → ¬ ∃ j, j < N ∧ dd j = o := fun o ho ⟨j, j1, j2⟩ => (hD.1 j j1).2.1 (j2 ▸ ho)
      unfold cWat
      rw [e9, en]
      refine ⟨rfl, by omega, fun k => w (sel (fun k => L_ ρ r (w k)) wn k), fun k hk => ?_, fun j k hj hk => ?_, fun o ho h0 => ?_⟩
      · obtain ⟨a, b, c⟩ := lw k hk
        have s := sel_in (K := fun k => L_ ρ r (w k)) wn k hk
        refine ⟨(kA _).mpr b, ?_, ?_⟩
        · rw [e45 _ (ndd _ a)]; exact (d3 _ s.1).2.1
        · rw [flq_y hk, c, cl (by have := pl6 _ b; omega), C2 _ b]
          exact (f44_y b).symm
      · rw [e45 _ (ndd _ (lw j (by omega)).1), e45 _ (ndd _ (lw k hk).1)]
        exact d4 _ _ (sel_mono (K := fun k => L_ ρ r (w k)) wn j k hj hk) (sel_in (K := fun k => L_ ρ r (w k)) wn k hk).1
      · have hL := (kA o).mp ho
        have hx : ¬ ∃ j, j < N ∧ dd j = o := fun ⟨j, j1, j2⟩ => by
          have : r2 ρ r dd N 45 o = 0 := by
            unfold r2
            rw [dus_45, cw_c j1 trivial j2]
          rw [this] at h0
          exact absurd h0 (by decide)
        rw [e45 o hx] at h0
        have hLo : L_ ρ r o := Classical.byContradiction (fun y => hx (hD.2.2.1 o (hA o hL) y h0))
        obtain ⟨k, k1, k2⟩ := d5 o (hA o hL) h0
        obtain ⟨j, j1, j2⟩ := sel_sur (K := fun k => L_ ρ r (w k)) wn k k1 (by rw [k2]; exact hLo)
        exact ⟨j, j1, by dsimp only; rw [j2, k2]⟩
    · have a0 : τ 0 = σ 0 := by rw [f8 0 (by decide), n30 0 (by decide)]
      rw [e2, C6, C9 2 (by decide) (by decide), n30 2 (by decide), a0, egd]
      obtain ⟨b1, b2, b3, b4, b5⟩ := c6
      exact ⟨by rw [b1], by rw [b2], by rw [b3], b4, b5⟩
    · rw [f8 3 (by decide), n30 3 (by decide), f8 12 (by decide), n30 12 (by decide), f8 13 (by decide), n30 13 (by decide)]
      exact c7
  · simp (disch := omega) only [forall_eq, true_and, and_true, and_self, not_true_eq_false, not_false_eq_true, false_imp_iff, true_imp_iff, imp_self, implies_true, ne_eq, reduceIte, cl, cl0, cl1, cl2, vpn, vp0, le8, le16, le40, le640, le1400, le6400, lt8, lt16, le15, le2, nI_leI, nI_ltI, nI_eq, nI_1, nI_add, n_le0, n_lt0, n_0le, n_eq0, n_eq1, n_eq2, n_m1, n_m1r, Nat.reduceEqDiff, Nat.reduceAdd, Int32.add_zero, nI_pred, div16, mul15, mul40, mul16, mul640, mulr16, xu_s, xu_c, xu_k, xu_cc, rows_xu, xf_s, xf_c, rows_xf, xul_c, rows_xul, xul_L, lgc]
    rw [f8 d (by omega), n30 d (by omega)]
