def DW (σ ρ : xS) (w : Nat → Nat) (wn : Nat) : Prop := σ 9 1 = nI wn ∧ wn ≤ 640 ∧ (∀ k, k < wn → oB ρ (w k) ∧ 0 < oW ρ (w k) ∧ σ 25 k = ρ 44 (w k)) ∧ (∀ j k, j < k → k < wn → oW ρ (w j) < oW ρ (w k)) ∧ (∀ o, oB ρ o → 0 < oW ρ o → ∃ k, k < wn ∧ w k = o)
theorem DW_ex {t : Nat} {σ ρ : xS} (h : Inv2 t σ ρ) : ∃ w wn, DW σ ρ w wn := by
  obtain ⟨⟨h1, h2, h3, h4, h5, h6, h7, h8, h9⟩, c1, c2, c3, c4, c5, c6, c7⟩ := h
  obtain ⟨w1, w2, w, w3, w4, w5⟩ := c5
  exact ⟨w, _, w1, w2, w3, w4, w5⟩
noncomputable def ddW (ρ : xS) (r : Nat) (w : Nat → Nat) (wn : Nat) (j : Nat) : Nat := w (sel (fun k => ¬ L_ ρ r (w k)) wn j)
noncomputable def nnW (ρ : xS) (r : Nat) (w : Nat → Nat) (wn : Nat) : Nat := cnt (fun k => ¬ L_ ρ r (w k)) wn
theorem DW_DD {t : Nat} {σ ρ : xS} {r : Nat} {w : Nat → Nat} {wn : Nat} (ht : t < 100000) (hI : Inv2 t σ ρ) (h : DW σ ρ w wn) : DD ρ r (ddW ρ r w wn) (nnW ρ r w wn) := by
  obtain ⟨d1, d2, d3, d4, d5⟩ := h
  have hG := Inv2_Gd ht hI
  have s := fun j (hj : j < nnW ρ r w wn) => sel_in (K := fun k => ¬ L_ ρ r (w k)) wn j hj
  have m : ∀ j k, j < k → k < nnW ρ r w wn → oW ρ (ddW ρ r w wn j) < oW ρ (ddW ρ r w wn k) := fun j k hj hk => d4 _ _ (sel_mono (K := fun k => ¬ L_ ρ r (w k)) wn j k hj hk) (s k hk).1
  refine ⟨fun j hj => ⟨(d3 _ (s j hj).1).1, (s j hj).2, (d3 _ (s j hj).1).2.1⟩, m, fun o ho hn hw => ?_, ?_⟩
  · obtain ⟨k, k1, k2⟩ := d5 o ho hw
    obtain ⟨j, j1, j2⟩ := sel_sur (K := fun k => ¬ L_ ρ r (w k)) wn k k1 (by rw [k2]; exact hn)
    exact ⟨j, j1, by unfold ddW; rw [j2, k2]⟩
  · have hq := hI.1.2.2.2.2.1
    have hlq : ∀ k, k < oN ρ → L_ ρ r (oQ ρ k) := fun k hk => Lv_sd (Or.inr (Or.inr ⟨k, hk, rfl⟩))
    refine pigeon 640 _ (fun k => if k < oN ρ then oQ ρ k else ddW ρ r w wn (k - oN ρ)) (fun i hi => ?_) (fun i j hij hj => ?_)
    · by_cases x : i < oN ρ
      · rw [if_pos x]; exact (hG.2.2.2.1.2.2 i x).2.1
      · rw [if_neg x]; exact (d3 _ (s (i - oN ρ) (by omega)).1).1.1
    · by_cases x : j < oN ρ
      · rw [if_pos x, if_pos (by omega)]
        exact hq.2.2.2 i j hij x
      · rw [if_neg x]
        by_cases y : i < oN ρ
        · rw [if_pos y]
          exact fun e => (s (j - oN ρ) (by omega)).2 (by have z := hlq i y; rw [e] at z; exact z)
        · rw [if_neg y]
          intro e
          have := m (i - oN ρ) (j - oN ρ) (by omega) (by omega)
          rw [e] at this
          omega
theorem mks_0 {σ : xS} {n : Nat} (h : σ 11 3 = nI n) : mks σ (σ 26) (σ 27) n = σ := by
  unfold mks
  rw [xf_0, xf_0]
  funext d j
  by_cases e : d = 11
  · subst e
    rw [xu_cc]
    by_cases e' : j = 3
    · rw [e', upd_s, h]
    · rw [upd_n _ _ e']
  · rw [xu_c _ _ _ _ e]
def St (σ σ' ρ : xS) (r : Nat) (w : Nat → Nat) (wn : Nat) : Prop :=
  HeapR (σ' 28) (σ' 29) (oB ρ) (oP ρ) (oM ρ) (oH ρ) (oS (r4 ρ r (ddW ρ r w wn) (nnW ρ r w wn))) (oC (r4 ρ r (ddW ρ r w wn) (nnW ρ r w wn))) ∧ lvw (oB ρ) (oP ρ) (L2 ρ r (ddW ρ r w wn) (nnW ρ r w wn)) (σ' 26) ∧ (∀ p, p < 640 → σ' 10 p = nI p) ∧
  (σ' 8 1 = nI (oN ρ + nnW ρ r w wn) ∧ (∀ k, k < oN ρ → σ' 24 k = σ 24 k) ∧ ∀ j, j < nnW ρ r w wn → σ' 24 (oN ρ + j) = ρ 44 (ddW ρ r w wn j)) ∧
  (σ' 9 1 = nI (cnt (fun k => L_ ρ r (w k)) wn) ∧ ∀ k, k < cnt (fun k => L_ ρ r (w k)) wn → σ' 25 k = ρ 44 (w (sel (fun k => L_ ρ r (w k)) wn k))) ∧
  (∀ d, d ≠ 26 → d ≠ 27 → d ≠ 11 → d ≠ 28 → d ≠ 29 → d ≠ 24 → d ≠ 8 → d ≠ 25 → d ≠ 9 → d ≠ 10 → σ' d = σ d)
theorem lvw_of {A : Nat → Prop} {Sd : Nat → Prop} {pl mn kd : Nat → Nat} {fs : Nat → Nat → Int32} {fv : Nat → Nat → Nat} {l pe : Nat → Int32} (hJ : MJ A no_ex pl mn kd fs fv (Lv A Sd kd mn fs fv) l pe 0) (hc : clo A kd mn fs fv (fun o => l (pl o) = 1)) (hs : ∀ q, Sd q → l (pl q) = 1) : lvw A pl (Lv A Sd kd mn fs fv) l := by
  intro p hp
  rcases hJ.1 p hp with e | e
  · refine Or.inl ⟨e, fun o _ ho hL => ?_⟩
    have : l (pl o) = 1 := hL (fun o => l (pl o) = 1) hs hc
    rw [ho, e] at this
    exact absurd this n01
  · exact Or.inr e
theorem colC1 {t : Nat} {σ ρ : xS} {r : Nat} {w : Nat → Nat} {wn : Nat} (ht : t < 100000) (hI : Inv2 t σ ρ) (hr : r < 8) (hW : DW σ ρ w wn) (Q : Int32 → xS → Prop) (h : ∀ σ', St σ σ' ρ r w wn → ∃ n, p_Col_run_L90 Q n (σ 2 3) (nI r) σ') : p_Col_run (nI r) σ Q := by
  have hG := Inv2_Gd ht hI
  have hD := DW_DD (r := r) ht hI hW
  obtain ⟨⟨h1, h2, h3, h4, h5, h6, h7, h8, h9⟩, c1, c2, c3, c4, c5, c6, c7⟩ := id hI
  obtain ⟨d1, d2, d3, d4, d5⟩ := id hW
  have hV : Vw (σ 28) (σ 29) (oB ρ) (oP ρ) (oM ρ) (oK ρ) (oH ρ) (oS ρ) (oC ρ) (oV ρ) := Gd_Vw hG c1
  unfold p_Col_run
  simp (disch := omega) only [forall_eq, true_and, and_true, and_self, not_true_eq_false, not_false_eq_true, false_imp_iff, true_imp_iff, imp_self, implies_true, ne_eq, reduceIte, cl, cl0, cl1, cl2, vpn, vp0, le8, le16, le40, le640, le1400, le6400, lt8, lt16, le15, le2, nI_leI, nI_ltI, nI_eq, nI_1, nI_add, n_le0, n_lt0, n_0le, n_eq0, n_eq1, n_eq2, n_m1, n_m1r, Nat.reduceEqDiff, Nat.reduceAdd, Int32.add_zero, nI_pred, div16, mul15, mul40, mul16, mul640, mulr16, xu_s, xu_c, xu_k, xu_cc, rows_xu, xf_s, xf_c, rows_xf, xul_c, rows_xul, xul_L, lgc]
  refine e_start hV (old := fun o => oG ρ o < r) hr (fun o ho => ⟨oG ρ o, (h8.1 o ho).1, (hG.1 o ho).2.1.2, Iff.rfl⟩) _ (fun l0 hl0 => ?_)
  have l0old : ∀ o, oB ρ o → oG ρ o < r → l0 (oP ρ o) = 1 := fun o ho hg => by
    rcases hl0 (oP ρ o) (Vw_o hV ho).1 with ⟨a, _⟩ | ⟨_, b⟩
    · exact a
    · exact absurd hg (b o ho rfl)
  have J0 : MJ (oB ρ) no_ex (oP ρ) (oM ρ) (oK ρ) (oS ρ) (oV ρ) (L_ ρ r) l0 (σ 27) 0 := by
    refine ⟨fun p hp => ?_, fun k hk => by omega, by have := cnt_le (fun p => l0 p = 0) 640; omega, fun o ho _ hlo _ => Or.inr (fun i hi e2 => ?_)⟩
    · rcases hl0 p hp with ⟨a, o, o1, o2, o3⟩ | ⟨a, _⟩
      · exact Or.inr ⟨a, o, o1, o2, Lv_sd (Or.inl ⟨o1, o3⟩)⟩
      · exact Or.inl a
    · have hg : oG ρ o < r := by
        rcases hl0 (oP ρ o) (Vw_o hV ho).1 with ⟨_, q, q1, q2, q3⟩ | ⟨a, _⟩
        · rw [← Vw_i hV q o q1 ho q2]; exact q3
        · rw [a] at hlo; exact absurd hlo n01
      obtain ⟨v1, v2, v3⟩ := (hG.2.1 o i ho hi).2 e2
      exact l0old _ v2 (by omega)
  refine e_reachRoots hV (rt := oR ρ) (LL := L_ ρ r) (fun k hk e => ?_) J0 _ (fun l1 pe1 n1 J1 X1 R1 => ?_)
  · have e54 : ρ 54 k = 2 := by rw [← (c2 k hk).1]; exact e
    obtain ⟨v1, v2⟩ := hG.2.2.1 k hk e54
    refine ⟨v2, ?_, Lv_sd (Or.inr (Or.inl ⟨k, hk, e54, rfl⟩))⟩
    rw [(c2 k hk).2, e54, tr_2]
    exact (hG.1 _ v2).2.2.1.1
  have hn8 : σ 8 1 = nI (oN ρ) := by rw [c4.1]; exact hG.2.2.2.1.1
  refine e_reachQueue hV (qu := oQ ρ) (m := oN ρ) (LL := L_ ρ r) hn8 hG.2.2.2.1.2.1 (fun k hk => ?_) J1 _ (fun l2 pe2 n2 J2 X2 R2 => ?_)
  · obtain ⟨v1, v2⟩ := hG.2.2.2.1.2.2 k hk
    refine ⟨v2, ?_, Lv_sd (Or.inr (Or.inr ⟨k, hk, rfl⟩))⟩
    rw [c4.2 k hk]
    exact (hG.1 _ v2).2.2.1.1
  refine e_spread hV J2 _ (fun l3 pe3 J3 X3 C3 => ?_)
  have s3 : ∀ q, sd ρ r q → l3 (oP ρ q) = 1 := fun q hq => by
    rcases hq with a | ⟨k, k1, k2, k3⟩ | ⟨k, k1, k2⟩
    · exact X3 _ (X2.1 _ (X1.1 _ (l0old q a.1 a.2)))
    · rw [← k3]; exact X3 _ (X2.1 _ (R1 k k1 (by rw [(c2 k k1).1]; exact k2)))
    · rw [← k2]; exact X3 _ (R2 k k1)
  have lv3 : lvw (oB ρ) (oP ρ) (L_ ρ r) l3 := lvw_of J3 C3 s3
  have hp : mks σ l3 pe3 0 = hp2 (mks σ l3 pe3 0) (σ 28) (σ 29) := by
    have := hp2_0 (mks σ l3 pe3 0)
    rw [mks_d _ _ _ _ (by decide), mks_d _ _ _ _ (by decide)] at this
    exact this.symm
  rw [hp]
  refine e_clearWeak hV (LL := L_ ρ r) (by rw [mks_26]; exact lv3) _ (fun s4 c4' H4 => ?_)
  have H4' := HeapR_clr (Z := wZ ρ (L_ ρ r)) (fun o i ho hi => wZ_at hG o i ho hi) H4
  obtain ⟨q1, q2, q3⟩ := hp2_e (mks σ l3 pe3 0) s4 c4'
  obtain ⟨σ4, e4⟩ : ∃ σ4, hp2 (mks σ l3 pe3 0) s4 c4' = σ4 := ⟨_, rfl⟩
  rw [e4] at q1 q2 q3 ⊢
  have f4 : ∀ d, d ≠ 26 → d ≠ 27 → d ≠ 11 → d ≠ 28 → d ≠ 29 → σ4 d = σ d := fun d x1 x2 x3 x4 x5 => by rw [q3 d x4 x5, mks_d _ _ _ _ ⟨x1, x2, x3⟩]
  have f26 : σ4 26 = l3 := by rw [q3 26 (by decide) (by decide), mks_26]
  have f27 : σ4 27 = pe3 := by rw [q3 27 (by decide) (by decide), mks_27]
  have f11 : σ4 11 3 = nI 0 := by rw [q3 11 (by decide) (by decide), mks_11]
  have g24 := f4 24 (by decide) (by decide) (by decide) (by decide) (by decide)
  have g25 := f4 25 (by decide) (by decide) (by decide) (by decide) (by decide)
  refine e_handOver (n := oN ρ) (wn := wn) (q := fun k => oP ρ (w k)) (Kp := fun k => L_ ρ r (w k)) (by rw [f4 8 (by decide) (by decide) (by decide) (by decide) (by decide)]; exact hn8) (by rw [f4 9 (by decide) (by decide) (by decide) (by decide) (by decide)]; exact d1) d2 hD.2.2.2 (fun k hk => ?_) _ ?_
  · obtain ⟨v1, v2, v3⟩ := d3 k hk
    have v4 := (hG.1 _ v1).2.2.1
    refine ⟨by rw [g25, v3]; exact v4.1, by omega, ?_⟩
    rw [f26]
    rcases lv3 (oP ρ (w k)) (by omega) with ⟨a, b⟩ | ⟨a, o, o1, o2, o3⟩
    · exact Or.inr ⟨a, b _ v1 rfl⟩
    · exact Or.inl ⟨a, by rw [← Vw_i hV o _ o1 v1 o2]; exact o3⟩
  obtain ⟨σ5, e5⟩ : ∃ σ5, xu (hos σ4 (kep (fun k => L_ ρ r (w k)) (σ4 25) wn) (cw (fun k => ¬ L_ ρ r (w k)) (fun k => oN ρ + cnt (fun k => ¬ L_ ρ r (w k)) k) (σ4 25) (σ4 24) wn) (nI (oN ρ + cnt (fun k => ¬ L_ ρ r (w k)) wn))) 9 1 (nI (cnt (fun k => L_ ρ r (w k)) wn)) = σ5 := ⟨_, rfl⟩
  rw [e5]
  have u24 : σ5 24 = cw (fun k => ¬ L_ ρ r (w k)) (fun k => oN ρ + cnt (fun k => ¬ L_ ρ r (w k)) k) (σ 25) (σ 24) wn := by rw [← e5, xu_c _ _ _ _ (by decide), hos_24, g24, g25]
  have u25 : σ5 25 = kep (fun k => L_ ρ r (w k)) (σ 25) wn := by rw [← e5, xu_c _ _ _ _ (by decide), hos_25, g25]
  have u8 : σ5 8 1 = nI (oN ρ + nnW ρ r w wn) := by rw [← e5, xu_c _ _ _ _ (by decide), hos_8]; rfl
  have u9 : σ5 9 1 = nI (cnt (fun k => L_ ρ r (w k)) wn) := by rw [← e5, xu_s]
  have u4 : ∀ d, d ≠ 24 → d ≠ 25 → d ≠ 8 → d ≠ 9 → σ5 d = σ4 d := fun d x1 x2 x3 x4 => by rw [← e5, xu_c _ _ _ _ x4, hos_d _ _ _ _ ⟨x2, x1, x3⟩]
  have v28 : σ5 28 = s4 := by rw [u4 28 (by decide) (by decide) (by decide) (by decide)]; exact q1
  have v29 : σ5 29 = c4' := by rw [u4 29 (by decide) (by decide) (by decide) (by decide)]; exact q2
  have v26 : σ5 26 = l3 := by rw [u4 26 (by decide) (by decide) (by decide) (by decide)]; exact f26
  have v27 : σ5 27 = pe3 := by rw [u4 27 (by decide) (by decide) (by decide) (by decide)]; exact f27
  have v11 : σ5 11 3 = nI 0 := by rw [u4 11 (by decide) (by decide) (by decide) (by decide)]; exact f11
  obtain ⟨dd, edd⟩ : ∃ dd, ddW ρ r w wn = dd := ⟨_, rfl⟩
  obtain ⟨N, eN⟩ : ∃ N, nnW ρ r w wn = N := ⟨_, rfl⟩
  rw [edd, eN] at hD
  rw [eN] at u8
  unfold St at h
  rw [edd, eN] at h
  have hG2 := Gd_r2 hG hD
  have hV2 : Vw (σ5 28) (σ5 29) (oB ρ) (oP ρ) (oM ρ) (oK ρ) (oH ρ) (oS (r2 ρ r dd N)) (oC (r2 ρ r dd N)) (oV (r2 ρ r dd N)) := by rw [v28, v29]; exact Gd_Vw hG2 H4'
  have q24 : ∀ k, k < oN ρ + N → σ5 24 k = ρ 44 (oQ (r2 ρ r dd N) k) ∧ oB ρ (oQ (r2 ρ r dd N) k) := fun k hk => by
    rw [u24]
    by_cases x : k < oN ρ
    · have e := (r2_Q (ρ := ρ) (r := r) (dd := dd) (N := N)).1 k x
      unfold oQ
      rw [e, cw_lo x]
      exact ⟨c4.2 k x, (hG.2.2.2.1.2.2 k x).2⟩
    · obtain ⟨j, rfl⟩ : ∃ j, k = oN ρ + j := ⟨k - oN ρ, by omega⟩
      have hj : j < N := by omega
      have e := (r2_Q (ρ := ρ) (r := r) (dd := dd) (N := N)).2 j hj
      have b := (hD.1 j hj).1
      rw [← eN] at hj
      have s := sel_in (K := fun k => ¬ L_ ρ r (w k)) wn j hj
      rw [cw_sel hj, (d3 _ s.1).2.2]
      have e' : oQ (r2 ρ r dd N) (oN ρ + j) = dd j := by unfold oQ; rw [e, cl (by have := b.1; omega)]
      rw [e', ← edd]
      rw [← edd] at b
      exact ⟨rfl, b⟩
  have J5 : MJ (oB ρ) no_ex (oP ρ) (oM ρ) (oK ρ) (oS (r2 ρ r dd N)) (oV (r2 ρ r dd N)) (L2 ρ r dd N) l3 pe3 0 := by
    obtain ⟨a, b, c, d⟩ := J3
    refine ⟨fun p hp => (a p hp).imp id (fun ⟨x, o, o1, o2, o3⟩ => ⟨x, o, o1, o2, L12 hG hD o3⟩), b, c, fun o ho hx hl hk => (d o ho hx hl hk).imp id (fun y i hi e2 => ?_)⟩
    have hz : ¬ wZ ρ (L_ ρ r) (15 * o + i) := fun x => by have := ((wZ_at hG o i ho hi).mp x).2.1; omega
    obtain ⟨z1, _, z3, _⟩ := (clr_S ρ (wZ ρ (L_ ρ r)) o i).2 hz
    have z1' : oS (r2 ρ r dd N) o i = oS ρ o i := z1
    have z3' : oV (r2 ρ r dd N) o i = oV ρ o i := z3
    rw [z3']
    exact y i hi (by rw [← z1']; exact e2)
  have key5 : p_Mar_reachQueue (mks σ5 l3 pe3 0) (fun σ8 => p_Mar_spread σ8 (fun σ9 => p_Col_clearKeyedFields σ9 (fun σ10 => p_Col_clearWeakFields σ10 (fun σ11 => p_Mem_startMoves σ11 (fun σ12 => (∃ n, p_Col_run_L90 Q n (σ 2 3) (nI r) σ12)))))) := by
    refine e_reachQueue hV2 (qu := oQ (r2 ρ r dd N)) (m := oN ρ + N) (LL := L2 ρ r dd N) u8 hD.2.2.2 (fun k hk => ?_) J5 _ (fun l6 pe6 n6 J6 X6 R6 => ?_)
    · obtain ⟨v1, v2⟩ := q24 k hk
      refine ⟨v2, by rw [v1]; exact (hG.1 _ v2).2.2.1.1, Lv_sd (Or.inr (Or.inr ⟨k, by rw [oN_r2 hD]; exact hk, rfl⟩))⟩
    refine e_spread hV2 J6 _ (fun l7 pe7 J7 X7 C7 => ?_)
    have s7 : ∀ q, sd (r2 ρ r dd N) r q → l7 (oP ρ q) = 1 := fun q hq => by
      rcases hq with a | a | ⟨k, k1, k2⟩
      · exact X7 _ (X6.1 _ (s3 q (Or.inl a)))
      · exact X7 _ (X6.1 _ (s3 q (Or.inr (Or.inl a))))
      · rw [← k2]; exact X7 _ (R6 k (by rw [← oN_r2 hD]; exact k1))
    have lv7 : lvw (oB ρ) (oP ρ) (L2 ρ r dd N) l7 := lvw_of J7 C7 s7
    have hp7 : mks σ5 l7 pe7 0 = hp2 (mks σ5 l7 pe7 0) (σ5 28) (σ5 29) := by
      have := hp2_0 (mks σ5 l7 pe7 0)
      rw [mks_d _ _ _ _ (by decide), mks_d _ _ _ _ (by decide)] at this
      exact this.symm
    rw [hp7]
    refine e_clearKeyed hV2 (LL := L2 ρ r dd N) (by rw [mks_26]; exact lv7) _ (fun s8 c8 H8 => ?_)
    have H8' := HeapR_clr (ρ := r2 ρ r dd N) (Z := kZ (r2 ρ r dd N) (L2 ρ r dd N)) (fun o i ho hi => kZ_at hG2 o i ho hi) H8
    have hG3 : Gd (r3 ρ r dd N) := Gd_clr hG2 _
    have hV3 := Gd_Vw hG3 H8'
    refine e_clearWeak hV3 (LL := L2 ρ r dd N) (by rw [mks_26]; exact lv7) _ (fun s9 c9 H9 => ?_)
    have H9' := HeapR_clr (ρ := r3 ρ r dd N) (Z := wZ (r3 ρ r dd N) (L2 ρ r dd N)) (fun o i ho hi => wZ_at hG3 o i ho hi) H9
    refine e_startMoves _ (fun np hnp => h _ ?_)
    obtain ⟨y1, y2, y3⟩ := hp2_e (mks σ5 l7 pe7 0) s9 c9
    have fr : ∀ d, d ≠ 26 → d ≠ 27 → d ≠ 11 → d ≠ 28 → d ≠ 29 → d ≠ 10 → va_up (hp2 (mks σ5 l7 pe7 0) s9 c9) 10 np d = σ5 d := fun d x1 x2 x3 x4 x5 x6 => by
      rw [xf_c _ _ _ x6, y3 d x4 x5, mks_d _ _ _ _ ⟨x1, x2, x3⟩]
    refine ⟨?_, ?_, ?_, ⟨?_, fun k hk => ?_, fun j hj => ?_⟩, ⟨?_, fun k hk => ?_⟩, fun d x1 x2 x3 x4 x5 x6 x7 x8 x9 xa => ?_⟩
    · rw [xf_c _ _ _ (by decide), xf_c _ _ _ (by decide), y1, y2]; exact H9'
    · rw [xf_c _ _ _ (by decide), y3 26 (by decide) (by decide), mks_26]; exact lv7
    · rw [xf_s]; exact hnp
    · rw [fr 8 (by decide) (by decide) (by decide) (by decide) (by decide) (by decide)]; exact u8
    · rw [fr 24 (by decide) (by decide) (by decide) (by decide) (by decide) (by decide), u24]; exact cw_lo hk
    · rw [fr 24 (by decide) (by decide) (by decide) (by decide) (by decide) (by decide), (q24 _ (by omega)).1]
      have e := (r2_Q (ρ := ρ) (r := r) (dd := dd) (N := N)).2 j hj
      unfold oQ
      rw [e, cl (by have := (hD.1 j hj).1.1; omega)]
    · rw [fr 9 (by decide) (by decide) (by decide) (by decide) (by decide) (by decide)]; exact u9
    · rw [fr 25 (by decide) (by decide) (by decide) (by decide) (by decide) (by decide), u25]
      unfold kep
      exact (d3 _ (sel_in (K := fun k => L_ ρ r (w k)) wn k hk).1).2.2
    · rw [fr d x1 x2 x3 x4 x5 xa, u4 d x6 x8 x7 x9]; exact f4 d x1 x2 x3 x4 x5
  rw [← v26, ← v27, mks_0 v11] at key5
  exact key5
