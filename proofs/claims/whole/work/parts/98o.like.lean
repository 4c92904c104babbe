theorem oH_eq {t : Nat} {σ : xS} (hI : Inv2 t σ σ) {o q : Nat} (ho : oB σ o) (hq : oB σ q) : oH σ o = oH σ q ↔ σ 40 o = σ 40 q ∧ σ 41 o = σ 41 q ∧ σ 42 o = σ 42 q := by
  obtain ⟨⟨h1, h2, h3, h4, h5, h6, h7, h8, h9⟩, c1, c2, c3, c4, c5, c6, c7⟩ := hI
  obtain ⟨⟨a1, b1⟩, ⟨a2, b2⟩, ⟨a3, b3⟩, _⟩ := h1 o ho
  obtain ⟨⟨d1, e1⟩, ⟨d2, e2⟩, ⟨d3, e3⟩, _⟩ := h1 q hq
  constructor
  · intro e
    unfold oH at e
    refine ⟨?_, ?_, ?_⟩
    · rw [← hd_kind a1 b1 b2 b3, e]; exact hd_kind d1 e1 e2 e3
    · rw [← hd_tag b1 a2 b2 b3, e]; exact hd_tag e1 d2 e2 e3
    · rw [← hd_many b1 b2 a3 b3, e]; exact hd_many e1 e2 d3 e3
  · rintro ⟨x, y, z⟩
    unfold oH
    rw [x, y, z]
def noEx : Nat → Nat → Prop := fun _ _ => False
theorem e_mWalk {t : Nat} {σ τ : xS} {ua ub : Nat} {sa sb va vb : Int32} (hI : Inv2 t σ σ) (ht : t < 100000) (Q : Int32 → xS → Prop) {m : Nat} (hE : ∀ d, 40 ≤ d → d ≤ 47 → τ d = σ d) (hR : RV τ τ (oB σ) (oM σ) (oH σ) (oS σ) (fun o i => σ 47 (15 * o + i)) (oV σ) ua ub noEx m) (hroot : sa = 2 → oB σ ua ∧ oB σ ub ∧ vBit τ (640 * ua + ub) = true) (h0 : sa = sb ∧ (¬ sa = 2 → va = vb))
    (hy : AL (oB σ) (oM σ) (oH σ) (oS σ) (fun o i => σ 47 (15 * o + i)) (oV σ) sa sb va vb ua ub → ∀ τ', (∀ d, d ≠ 59 → d ≠ 60 → d ≠ 31 → τ' d = τ d) → (∀ k, k ≠ 31 → τ' 31 k = τ 31 k) → Q 1 τ') (hn : ¬ AL (oB σ) (oM σ) (oH σ) (oS σ) (fun o i => σ 47 (15 * o + i)) (oV σ) sa sb va vb ua ub → ∀ τ', (∀ d, d ≠ 59 → d ≠ 60 → d ≠ 31 → τ' d = τ d) → (∀ k, k ≠ 31 → τ' 31 k = τ 31 k) → Q 0 τ') (hs2 : ∀ k, vBit τ k = true → sa = 2) : ∃ n, p_Mod_alike_L85 Q n 1 τ := by
  have hG := Inv2_Gd ht hI
  obtain ⟨F, eF⟩ : ∃ F : Nat → Nat → Int32, (fun o i => σ 47 (15 * o + i)) = F := ⟨_, rfl⟩
  rw [eF] at hR hy hn
  have hF : ∀ o i, F o i = σ 47 (15 * o + i) := fun o i => by rw [← eF]
  refine lpM (S := Int32 × xS) (fun n s => p_Mod_alike_L85 Q n s.1 s.2) (fun s => (s.1 = 1 ∧ ∃ m, RV τ s.2 (oB σ) (oM σ) (oH σ) (oS σ) F (oV σ) ua ub noEx m ∧ (sa = 2 → vBit s.2 (640 * ua + ub) = true) ∧ (0 < m → sa = 2)) ∨ (s.1 = 0 ∧ (∀ d, d ≠ 59 → d ≠ 60 → d ≠ 31 → s.2 d = τ d) ∧ (∀ k, k ≠ 31 → s.2 31 k = τ 31 k) ∧ ¬ AL (oB σ) (oM σ) (oH σ) (oS σ) F (oV σ) sa sb va vb ua ub)) (fun s => if s.1 = 0 then 0 else (s.2 31 31).toNatClampNeg + cnt (fun k => vBit s.2 k = false) 409600 + 1) ?_ (s := (1, τ)) (Or.inl ⟨rfl, m, hR, fun e => (hroot e).2.2, fun hm => by
    obtain ⟨o, q, _, _, _, x⟩ := hR.2.2.2.1 0 hm
    exact hs2 _ x⟩)
  rintro f ⟨x, τ1⟩ hs hnx
  dsimp only at hs hnx ⊢
  show b_Mod_alike_L85 (p_Mod_alike_L85 Q f) Q x τ1
  unfold b_Mod_alike_L85
  rcases hs with ⟨rfl, m1, R, r1, rs⟩ | ⟨rfl, f1, f2, hna⟩
  · obtain ⟨R1, R2, R3, R4', R5, R6, R7⟩ := id R
    rcases Nat.eq_zero_or_pos m1 with m0 | m0
    · rw [m0] at R3 R7
      have hal : AL (oB σ) (oM σ) (oH σ) (oS σ) F (oV σ) sa sb va vb ua ub := by
        refine ⟨h0.1, fun e => ⟨fun o q => oB σ o ∧ oB σ q ∧ vBit τ1 (640 * o + q) = true, fun o q ⟨o1, o2, o3⟩ => ?_, (hroot e).1, (hroot e).2.1, r1 e⟩, h0.2⟩
        rcases R7 o q o1 o2 o3 with ⟨j, j1, _⟩ | z | z
        · omega
        · exact z.elim
        · refine ⟨o1, o2, z.1, fun i hi => ⟨(z.2 i hi).1, fun e2 => ?_, (z.2 i hi).2.2⟩⟩
          have em : oM σ o = oM σ q := by
            have := ((oH_eq hI o1 o2).mp z.1).2.2
            unfold oM; rw [this]
          exact ⟨((hG.2.1 o i o1 hi).2 e2).2.1, ((hG.2.1 q i o2 (by omega)).2 (by rw [← (z.2 i hi).1]; exact e2)).2.1, (z.2 i hi).2.1 e2⟩
      have hh := hy hal τ1 R1 R2
      simp (disch := omega) only [forall_eq, true_and, and_true, and_self, not_true_eq_false, not_false_eq_true, false_imp_iff, true_imp_iff, imp_self, implies_true, ne_eq, reduceIte, cl, cl0, cl1, cl2, vpn, vp0, le8, le16, le40, le640, le1400, le6400, lt8, lt16, le15, le2, nI_leI, nI_ltI, nI_eq, nI_1, nI_add, n_le0, n_lt0, n_0le, n_eq0, n_eq1, n_eq2, n_m1, n_m1r, Nat.reduceEqDiff, Nat.reduceAdd, Int32.add_zero, nI_pred, div16, mul15, mul40, mul16, mul640, mulr16, xu_s, xu_c, xu_k, xu_cc, rows_xu, xf_s, xf_c, rows_xf, xul_c, rows_xul, xul_L, lgc, n10, R3]
      exact ⟨nar_01 1 (Or.inr rfl), hh⟩
    · obtain ⟨m2, rfl⟩ : ∃ m2, m1 = m2 + 1 := ⟨m1 - 1, by omega⟩
      have s2 := rs m0
      have nz : ¬ m2 + 1 = 0 := by omega
      obtain ⟨o, q, o1, o2, o3, o4⟩ := R4' m2 (by omega)
      have o6 := o1.1
      have q6 := o2.1
      obtain ⟨dv, dm⟩ := d640 (o := o) q6
      have eS : nI (640 * o + q) - nI (o * 640) = nI q := by rw [sub_nI (by omega)]; congr 1; omega
      have m6 : m2 < 409600 := by omega
      obtain ⟨g1, g2, g3⟩ : τ1 40 = σ 40 ∧ τ1 41 = σ 41 ∧ τ1 42 = σ 42 := ⟨by rw [R1 40 (by decide) (by decide) (by decide)]; exact hE 40 (by decide) (by decide), by rw [R1 41 (by decide) (by decide) (by decide)]; exact hE 41 (by decide) (by decide), by rw [R1 42 (by decide) (by decide) (by decide)]; exact hE 42 (by decide) (by decide)⟩
      obtain ⟨τ2, e2'⟩ : ∃ τ2, xu τ1 31 31 (nI m2) = τ2 := ⟨_, rfl⟩
      have vb2 : ∀ k, vBit τ2 k = vBit τ1 k := fun k => by rw [← e2', vb_x _ _ _ _ (by decide)]
      have P2 : RV τ τ2 (oB σ) (oM σ) (oH σ) (oS σ) F (oV σ) ua ub (fun x y => x = o ∧ y = q) m2 := by
        refine ⟨fun d d1 d2 d3 => by rw [← e2', xu_c _ _ _ _ d3]; exact R1 d d1 d2 d3, fun k hk => by rw [← e2', xu_k _ _ _ _ hk]; exact R2 k hk, by rw [← e2', xu_s], fun j hj => ?_, ?_, fun a b ha hb hv => ?_, fun a b ha hb hv => ?_⟩
        · obtain ⟨a, b, a1, a2, a3, a4⟩ := R4' j (by omega)
          exact ⟨a, b, a1, a2, by rw [← e2', xu_c _ _ _ _ (by decide)]; exact a3, by rw [vb2]; exact a4⟩
        · simp only [vb2]; omega
        · rw [vb2] at hv; exact R6 a b ha hb hv
        · rw [vb2] at hv
          rcases R7 a b ha hb hv with ⟨j, j1, j2⟩ | z | z
          · by_cases ej : j = m2
            · right; left
              rw [ej, o3] at j2
              have b6 := hb.1
              have a6 := ha.1
              have := (nI_eq (by omega) (by omega)).mp j2
              omega
            · left; exact ⟨j, by omega, by rw [← e2', xu_c _ _ _ _ (by decide)]; exact j2⟩
          · exact z.elim
          · refine Or.inr (Or.inr ⟨z.1, fun i hi => ⟨(z.2 i hi).1, fun w => ?_, (z.2 i hi).2.2⟩⟩)
            have := (z.2 i hi).2.1 w
            dsimp only at this ⊢
            rw [vb2]; exact this
      have hRel := R6 o q o1 o2 o4
      have meas : (τ1 31 31).toNatClampNeg = m2 + 1 := by rw [R3, cl (by omega)]
      have dead : ¬ oH σ o = oH σ q → ∃ n, p_Mod_alike_L196 (p_Mod_alike_L85 Q f) Q n 0 (nI o) (nI q) 0 τ2 := fun hne => by
        refine ⟨1, ?_⟩
        show b_Mod_alike_L196 (p_Mod_alike_L85 Q f) (p_Mod_alike_L196 (p_Mod_alike_L85 Q f) Q 0) Q 0 (nI o) (nI q) 0 τ2
        unfold b_Mod_alike_L196
        refine ⟨fun _ => hnx (0, τ2) (Or.inr ⟨rfl, P2.1, P2.2.1, fun hal => ?_⟩) ?_, fun z => absurd rfl z⟩
        · obtain ⟨Rel, hb, hr⟩ := hal.2.1 s2
          exact hne (hb o q (hRel Rel hb hr)).2.2.1
        · dsimp only
          rw [if_pos rfl, if_neg n10]; omega
      have alive : oH σ o = oH σ q → ∃ n, p_Mod_alike_L196 (p_Mod_alike_L85 Q f) Q n 1 (nI o) (nI q) 0 τ2 := fun heq => by
        have em : oM σ o = oM σ q := by
          have := ((oH_eq hI o1 o2).mp heq).2.2
          unfold oM; rw [this]
        have m16 := (hG.1 o o1).1.2.2.2.1
        refine lpS (S := Int32 × xS) (fun f' i s => p_Mod_alike_L196 (p_Mod_alike_L85 Q f) Q f' s.1 (nI o) (nI q) (nI i) s.2) (fun i s => (s.1 = 1 ∧ ∃ m', RV τ s.2 (oB σ) (oM σ) (oH σ) (oS σ) F (oV σ) ua ub (fun x y => x = o ∧ y = q) m' ∧ (∀ k, vBit τ2 k = true → vBit s.2 k = true) ∧ m' + cnt (fun k => vBit s.2 k = false) 409600 = m2 + cnt (fun k => vBit τ2 k = false) 409600 ∧ ∀ j, j < i → oS σ o j = oS σ q j ∧ (oS σ o j = 2 → vBit s.2 (640 * oV σ o j + oV σ q j) = true) ∧ (¬ oS σ o j = 2 → F o j = F q j)) ∨ (s.1 = 0 ∧ (∀ d, d ≠ 59 → d ≠ 60 → d ≠ 31 → s.2 d = τ d) ∧ (∀ k, k ≠ 31 → s.2 31 k = τ 31 k) ∧ ¬ AL (oB σ) (oM σ) (oH σ) (oS σ) F (oV σ) sa sb va vb ua ub)) (oM σ o) ?_ ?_ (s := (1, τ2)) (Or.inl ⟨rfl, m2, P2, fun _ h => h, rfl, fun j hj => by omega⟩)
        · rintro f' i ⟨z, τ3⟩ hi hs' hn'
          dsimp only at hs' hn' ⊢
          show b_Mod_alike_L196 (p_Mod_alike_L85 Q f) (p_Mod_alike_L196 (p_Mod_alike_L85 Q f) Q f') Q z (nI o) (nI q) (nI i) τ3
          unfold b_Mod_alike_L196
          rcases hs' with ⟨rfl, m', P', V', C', F'⟩ | ⟨rfl, f1, f2, hna⟩
          · have t3 := P'.1
            have e42 : τ3 42 o = nI (oM σ o) := by rw [t3 42 (by decide) (by decide) (by decide), hE 42 (by decide) (by decide)]; exact (hG.1 o o1).1.2.2.1
            have e46 : τ3 46 = σ 46 := by rw [t3 46 (by decide) (by decide) (by decide), hE 46 (by decide) (by decide)]
            have e47 : τ3 47 = σ 47 := by rw [t3 47 (by decide) (by decide) (by decide), hE 47 (by decide) (by decide)]
            have l2 : ¬ oM σ o ≤ i := by omega
            simp (disch := omega) only [forall_eq, true_and, and_true, and_self, not_true_eq_false, not_false_eq_true, false_imp_iff, true_imp_iff, imp_self, implies_true, ne_eq, reduceIte, cl, cl0, cl1, cl2, vpn, vp0, le8, le16, le40, le640, le1400, le6400, lt8, lt16, le15, le2, nI_leI, nI_ltI, nI_eq, nI_1, nI_add, n_le0, n_lt0, n_0le, n_eq0, n_eq1, n_eq2, n_m1, n_m1r, Nat.reduceEqDiff, Nat.reduceAdd, Int32.add_zero, nI_pred, div16, mul15, mul40, mul16, mul640, mulr16, xu_s, xu_c, xu_k, xu_cc, rows_xu, xf_s, xf_c, rows_xf, xul_c, rows_xul, xul_L, lgc, n10, e42, l2, e46, e47]
            refine e_mMay (x := oV σ o i) (y := oV σ q i) (fun a ha => ha.1) P' (fun w2 wst => ?_) _ (fun τ4 m4 P4 V4 C4 x1 x2 x3 => ?_) (fun hno => ?_)
            · have w2' : oS σ o i = 2 := w2
              have w3' : oS σ q i = 2 := by show σ 46 (15 * q + i) = 2; rw [← wst]; exact w2
              obtain ⟨b1, b2, _⟩ := (hG.2.1 o i o1 hi).2 w2'
              obtain ⟨d1, d2, _⟩ := (hG.2.1 q i o2 (by omega)).2 w3'
              exact ⟨b2, d2, b1, d1, fun Rel hb hr => ((hb o q (hRel Rel hb hr)).2.2.2 i hi).2.1 w2'⟩
            · refine hn' (1, τ4) (Or.inl ⟨rfl, m4, P4, fun k hk => V4 k (V' k hk), by dsimp only; omega, fun j hj => ?_⟩)
              by_cases ej : j = i
              · rw [ej]; exact ⟨x1, x2, fun w => by rw [hF, hF]; exact x3 w⟩
              · obtain ⟨y1, y2, y3⟩ := F' j (by omega)
                exact ⟨y1, fun w => V4 _ (y2 w), y3⟩
            · refine hn' (0, τ3) (Or.inr ⟨rfl, P'.1, P'.2.1, fun hal => ?_⟩)
              obtain ⟨Rel, hb, hr⟩ := hal.2.1 s2
              have z := (hb o q (hRel Rel hb hr)).2.2.2 i hi
              exact hno ⟨z.1, fun w => by have := z.2.2 w; rw [hF, hF] at this; exact this⟩
          · refine ⟨fun _ => hnx (0, τ3) (Or.inr ⟨rfl, f1, f2, hna⟩) ?_, fun z => absurd rfl z⟩
            dsimp only
            rw [if_pos rfl, if_neg n10]; omega
        · rintro f' ⟨z, τ3⟩ hs'
          dsimp only at hs' ⊢
          show b_Mod_alike_L196 (p_Mod_alike_L85 Q f) (p_Mod_alike_L196 (p_Mod_alike_L85 Q f) Q f') Q z (nI o) (nI q) (nI (oM σ o)) τ3
          unfold b_Mod_alike_L196
          rcases hs' with ⟨rfl, m', P', V', C', F'⟩ | ⟨rfl, f1, f2, hna⟩
          · have e42 : τ3 42 o = nI (oM σ o) := by rw [P'.1 42 (by decide) (by decide) (by decide), hE 42 (by decide) (by decide)]; exact (hG.1 o o1).1.2.2.1
            simp (disch := omega) only [forall_eq, true_and, and_true, and_self, not_true_eq_false, not_false_eq_true, false_imp_iff, true_imp_iff, imp_self, implies_true, ne_eq, reduceIte, cl, cl0, cl1, cl2, vpn, vp0, le8, le16, le40, le640, le1400, le6400, lt8, lt16, le15, le2, nI_leI, nI_ltI, nI_eq, nI_1, nI_add, n_le0, n_lt0, n_0le, n_eq0, n_eq1, n_eq2, n_m1, n_m1r, Nat.reduceEqDiff, Nat.reduceAdd, Int32.add_zero, nI_pred, div16, mul15, mul40, mul16, mul640, mulr16, xu_s, xu_c, xu_k, xu_cc, rows_xu, xf_s, xf_c, rows_xf, xul_c, rows_xul, xul_L, lgc, n10, e42, Nat.le_refl]
            obtain ⟨p1, p2, p3, p4, p5, p6, p7⟩ := id P'
            refine hnx (1, τ3) (Or.inl ⟨rfl, m', ⟨p1, p2, p3, p4, p5, p6, fun a b ha hb hv => ?_⟩, fun e => V' _ (by rw [vb2]; exact r1 e), fun _ => s2⟩) ?_
            · rcases p7 a b ha hb hv with z | ⟨z1, z2⟩ | z
              · exact Or.inl z
              · rw [z1, z2]
                exact Or.inr (Or.inr ⟨heq, F'⟩)
              · exact Or.inr (Or.inr z)
            · dsimp only
              rw [if_neg n10, if_neg n10, p3, cl (by omega), meas]
              simp only [vb2] at C'
              omega
          · refine ⟨fun _ => hnx (0, τ3) (Or.inr ⟨rfl, f1, f2, hna⟩) ?_, fun z => absurd rfl z⟩
            dsimp only
            rw [if_pos rfl, if_neg n10]; omega
      have v1 : vp_in (nI m2) 409600 := vp_in_nI m6 (by decide)
      have iff := oH_eq hI o1 o2
      simp (disch := omega) only [forall_eq, true_and, and_true, and_self, not_true_eq_false, not_false_eq_true, false_imp_iff, true_imp_iff, imp_self, implies_true, ne_eq, reduceIte, cl, cl0, cl1, cl2, vpn, vp0, le8, le16, le40, le640, le1400, le6400, lt8, lt16, le15, le2, nI_leI, nI_ltI, nI_eq, nI_1, nI_add, n_le0, n_lt0, n_0le, n_eq0, n_eq1, n_eq2, n_m1, n_m1r, Nat.reduceEqDiff, Nat.reduceAdd, Int32.add_zero, nI_pred, div16, mul15, mul40, mul16, mul640, mulr16, xu_s, xu_c, xu_k, xu_cc, rows_xu, xf_s, xf_c, rows_xf, xul_c, rows_xul, xul_L, lgc, n10, R3, nz, v1, o3, div640, dv, mulr640, eS, e2', g1, g2, g3, vp_in_nI m6]
      refine ⟨fun h => dead (fun w => h (iff.mp w).1), fun h1 => ⟨fun h => dead (fun w => h (iff.mp w).2.1), fun h2 => ⟨fun h => dead (fun w => h (iff.mp w).2.2), fun h3 => alive (iff.mpr ⟨h1, h2, h3⟩)⟩⟩⟩
  · exact ⟨fun _ => ⟨nar_01 0 (Or.inl rfl), hn hna τ1 f1 f2⟩, fun z => absurd rfl z⟩
